/-! the world between the THREADS -/
theorem evOK_2 {s t : St} (p : Nat) (e5 : t.1 75 = s.1 75) (e6 : t.1 76 = s.1 76) : ∀ m k n, evOK s p m k n → evOK t p m k n
  | 0, _, _, h => h
  | m + 1, k, n, h => by
    unfold evOK wkn at *
    rw [e5, e6]
    exact ⟨h.1, h.2.1, h.2.2.1, h.2.2.2.1, evOK_2 p e5 e6 m _ _ h.2.2.2.2⟩
theorem XW_2 {s t : St} {p a : Nat} (e1 : t.1 71 = s.1 71) (e2 : t.1 72 = s.1 72) (e5 : t.1 75 = s.1 75) (e6 : t.1 76 = s.1 76) (h : XW s p a) : XW t p a := by
  obtain ⟨f, u, h1, h2, h3, h4, h5⟩ := h
  exact ⟨f, u, by rw [e1]; exact h1, by rw [e2]; exact h2, h3, h4, evOK_2 p e5 e6 _ _ _ h5⟩
theorem si_id {s : St} {id o e a : Nat} {v : Int32} (h : a ≠ id) : (si s id o e v).1 a = s.1 a := by funext b c; exact si_ne (fun z => h z.1)
def SW (s : St) (p a : Nat) : Prop := a < 40 ∧ ((s.1 68 p a = 2 ∨ s.1 68 p a = 9 ∨ s.1 68 p a = 18) → okN 10 (s.1 69 p a)) ∧ ((s.1 68 p a = 9 ∨ s.1 68 p a = 11) → okN 8 (s.1 70 p a)) ∧ (s.1 68 p a = 14 → okN 6 (s.1 70 p a)) ∧
  ((s.1 68 p a = 2 ∨ s.1 68 p a = 5 ∨ s.1 68 p a = 6 ∨ s.1 68 p a = 8 ∨ s.1 68 p a = 11 ∨ s.1 68 p a = 13 ∨ s.1 68 p a = 14) → XW s p a)
def nuN (s : St) (i a : Nat) : Nat := (s.1 70 (pN s i) a).toNatClampNeg
def leN (s : St) (i a : Nat) : Nat := (s.1 69 (pN s i) a).toNatClampNeg
theorem nz0 : vp_nar .boolean 0 = 0 := by decide
theorem nz1 : vp_nar .boolean 1 = 1 := by decide
def wtV (s : St) (i a : Nat) : Int32 :=
  if s.1 68 (pN s i) a = 9 then (if s.1 114 0 (nuN s i a) = 0 then 1 else 0) else if s.1 68 (pN s i) a = 11 then s.1 114 0 (nuN s i a)
  else if s.1 68 (pN s i) a = 14 then (if s.1 44 i 0 = -1 then (if s.1 70 (pN s i) a = s.1 32 i 0 ∨ ¬ s.1 38 (nuN s i a) 0 = 1 then 0 else 1) else (if pl81 s (nuN s i a) (s.1 32 i 0) (cN s (nuN s i a)) 0 = -1 then 0 else 1)) else 0
def brS (s : St) (i : Nat) : St := if s.1 44 i 0 = -1 then s else si (rmS s (s.1 44 i 0).toNatClampNeg (pl81 s (s.1 44 i 0).toNatClampNeg (s.1 32 i 0) (cN s (s.1 44 i 0).toNatClampNeg) 0)) 44 i 0 (-1)
theorem GV_br {s : St} {i : Nat} (h : GV s) : GV (brS s i) := by
  unfold brS
  split
  · exact h
  · exact GV_si (GV_rm h) (Or.inl rfl)
def tf2 (t : St) (i : Nat) : St := si (sl t 45 i 0 (t.2 83 i 0)) 46 i 0 (t.1 82 i 0)
theorem GV_tf2 {t : St} {i : Nat} (h : GV t) : GV (tf2 t i) := GV_si (GV_sl h) (h 82 i 0 : okN 9 _)
def tf3 (s : St) (i : Nat) : St := rmS (tf2 (brS s i) i) i 0
def tfS (s : St) (i : Nat) : St := tellS (tf3 s i) 0 1 ((tf3 s i).1 32 i 0) ((tf3 s i).2 45 i 0)
theorem GV_tf {s : St} {i : Nat} (h : GV s) : GV (tfS s i) := GV_tell (GV_rm (GV_tf2 (GV_br h)))
def tvS (s : St) (i a : Nat) : St := si (sl (wS s i (pN s i) a) 45 i 0 (wV s i (pN s i) a)) 46 i 0 0
theorem GV_w {s : St} {i p a : Nat} (h : GV s) : GV (wS s i p a) := GV_1 (wkS_1 p i _ _ _ _) h
theorem GV_tv {s : St} {i a : Nat} (h : GV s) : GV (tvS s i a) := GV_si (GV_sl (GV_w h)) (okN_of (q := 0) (by decide))
set_option maxRecDepth 100000 in
theorem c_waits (i : Nat) (hi : i < 7) (s : St) (a : Nat) (hG : GV s) (hS : SW s (pN s i) a) : Ri 1 89 [.ref 143, .ref (FA i), .int (nI a)] s (fun v s1 => v = wtV s i a ∧ s1 = s) := by
  refine ct_of (by decide +kernel) (Nat.le_of_ble_eq_true rfl) ?_
  show Wp _ _ _ _ _ _ [(0, .ref 143), (1, .ref (FA i)), (2, .int (nI a))] _ _ _
  refine x_aload_n (pc := 0) d89_0 rfl ?_
  refine y_getp (pc := 1) (p := pN s i) d89_1 fk7_130 (shF i hi) rfl ((hG.P i).1) ((hG.P i).2) ?_
  refine y_getr (pc := 4) d89_4 fk7_175 (shP (pN s i) ((hG.P i).2)) rfl ?_
  refine x_iload_n (pc := 7) d89_7 rfl ?_
  refine y_ialdN (pc := 8) (q := a) d89_8 (shP3 (pN s i) ((hG.P i).2)) (hS.1) (by decide) (rfl) ?_
  refine x_istore_n (pc := 9) d89_9 (by decide) ?_
  refine x_aload_n (pc := 10) d89_10 rfl ?_
  refine y_getp (pc := 11) (p := pN s i) d89_11 fk7_130 (shF i hi) rfl ((hG.P i).1) ((hG.P i).2) ?_
  refine y_getr (pc := 14) d89_14 fk7_134 (shP (pN s i) ((hG.P i).2)) rfl ?_
  refine x_iload_n (pc := 17) d89_17 rfl ?_
  refine y_ialdN (pc := 18) (q := a) d89_18 (shP1 (pN s i) ((hG.P i).2)) (hS.1) (by decide) (rfl) ?_
  by_cases hk9 : s.1 68 (pN s i) a = 9
  · refine x_lookup (pc := 19) (tgt := 52) (off := 33) d89_19 (by decide) (by rw [hk9]; decide) (by decide) ?_
    refine x_aload_n (pc := 52) d89_52 rfl ?_
    refine y_getr (pc := 53) d89_53 fk7_9 shL143 rfl ?_
    refine x_iload_n (pc := 56) d89_56 rfl ?_
    refine y_zaldN (pc := 57) (q := nuN s i a) d89_57 shL144 ((okN_c (by decide) (hS.2.2.1 (Or.inl hk9))).2) (by decide) ((okN_c (by decide) (hS.2.2.1 (Or.inl hk9))).1) ?_
    refine x_if_ne (pc := 58) (tgt := 65) d89_58 (by decide) (fun c58 => ?_) (fun c58 => ?_)
    · skip
      refine x_iconst (pc := 65) (v := (0)) d89_65 (by decide) ?_
      exact y_zret (pc := 66) d89_66 rfl (by first | exact Or.inl rfl | exact Or.inr rfl) (⟨by unfold wtV; rw [if_pos hk9, if_neg c58], rfl⟩)
    · skip
      refine x_iconst (pc := 61) (v := (1)) d89_61 (by decide) ?_
      refine x_goto (pc := 62) (tgt := 66) d89_62 (by decide) ?_
      exact y_zret (pc := 66) d89_66 rfl (by first | exact Or.inl rfl | exact Or.inr rfl) (⟨by unfold wtV; rw [if_pos hk9, if_pos c58], rfl⟩)
  by_cases hk11 : s.1 68 (pN s i) a = 11
  · refine x_lookup (pc := 19) (tgt := 67) (off := 48) d89_19 (by decide) (by rw [hk11]; decide) (by decide) ?_
    refine x_aload_n (pc := 67) d89_67 rfl ?_
    refine y_getr (pc := 68) d89_68 fk7_9 shL143 rfl ?_
    refine x_iload_n (pc := 71) d89_71 rfl ?_
    refine y_zaldN (pc := 72) (q := nuN s i a) d89_72 shL144 ((okN_c (by decide) (hS.2.2.1 (Or.inr hk11))).2) (by decide) ((okN_c (by decide) (hS.2.2.1 (Or.inr hk11))).1) ?_
    exact y_zret (pc := 73) d89_73 rfl (by obtain ⟨q, hq, e⟩ := (hG 114 0 (nuN s i a) : okN 2 _); rw [e]; rcases (by omega : q = 0 ∨ q = 1) with rfl | rfl; exact Or.inl rfl; exact Or.inr rfl) (⟨by unfold wtV; rw [if_neg hk9, if_pos hk11], rfl⟩)
  by_cases hk14 : s.1 68 (pN s i) a = 14
  · refine x_lookup (pc := 19) (tgt := 74) (off := 55) d89_19 (by decide) (by rw [hk14]; decide) (by decide) ?_
    refine x_aload_n (pc := 74) d89_74 rfl ?_
    refine y_geti (pc := 75) d89_75 fk7_123 (shF i hi) rfl ?_
    refine x_iconst (pc := 78) (v := (-1)) d89_78 (by decide) ?_
    refine x_icmp_eq (pc := 79) (tgt := 110) d89_79 (by decide) (fun c79 => ?_) (fun c79 => ?_)
    · skip
      refine x_iload_n (pc := 110) d89_110 rfl ?_
      refine x_aload_n (pc := 111) d89_111 rfl ?_
      refine y_geti (pc := 112) d89_112 fk7_116 (shF i hi) rfl ?_
      refine x_icmp_eq (pc := 115) (tgt := 135) d89_115 (by decide) (fun c115 => ?_) (fun c115 => ?_)
      · skip
        refine x_iconst (pc := 135) (v := (0)) d89_135 (by decide) ?_
        exact y_zret (pc := 136) d89_136 rfl (by first | exact Or.inl rfl | exact Or.inr rfl) (⟨by unfold wtV; rw [if_neg hk9, if_neg hk11, if_pos hk14, if_pos c79, if_pos (Or.inl c115)], rfl⟩)
      · skip
        refine x_aload_n (pc := 118) d89_118 rfl ?_
        refine y_getr (pc := 119) d89_119 fk7_36 shL143 rfl ?_
        refine x_iload_n (pc := 122) d89_122 rfl ?_
        refine y_aaldFN (pc := 123) (q := nuN s i a) d89_123 ((okN_c (by decide) (hS.2.2.2.1 hk14)).2) ((okN_c (by decide) (hS.2.2.2.1 hk14)).1) ?_
        refine y_geti (pc := 124) d89_124 fk7_181 (shF (nuN s i a) ((Nat.lt_trans (okN_c (by decide) (hS.2.2.2.1 hk14)).2 (by decide)))) rfl ?_
        refine x_iconst (pc := 127) (v := (1)) d89_127 (by decide) ?_
        refine x_icmp_ne (pc := 128) (tgt := 135) d89_128 (by decide) (fun c128 => ?_) (fun c128 => ?_)
        · skip
          refine x_iconst (pc := 135) (v := (0)) d89_135 (by decide) ?_
          exact y_zret (pc := 136) d89_136 rfl (by first | exact Or.inl rfl | exact Or.inr rfl) (⟨by unfold wtV; rw [if_neg hk9, if_neg hk11, if_pos hk14, if_pos c79, if_pos (Or.inr c128)], rfl⟩)
        · skip
          refine x_iconst (pc := 131) (v := (1)) d89_131 (by decide) ?_
          refine x_goto (pc := 132) (tgt := 136) d89_132 (by decide) ?_
          exact y_zret (pc := 136) d89_136 rfl (by first | exact Or.inl rfl | exact Or.inr rfl) (⟨by unfold wtV; rw [if_neg hk9, if_neg hk11, if_pos hk14, if_pos c79, if_neg (fun h => h.elim c115 (fun h => h c128))], rfl⟩)
    · skip
      refine x_aload_n (pc := 82) d89_82 rfl ?_
      refine y_getr (pc := 83) d89_83 fk7_36 shL143 rfl ?_
      refine x_iload_n (pc := 86) d89_86 rfl ?_
      refine y_aaldFN (pc := 87) (q := nuN s i a) d89_87 ((okN_c (by decide) (hS.2.2.2.1 hk14)).2) ((okN_c (by decide) (hS.2.2.2.1 hk14)).1) ?_
      refine y_getr (pc := 88) d89_88 fk7_75 (shF (nuN s i a) ((Nat.lt_trans (okN_c (by decide) (hS.2.2.2.1 hk14)).2 (by decide)))) rfl ?_
      refine x_aload_n (pc := 91) d89_91 rfl ?_
      refine y_geti (pc := 92) d89_92 fk7_116 (shF i hi) rfl ?_
      refine y_cV1i (pc := 95) d89_95 ml7_126 mv82 (shR (nuN s i a) ((Nat.lt_trans (okN_c (by decide) (hS.2.2.2.1 hk14)).2 (by decide)))) (c_placeFrom (nuN s i a) (Nat.lt_trans (okN_c (by decide) (hS.2.2.2.1 hk14)).2 (by decide)) s _ (cN s (nuN s i a)) (hG.C _).2 (hG.C _).1) (by decide) (Nat.le_of_ble_eq_true rfl) ⟨Nat.zero_le _, Nat.zero_le _⟩ (fun v s hq => ?_)
      obtain ⟨rfl, rfl⟩ := hq
      refine x_iconst (pc := 98) (v := (-1)) d89_98 (by decide) ?_
      refine x_icmp_eq (pc := 99) (tgt := 106) d89_99 (by decide) (fun c99 => ?_) (fun c99 => ?_)
      · skip
        refine x_iconst (pc := 106) (v := (0)) d89_106 (by decide) ?_
        refine x_goto (pc := 107) (tgt := 136) d89_107 (by decide) ?_
        exact y_zret (pc := 136) d89_136 rfl (by first | exact Or.inl rfl | exact Or.inr rfl) (⟨by unfold wtV; rw [if_neg hk9, if_neg hk11, if_pos hk14, if_neg c79, if_pos c99], rfl⟩)
      · skip
        refine x_iconst (pc := 102) (v := (1)) d89_102 (by decide) ?_
        refine x_goto (pc := 103) (tgt := 136) d89_103 (by decide) ?_
        exact y_zret (pc := 136) d89_136 rfl (by first | exact Or.inl rfl | exact Or.inr rfl) (⟨by unfold wtV; rw [if_neg hk9, if_neg hk11, if_pos hk14, if_neg c79, if_neg c99], rfl⟩)
  refine x_lookup (pc := 19) (tgt := 137) (off := 118) d89_19 (by decide) (show Op.lookupswitch.offset [(9, 33), (11, 48), (14, 55)] _ _ = _ by rw [lv_osw hk9 (by decide), lv_osw hk11 (by decide), lv_osw hk14 (by decide)]; rfl) (by decide) ?_
  refine x_iconst (pc := 137) (v := (0)) d89_137 (by decide) ?_
  exact y_zret (pc := 138) d89_138 rfl (by first | exact Or.inl rfl | exact Or.inr rfl) (⟨by unfold wtV; rw [if_neg hk9, if_neg hk11, if_neg hk14], rfl⟩)
set_option maxRecDepth 100000 in
theorem c_break (i : Nat) (hi : i < 7) (s : St) (hG : GV s) : Rv 1 81 [.ref 143, .ref (FA i)] s (fun s1 => s1 = brS s i) := by
  refine ct_of (by decide +kernel) (Nat.le_of_ble_eq_true rfl) ?_
  show Wp _ _ _ _ _ _ [(0, .ref 143), (1, .ref (FA i))] _ _ _
  refine x_aload_n (pc := 0) d81_0 rfl ?_
  refine y_geti (pc := 1) d81_1 fk7_123 (shF i hi) rfl ?_
  refine x_iconst (pc := 4) (v := (-1)) d81_4 (by decide) ?_
  refine x_icmp_eq (pc := 5) (tgt := 38) d81_5 (by decide) (fun c5 => ?_) (fun c5 => ?_)
  · skip
    exact y_vret (pc := 38) d81_38 rfl (by unfold brS; first | rw [if_pos c5] | rw [if_neg c5])
  · skip
    refine x_aload_n (pc := 8) d81_8 rfl ?_
    refine y_getr (pc := 9) d81_9 fk7_36 shL143 rfl ?_
    refine x_aload_n (pc := 12) d81_12 rfl ?_
    refine y_geti (pc := 13) d81_13 fk7_123 (shF i hi) rfl ?_
    refine y_aaldFN (pc := 16) (q := (s.1 44 i 0).toNatClampNeg) d81_16 ((okN_c (by decide) ((show s.1 44 i 0 = -1 ∨ okN 6 _ from hG 44 i 0).resolve_left c5)).2) ((okN_c (by decide) ((show s.1 44 i 0 = -1 ∨ okN 6 _ from hG 44 i 0).resolve_left c5)).1) ?_
    refine y_getr (pc := 17) d81_17 fk7_75 (shF (s.1 44 i 0).toNatClampNeg ((Nat.lt_trans (okN_c (by decide) ((show s.1 44 i 0 = -1 ∨ okN 6 _ from hG 44 i 0).resolve_left c5)).2 (by decide)))) rfl ?_
    refine x_astore_n (pc := 20) d81_20 (by decide) ?_
    refine x_aload_n (pc := 21) d81_21 rfl ?_
    refine x_aload_n (pc := 22) d81_22 rfl ?_
    refine x_aload_n (pc := 23) d81_23 rfl ?_
    refine y_geti (pc := 24) d81_24 fk7_116 (shF i hi) rfl ?_
    refine y_cV1i (pc := 27) d81_27 ml7_126 mv82 (shR (s.1 44 i 0).toNatClampNeg ((Nat.lt_trans (okN_c (by decide) ((show s.1 44 i 0 = -1 ∨ okN 6 _ from hG 44 i 0).resolve_left c5)).2 (by decide)))) (c_placeFrom (s.1 44 i 0).toNatClampNeg (Nat.lt_trans (okN_c (by decide) ((show s.1 44 i 0 = -1 ∨ okN 6 _ from hG 44 i 0).resolve_left c5)).2 (by decide)) s _ (cN s (s.1 44 i 0).toNatClampNeg) (hG.C _).2 (hG.C _).1) (by decide) (Nat.le_of_ble_eq_true rfl) ⟨Nat.zero_le _, Nat.zero_le _⟩ (fun v s hq => ?_)
    obtain ⟨rfl, rfl⟩ := hq
    refine y_cV1v (pc := 30) d81_30 ml7_113 mv78 (shR (s.1 44 i 0).toNatClampNeg ((Nat.lt_trans (okN_c (by decide) ((show s.1 44 i 0 = -1 ∨ okN 6 _ from hG 44 i 0).resolve_left c5)).2 (by decide)))) (c_rm (s.1 44 i 0).toNatClampNeg (Nat.lt_trans (okN_c (by decide) ((show s.1 44 i 0 = -1 ∨ okN 6 _ from hG 44 i 0).resolve_left c5)).2 (by decide)) _ _ (hG.C _)) (by decide) (Nat.le_of_ble_eq_true rfl) ⟨Nat.zero_le _, Nat.zero_le _⟩ (fun s hq => ?_)
    subst hq
    refine x_aload_n (pc := 33) d81_33 rfl ?_
    refine x_iconst (pc := 34) (v := (-1)) d81_34 (by decide) ?_
    refine y_puti (pc := 35) d81_35 fk7_123 (shF i hi) rfl rfl ⟨rfl, rfl⟩ ?_
    exact y_vret (pc := 38) d81_38 rfl (by unfold brS; first | rw [if_pos c5] | rw [if_neg c5])
set_option maxRecDepth 100000 in
theorem c_takeFromRow (i : Nat) (hi : i < 7) (s : St) (hG : GV s) : Ri 2 80 [.ref 143, .ref (FA i)] s (fun v s1 => v = 5 ∧ s1 = tfS s i) := by
  refine ct_of (by decide +kernel) (Nat.le_of_ble_eq_true rfl) ?_
  show Wp _ _ _ _ _ _ [(0, .ref 143), (1, .ref (FA i))] _ _ _
  refine x_aload_n (pc := 0) d80_0 rfl ?_
  refine x_aload_n (pc := 1) d80_1 rfl ?_
  refine y_cV1v (pc := 2) d80_2 ml7_95 mv81 shL143 (c_break i hi s hG) (by decide) (Nat.le_of_ble_eq_true rfl) ⟨Nat.zero_le _, Nat.zero_le _⟩ (fun s hq => ?_)
  subst hq
  refine x_aload_n (pc := 5) d80_5 rfl ?_
  refine y_getr (pc := 6) d80_6 fk7_75 (shF i hi) rfl ?_
  refine x_astore_n (pc := 9) d80_9 (by decide) ?_
  refine x_aload_n (pc := 10) d80_10 rfl ?_
  refine x_aload_n (pc := 11) d80_11 rfl ?_
  refine y_getr (pc := 12) d80_12 fk7_99 (shR i hi) rfl ?_
  refine x_iconst (pc := 15) (v := (0)) d80_15 (by decide) ?_
  refine y_laldN (pc := 16) (q := 0) d80_16 (shR3 i hi) (by decide) (by decide) (rfl) ?_
  refine y_putl (pc := 17) d80_17 fk7_102 (shF i hi) rfl rfl rfl ?_
  refine x_aload_n (pc := 20) d80_20 rfl ?_
  refine x_aload_n (pc := 21) d80_21 rfl ?_
  refine y_getr (pc := 22) d80_22 fk7_106 (shR i hi) rfl ?_
  refine x_iconst (pc := 25) (v := (0)) d80_25 (by decide) ?_
  refine y_ialdN (pc := 26) (q := 0) d80_26 (shR2 i hi) (by decide) (by decide) (rfl) ?_
  refine y_puti (pc := 27) d80_27 fk7_110 (shF i hi) rfl rfl ⟨rfl, rfl⟩ ?_
  refine x_aload_n (pc := 30) d80_30 rfl ?_
  refine x_iconst (pc := 31) (v := (0)) d80_31 (by decide) ?_
  refine y_cV1v (pc := 32) d80_32 ml7_113 mv78 (shR i hi) (c_rm i hi _ _ ((GV_tf2 (GV_br hG)).C i)) (by decide) (Nat.le_of_ble_eq_true rfl) ⟨Nat.zero_le _, Nat.zero_le _⟩ (fun s hq => ?_)
  subst hq
  refine x_aload_n (pc := 35) d80_35 rfl ?_
  refine y_getr (pc := 36) d80_36 fk7_32 shL143 rfl ?_
  refine x_iconst (pc := 39) (v := (1)) d80_39 (by decide) ?_
  refine x_aload_n (pc := 40) d80_40 rfl ?_
  refine y_geti (pc := 41) d80_41 fk7_116 (shF i hi) rfl ?_
  refine x_aload_n (pc := 44) d80_44 rfl ?_
  refine y_getl (pc := 45) d80_45 fk7_102 (shF i hi) rfl ?_
  refine y_cV3v (pc := 48) d80_48 ml7_119 mv73 (shC 0 (by decide)) (c_tell 0 (by decide) _ _ _ _ ((GV_rm (GV_tf2 (GV_br hG))).H 0)) (by decide) (Nat.le_of_ble_eq_true rfl) ⟨Nat.zero_le _, Nat.zero_le _⟩ (fun s hq => ?_)
  subst hq
  refine x_iconst (pc := 51) (v := (5)) d80_51 (by decide) ?_
  exact y_iret (pc := 52) d80_52 rfl (⟨rfl, rfl⟩)
set_option maxRecDepth 100000 in
theorem c_throwValue (i : Nat) (hi : i < 7) (s : St) (a : Nat) (ha : a < 40) (hG : GV s) (hX : XW s (pN s i) a) : Ri 2 91 [.ref (FA i), .int (nI a)] s (fun v s1 => v = 5 ∧ s1 = tvS s i a) := by
  refine ct_of (by decide +kernel) (Nat.le_of_ble_eq_true rfl) ?_
  show Wp _ _ _ _ _ _ [(0, .ref (FA i)), (1, .int (nI a))] _ _ _
  refine x_aload_n (pc := 0) d91_0 rfl ?_
  refine x_aload_n (pc := 1) d91_1 rfl ?_
  refine y_getp (pc := 2) (p := pN s i) d91_2 fk7_130 (shF i hi) rfl ((hG.P i).1) ((hG.P i).2) ?_
  refine x_iload_n (pc := 5) d91_5 rfl ?_
  refine x_aload_n (pc := 6) d91_6 rfl ?_
  refine y_getr (pc := 7) d91_7 fk7_137 (shF i hi) rfl ?_
  refine y_cV2j (pc := 10) d91_10 ml7_143 mv85 (shP (pN s i) ((hG.P i).2)) (c_work (pN s i) (hG.P i).2 i hi s a ha hX) (by decide) (Nat.le_of_ble_eq_true rfl) ⟨Nat.zero_le _, Nat.zero_le _⟩ (fun v s hq => ?_)
  obtain ⟨rfl, rfl⟩ := hq
  refine y_putl (pc := 13) d91_13 fk7_102 (shF i hi) rfl rfl rfl ?_
  refine x_aload_n (pc := 16) d91_16 rfl ?_
  refine x_iconst (pc := 17) (v := (0)) d91_17 (by decide) ?_
  refine y_puti (pc := 18) d91_18 fk7_110 (shF i hi) rfl rfl ⟨rfl, rfl⟩ ?_
  refine x_iconst (pc := 21) (v := (5)) d91_21 (by decide) ?_
  exact y_iret (pc := 22) d91_22 rfl (⟨rfl, rfl⟩)
def tb1 (s : St) (i a : Nat) : St := sl (si s 114 0 (nuN s i a) 0) 34 i (leN s i a) (s.2 115 0 (nuN s i a))
theorem GV_tb1 {s : St} {i a : Nat} (h : GV s) : GV (tb1 s i a) := GV_sl (GV_si h (okN_of (q := 0) (by decide)))
def tbV (s : St) (i a : Nat) : Int32 := if wtV s i a = 0 then 0 else 4
def tbS (s : St) (i a : Nat) : St := if wtV s i a = 0 then behS (tb1 s i a) i else s
set_option maxRecDepth 100000 in
theorem c_takeFromBox (i : Nat) (hi : i < 7) (s : St) (a : Nat) (hG : GV s) (hS : SW s (pN s i) a) (hk : s.1 68 (pN s i) a = 9) : Ri 2 88 [.ref 143, .ref (FA i), .int (nI a)] s (fun v s1 => v = tbV s i a ∧ s1 = tbS s i a) := by
  refine ct_of (by decide +kernel) (Nat.le_of_ble_eq_true rfl) ?_
  show Wp _ _ _ _ _ _ [(0, .ref 143), (1, .ref (FA i)), (2, .int (nI a))] _ _ _
  refine x_aload_n (pc := 0) d88_0 rfl ?_
  refine x_aload_n (pc := 1) d88_1 rfl ?_
  refine x_iload_n (pc := 2) d88_2 rfl ?_
  refine y_cV2i (pc := 3) d88_3 ml7_171 mv89 shL143 (c_waits i hi s a hG hS) (by decide) (Nat.le_of_ble_eq_true rfl) ⟨Nat.zero_le _, Nat.zero_le _⟩ (fun v s hq => ?_)
  obtain ⟨rfl, rfl⟩ := hq
  refine x_if_eq (pc := 6) (tgt := 11) d88_6 (by decide) (fun c6 => ?_) (fun c6 => ?_)
  · skip
    refine x_aload_n (pc := 11) d88_11 rfl ?_
    refine y_getp (pc := 12) (p := pN s i) d88_12 fk7_130 (shF i hi) rfl ((hG.P i).1) ((hG.P i).2) ?_
    refine y_getr (pc := 15) d88_15 fk7_175 (shP (pN s i) ((hG.P i).2)) rfl ?_
    refine x_iload_n (pc := 18) d88_18 rfl ?_
    refine y_ialdN (pc := 19) (q := a) d88_19 (shP3 (pN s i) ((hG.P i).2)) (hS.1) (by decide) (rfl) ?_
    refine x_istore_n (pc := 20) d88_20 (by decide) ?_
    refine x_aload_n (pc := 21) d88_21 rfl ?_
    refine y_getr (pc := 22) d88_22 fk7_9 shL143 rfl ?_
    refine x_iload_n (pc := 25) d88_25 rfl ?_
    refine x_iconst (pc := 26) (v := (0)) d88_26 (by decide) ?_
    refine y_zastN (pc := 27) (q := nuN s i a) d88_27 shL144 ((okN_c (by decide) (hS.2.2.1 (Or.inl hk))).2) (by decide) ((okN_c (by decide) (hS.2.2.1 (Or.inl hk))).1) ?_
    rw [nz0]
    refine x_aload_n (pc := 28) d88_28 rfl ?_
    refine y_getr (pc := 29) d88_29 fk7_137 (shF i hi) rfl ?_
    refine x_aload_n (pc := 32) d88_32 rfl ?_
    refine y_getp (pc := 33) (p := pN s i) d88_33 fk7_130 (shF i hi) rfl (by rw [si_id (by decide)]; exact (hG.P i).1) ((hG.P i).2) ?_
    refine y_getr (pc := 36) d88_36 fk7_140 (shP (pN s i) ((hG.P i).2)) rfl ?_
    refine x_iload_n (pc := 39) d88_39 rfl ?_
    refine y_ialdN (pc := 40) (q := a) d88_40 (shP2 (pN s i) ((hG.P i).2)) (hS.1) (by decide) (rfl) ?_
    refine x_aload_n (pc := 41) d88_41 rfl ?_
    refine y_getr (pc := 42) d88_42 fk7_15 shL143 rfl ?_
    refine x_iload_n (pc := 45) d88_45 rfl ?_
    refine y_laldN (pc := 46) (q := nuN s i a) d88_46 shL145 ((okN_c (by decide) (hS.2.2.1 (Or.inl hk))).2) (by decide) ((okN_c (by decide) (hS.2.2.1 (Or.inl hk))).1) ?_
    refine y_lastN (pc := 47) (q := leN s i a) d88_47 (shR4 i hi) ((okN_c (by decide) (hS.2.1 (Or.inr (Or.inl hk)))).2) (by decide) (by rw [si_id (by decide)]; exact (okN_c (by decide) (hS.2.1 (Or.inr (Or.inl hk)))).1) ?_
    refine x_aload_n (pc := 48) d88_48 rfl ?_
    refine y_cV0i (pc := 49) d88_49 ml7_147 mv79 (shF i hi) (c_goBehind i hi (tb1 s i a) ((GV_tb1 hG).D i) ((GV_tb1 hG).P i) ((GV_tb1 hG).A i _)) (by decide) (Nat.le_of_ble_eq_true rfl) ⟨Nat.zero_le _, Nat.zero_le _⟩ (fun v s hq => ?_)
    obtain ⟨rfl, rfl⟩ := hq
    exact y_iret (pc := 52) d88_52 rfl (⟨by unfold tbV; rw [if_pos c6], by unfold tbS; rw [if_pos c6]⟩)
  · skip
    refine x_iconst (pc := 9) (v := (4)) d88_9 (by decide) ?_
    exact y_iret (pc := 10) d88_10 rfl (⟨by unfold tbV; rw [if_neg c6], by unfold tbS; rw [if_neg c6]⟩)
def pb0 (s : St) (i a : Nat) : St := si s 114 0 (nuN s i a) 1
def pb1 (s : St) (i a : Nat) : St := sl (wS (pb0 s i a) i (pN s i) a) 115 0 (nuN s i a) (wV (pb0 s i a) i (pN s i) a)
theorem GV_pb0 {s : St} {i a : Nat} (h : GV s) : GV (pb0 s i a) := GV_si h (okN_of (q := 1) (by decide))
theorem GV_pb1 {s : St} {i a : Nat} (h : GV s) : GV (pb1 s i a) := GV_sl (GV_w (GV_pb0 h))
def pbS (s : St) (i a : Nat) : St := if wtV s i a = 0 then behS (pb1 s i a) i else s
set_option maxRecDepth 100000 in
theorem c_putInBox (i : Nat) (hi : i < 7) (s : St) (a : Nat) (hG : GV s) (hS : SW s (pN s i) a) (hk : s.1 68 (pN s i) a = 11) : Ri 2 90 [.ref 143, .ref (FA i), .int (nI a)] s (fun v s1 => v = tbV s i a ∧ s1 = pbS s i a) := by
  refine ct_of (by decide +kernel) (Nat.le_of_ble_eq_true rfl) ?_
  show Wp _ _ _ _ _ _ [(0, .ref 143), (1, .ref (FA i)), (2, .int (nI a))] _ _ _
  refine x_aload_n (pc := 0) d90_0 rfl ?_
  refine x_aload_n (pc := 1) d90_1 rfl ?_
  refine x_iload_n (pc := 2) d90_2 rfl ?_
  refine y_cV2i (pc := 3) d90_3 ml7_171 mv89 shL143 (c_waits i hi s a hG hS) (by decide) (Nat.le_of_ble_eq_true rfl) ⟨Nat.zero_le _, Nat.zero_le _⟩ (fun v s hq => ?_)
  obtain ⟨rfl, rfl⟩ := hq
  refine x_if_eq (pc := 6) (tgt := 11) d90_6 (by decide) (fun c6 => ?_) (fun c6 => ?_)
  · skip
    refine x_aload_n (pc := 11) d90_11 rfl ?_
    refine y_getp (pc := 12) (p := pN s i) d90_12 fk7_130 (shF i hi) rfl ((hG.P i).1) ((hG.P i).2) ?_
    refine y_getr (pc := 15) d90_15 fk7_175 (shP (pN s i) ((hG.P i).2)) rfl ?_
    refine x_iload_n (pc := 18) d90_18 rfl ?_
    refine y_ialdN (pc := 19) (q := a) d90_19 (shP3 (pN s i) ((hG.P i).2)) (hS.1) (by decide) (rfl) ?_
    refine x_istore_n (pc := 20) d90_20 (by decide) ?_
    refine x_aload_n (pc := 21) d90_21 rfl ?_
    refine y_getr (pc := 22) d90_22 fk7_9 shL143 rfl ?_
    refine x_iload_n (pc := 25) d90_25 rfl ?_
    refine x_iconst (pc := 26) (v := (1)) d90_26 (by decide) ?_
    refine y_zastN (pc := 27) (q := nuN s i a) d90_27 shL144 ((okN_c (by decide) (hS.2.2.1 (Or.inr hk))).2) (by decide) ((okN_c (by decide) (hS.2.2.1 (Or.inr hk))).1) ?_
    rw [nz1]
    refine x_aload_n (pc := 28) d90_28 rfl ?_
    refine y_getr (pc := 29) d90_29 fk7_15 shL143 rfl ?_
    refine x_iload_n (pc := 32) d90_32 rfl ?_
    refine x_aload_n (pc := 33) d90_33 rfl ?_
    refine y_getp (pc := 34) (p := pN s i) d90_34 fk7_130 (shF i hi) rfl (by rw [si_id (by decide)]; exact (hG.P i).1) ((hG.P i).2) ?_
    refine x_iload_n (pc := 37) d90_37 rfl ?_
    refine x_aload_n (pc := 38) d90_38 rfl ?_
    refine y_getr (pc := 39) d90_39 fk7_137 (shF i hi) rfl ?_
    refine y_cV2j (pc := 42) d90_42 ml7_143 mv85 (shP (pN s i) ((hG.P i).2)) (c_work (pN s i) (hG.P i).2 i hi (pb0 s i a) a hS.1 (XW_2 (si_id (by decide)) (si_id (by decide)) (si_id (by decide)) (si_id (by decide)) (hS.2.2.2.2 (by simp [hk])))) (by decide) (Nat.le_of_ble_eq_true rfl) ⟨Nat.zero_le _, Nat.zero_le _⟩ (fun v s hq => ?_)
    obtain ⟨rfl, rfl⟩ := hq
    refine y_lastN (pc := 45) (q := nuN s i a) d90_45 shL145 ((okN_c (by decide) (hS.2.2.1 (Or.inr hk))).2) (by decide) ((okN_c (by decide) (hS.2.2.1 (Or.inr hk))).1) ?_
    refine x_aload_n (pc := 46) d90_46 rfl ?_
    refine y_cV0i (pc := 47) d90_47 ml7_147 mv79 (shF i hi) (c_goBehind i hi (pb1 s i a) ((GV_pb1 hG).D i) ((GV_pb1 hG).P i) ((GV_pb1 hG).A i _)) (by decide) (Nat.le_of_ble_eq_true rfl) ⟨Nat.zero_le _, Nat.zero_le _⟩ (fun v s hq => ?_)
    obtain ⟨rfl, rfl⟩ := hq
    exact y_iret (pc := 50) d90_50 rfl (⟨by unfold tbV; rw [if_pos c6], by unfold pbS; rw [if_pos c6]⟩)
  · skip
    refine x_iconst (pc := 9) (v := (4)) d90_9 (by decide) ?_
    exact y_iret (pc := 10) d90_10 rfl (⟨by unfold tbV; rw [if_neg c6], by unfold pbS; rw [if_neg c6]⟩)
