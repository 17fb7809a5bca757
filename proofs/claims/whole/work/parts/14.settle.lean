/-! settle, unwind, bringTimeouts, holdsValue, mirror -/
theorem over_id {s : St} {i b q id : Nat} {y : Int32} (h1 : id ≠ 1) (h2 : id ≠ 3) (h3 : id ≠ 4) (h4 : id ≠ 6) (h5 : id ≠ 39) : (overS s i b q y).1 id = s.1 id := by
  funext a c
  simp [overS, enterPartS, si_r, h1, h2, h3, h4, h5]
theorem tell_id {s : St} {o id : Nat} {x1 x2 : Int32} {x3 : Int64} (h1 : id ≠ 17) (h2 : id ≠ 18) (h3 : id ≠ 19) (h4 : id ≠ 20) : (tellS s o x1 x2 x3).1 id = s.1 id := by
  funext a c
  unfold tellS
  split
  · rfl
  · simp [si_r, sl_1, h1, h2, h3, h4]
theorem leave_id {s : St} {i id : Nat} (h0 : id ≠ 80) (h1 : id ≠ 81) (h2 : id ≠ 82) (h3 : id ≠ 4) (h4 : id ≠ 42) (h5 : id ≠ 39) (h6 : id ≠ 41) : (leaveS s i).1 id = s.1 id := by
  funext a c
  unfold leaveS
  rw [si_ne (fun z => h6 z.1), si_ne (fun z => h5 z.1), ft_id h0 h1 h2 h3 h4]
theorem leave_41 {s : St} {i : Nat} : (leaveS s i).1 41 i 0 = s.1 41 i 0 - 1 := by
  unfold leaveS
  rw [si_eq, ft_id (by decide) (by decide) (by decide) (by decide) (by decide)]
theorem leave_dN {s : St} {i : Nat} (hG : GV s) (h1 : 1 ≤ dN s i) : dN (leaveS s i) i = dN s i - 1 := by
  have h := (hG.D i).1
  have h8 := (hG.D i).2
  show ((leaveS s i).1 41 i 0).toNatClampNeg = _
  rw [leave_41, h, show dN s i = dN s i - 1 + 1 by omega, nI_pred, nI_clamp (by omega), Nat.add_sub_cancel]
theorem nI_0lt {n : Nat} (h : n < 2 ^ 31) : nI n ≤ 0 ↔ n = 0 := by
  constructor
  · intro z
    rcases Nat.eq_zero_or_pos n with q | q
    · exact q
    · exact absurd z (nI_nle q h)
  · rintro rfl; exact (by decide)
def setS (i : Nat) : Nat → St → Int32 × St
  | 0, s => (0, s)
  | m + 1, s => if s.1 41 i 0 ≤ 0 ∨ ¬ s.1 3 i (dN s i) = -1 then (0, s)
    else if kdN s i (dN s i) = 20 ∧ ¬ 1 ≤ s.1 1 i (dN s i) then setS i m (tellS (overS s i (dN s i) 1 (s.1 2 i (dN s i))) (co i) 2 ((overS s i (dN s i) 1 (s.1 2 i (dN s i))).1 32 i 0) 0)
    else if kdN s i (dN s i) = 20 ∧ ¬ 2 ≤ s.1 1 i (dN s i) then setS i m (lastS s i (dN s i))
    else if ¬ s.1 6 i (dN s i) = 0 then (1, leaveS (si (sl s 45 i 0 (s.2 7 i (dN s i))) 46 i 0 (s.1 8 i (dN s i))) i)
    else if kdN s i (dN s i) = 8 then setS i m (leaveS s i) else setS i m (behS (leaveS s i) i)
set_option maxRecDepth 100000 in
theorem lp_settle (i : Nat) (hi : i < 7) : ∀ (m k : Nat) (s : St) (r : Int32 × St), k + m = 24 → GV s → setS i m s = r → Wp (rmd 3 0 0) 69 (zi (fun v s1 => (v, s1) = r)) 0 0 2 [(1, .int (nI k)), (0, .ref (FA i))] [] (mk s) TT := by
  intro m
  induction m with
  | zero =>
    intro k s r hk hG hr
    refine x_iload_n (pc := 2) d69_2 rfl ?_
    refine x_bipush (pc := 3) (v := (24)) d69_3 (by decide) ?_
    refine x_icmp_ge (pc := 5) (tgt := 158) d69_5 (by decide) (fun c5 => ?_) (fun c5 => absurd (show (24 : Int32) ≤ nI k from (show (24 : Int32) = nI 24 from rfl) ▸ nI_le (by omega) (by omega)) c5)
    refine x_iconst (pc := 158) (v := (0)) d69_158 (by decide) ?_
    exact y_zret (pc := 159) d69_159 rfl (by first | exact Or.inl rfl | exact Or.inr rfl) (hr)
  | succ m ih =>
    intro k s r hk hG hr
    unfold setS at hr
    refine x_iload_n (pc := 2) d69_2 rfl ?_
    refine x_bipush (pc := 3) (v := (24)) d69_3 (by decide) ?_
    refine x_icmp_ge (pc := 5) (tgt := 158) d69_5 (by decide) (fun c5 => absurd c5 (show ¬ (24 : Int32) ≤ nI k from (show (24 : Int32) = nI 24 from rfl) ▸ nI_ge (by omega) (by omega))) (fun c5 => ?_)
    refine x_aload_n (pc := 8) d69_8 rfl ?_
    refine y_geti (pc := 9) d69_9 fk2_63 (shF i hi) rfl ?_
    refine x_if_le (pc := 12) (tgt := 158) d69_12 (by decide) (fun c12 => ?_) (fun c12 => ?_)
    · skip
      refine x_iconst (pc := 158) (v := (0)) d69_158 (by decide) ?_
      exact y_zret (pc := 159) d69_159 rfl (by first | exact Or.inl rfl | exact Or.inr rfl) (by rw [if_pos (by first | exact Or.inl c12 | exact Or.inr c20)] at hr; exact hr)
    · skip
      refine x_aload_n (pc := 15) d69_15 rfl ?_
      refine y_cV0i (pc := 16) d69_16 ml2_101 mv70 (shF i hi) (c_next i hi _ (hG.D i)) (by decide) (Nat.le_of_ble_eq_true rfl) ⟨Nat.zero_le _, Nat.zero_le _⟩ (fun v s hq => ?_)
      obtain ⟨rfl, rfl⟩ := hq
      refine x_iconst (pc := 19) (v := (-1)) d69_19 (by decide) ?_
      refine x_icmp_ne (pc := 20) (tgt := 158) d69_20 (by decide) (fun c20 => ?_) (fun c20 => ?_)
      · skip
        refine x_iconst (pc := 158) (v := (0)) d69_158 (by decide) ?_
        exact y_zret (pc := 159) d69_159 rfl (by first | exact Or.inl rfl | exact Or.inr rfl) (by rw [if_pos (by first | exact Or.inl c12 | exact Or.inr c20)] at hr; exact hr)
      · skip
        have hd1 : 1 ≤ dN s i := by
          rcases Nat.eq_zero_or_pos (dN s i) with q | q
          · exact absurd (by rw [(hG.D i).1, q]; decide) c12
          · exact q
        refine x_aload_n (pc := 23) d69_23 rfl ?_
        refine y_getr (pc := 24) d69_24 fk2_24 (shF i hi) rfl ?_
        refine x_aload_n (pc := 27) d69_27 rfl ?_
        refine y_geti (pc := 28) d69_28 fk2_63 (shF i hi) rfl ?_
        refine y_aaldBN (pc := 31) (q := dN s i) (hq := hi) d69_31 (by have := (hG.D i).2; omega) ((hG.D i).1) ?_
        refine x_astore_n (pc := 32) d69_32 (by decide) ?_
        have n0 : ¬ (s.1 41 i 0 ≤ 0 ∨ ¬ s.1 3 i (dN s i) = -1) := fun h => h.elim c12 (fun h => h c20)
        refine x_aload_n (pc := 33) d69_33 rfl ?_
        refine y_getp (pc := 34) (p := pN s i) d69_34 fk2_36 (shF i hi) rfl ((hG.P i).1) ((hG.P i).2) ?_
        refine y_getr (pc := 37) d69_37 fk2_112 (shP (pN s i) ((hG.P i).2)) rfl ?_
        refine x_aload_n (pc := 40) d69_40 rfl ?_
        refine y_geti (pc := 41) d69_41 fk2_124 (shB i hi (dN s i) (by have := (hG.D i).2; omega)) rfl ?_
        refine y_ialdN (pc := 44) (q := oN s i (dN s i)) d69_44 (shP1 (pN s i) ((hG.P i).2)) ((hG.O i _ hd1).2) (by decide) ((hG.O i _ hd1).1) ?_
        refine x_istore_n (pc := 45) d69_45 (by decide) ?_
        refine x_iload_n (pc := 46) d69_46 rfl ?_
        refine x_bipush (pc := 47) (v := (20)) d69_47 (by decide) ?_
        refine x_icmp_ne (pc := 49) (tgt := 86) d69_49 (by decide) (fun c49 => ?_) (fun c49 => ?_)
        · skip
          have n1 : ¬ (kdN s i (dN s i) = 20 ∧ ¬ 1 ≤ s.1 1 i (dN s i)) := fun h => by first | exact c49 h.1 | exact h.2 c57
          refine x_iload_n (pc := 86) d69_86 rfl ?_
          refine x_bipush (pc := 87) (v := (20)) d69_87 (by decide) ?_
          refine x_icmp_ne (pc := 89) (tgt := 108) d69_89 (by decide) (fun c89 => ?_) (fun c89 => ?_)
          · skip
            have n2 : ¬ (kdN s i (dN s i) = 20 ∧ ¬ 2 ≤ s.1 1 i (dN s i)) := fun h => by first | exact c89 h.1 | exact h.2 c97
            refine x_aload_n (pc := 108) d69_108 rfl ?_
            refine y_geti (pc := 109) d69_109 fk2_94 (shB i hi (dN s i) (by have := (hG.D i).2; omega)) rfl ?_
            refine x_if_eq (pc := 112) (tgt := 137) d69_112 (by decide) (fun c112 => ?_) (fun c112 => ?_)
            · skip
              refine x_aload_n (pc := 137) d69_137 rfl ?_
              refine y_cV0v (pc := 138) d69_138 ml2_171 mv75 (shF i hi) (c_leave i hi _ (hG.D i) (hG.C i)) (by decide) (Nat.le_of_ble_eq_true rfl) ⟨Nat.zero_le _, Nat.zero_le _⟩ (fun s hq => ?_)
              subst hq
              refine x_iload_n (pc := 141) d69_141 rfl ?_
              refine x_bipush (pc := 142) (v := (8)) d69_142 (by decide) ?_
              refine x_icmp_eq (pc := 144) (tgt := 152) d69_144 (by decide) (fun c144 => ?_) (fun c144 => ?_)
              · skip
                refine y_inc (pc := 152) (c := (1)) d69_152 (by decide) (by decide) rfl ?_
                refine x_goto (pc := 155) (tgt := 2) d69_155 (by decide) ?_
                rw [nI_1]
                refine wp_lv (lv' := [(1, .int (nI (k + 1))), (0, .ref (FA i))]) ⟨rfl, rfl, trivial⟩ ?_
                exact ih (k + 1) _ r (by omega) (GV_leave hG hd1) (by rw [if_neg n0, if_neg n1, if_neg n2, if_neg (fun h => h c112), if_pos (show kdN s i (dN s i) = 8 from c144)] at hr; exact hr)
              · skip
                refine x_aload_n (pc := 147) d69_147 rfl ?_
                refine y_cV0i (pc := 148) d69_148 ml2_109 mv79 (shF i hi) (c_goBehind i hi _ ((GV_leave hG hd1).D i) ((GV_leave hG hd1).P i) ((GV_leave hG hd1).A i _)) (by decide) (Nat.le_of_ble_eq_true rfl) ⟨Nat.zero_le _, Nat.zero_le _⟩ (fun v s hq => ?_)
                obtain ⟨rfl, rfl⟩ := hq
                refine x_pop (pc := 151) d69_151 rfl ?_
                refine y_inc (pc := 152) (c := (1)) d69_152 (by decide) (by decide) rfl ?_
                refine x_goto (pc := 155) (tgt := 2) d69_155 (by decide) ?_
                rw [nI_1]
                refine wp_lv (lv' := [(1, .int (nI (k + 1))), (0, .ref (FA i))]) ⟨rfl, rfl, trivial⟩ ?_
                exact ih (k + 1) _ r (by omega) (GV_beh (GV_leave hG hd1)) (by rw [if_neg n0, if_neg n1, if_neg n2, if_neg (fun h => h c112), if_neg (show ¬ kdN s i (dN s i) = 8 from c144)] at hr; exact hr)
            · skip
              refine x_aload_n (pc := 115) d69_115 rfl ?_
              refine x_aload_n (pc := 116) d69_116 rfl ?_
              refine y_getl (pc := 117) d69_117 fk2_162 (shB i hi (dN s i) (by have := (hG.D i).2; omega)) rfl ?_
              refine y_putl (pc := 120) d69_120 fk2_88 (shF i hi) rfl rfl rfl ?_
              refine x_aload_n (pc := 123) d69_123 rfl ?_
              refine x_aload_n (pc := 124) d69_124 rfl ?_
              refine y_geti (pc := 125) d69_125 fk2_165 (shB i hi (dN s i) (by have := (hG.D i).2; omega)) rfl ?_
              refine y_puti (pc := 128) d69_128 fk2_168 (shF i hi) rfl rfl ⟨rfl, rfl⟩ ?_
              have hG2 : GV (si (sl s 45 i 0 (s.2 7 i (dN s i))) 46 i 0 (s.1 8 i (dN s i))) := GV_si (GV_sl hG) (hG 8 i (dN s i) : okN 9 _)
              refine x_aload_n (pc := 131) d69_131 rfl ?_
              refine y_cV0v (pc := 132) d69_132 ml2_171 mv75 (shF i hi) (c_leave i hi _ (by exact hG2.D i) (by exact hG2.C i)) (by decide) (Nat.le_of_ble_eq_true rfl) ⟨Nat.zero_le _, Nat.zero_le _⟩ (fun s hq => ?_)
              subst hq
              refine x_iconst (pc := 135) (v := (1)) d69_135 (by decide) ?_
              exact y_zret (pc := 136) d69_136 rfl (by first | exact Or.inl rfl | exact Or.inr rfl) (by rw [if_neg n0, if_neg n1, if_neg n2, if_pos c112] at hr; exact hr)
          · skip
            refine x_aload_n (pc := 92) d69_92 rfl ?_
            refine y_geti (pc := 93) d69_93 fk2_152 (shB i hi (dN s i) (by have := (hG.D i).2; omega)) rfl ?_
            refine x_iconst (pc := 96) (v := (2)) d69_96 (by decide) ?_
            refine x_icmp_ge (pc := 97) (tgt := 108) d69_97 (by decide) (fun c97 => ?_) (fun c97 => ?_)
            · skip
              have n2 : ¬ (kdN s i (dN s i) = 20 ∧ ¬ 2 ≤ s.1 1 i (dN s i)) := fun h => by first | exact c89 h.1 | exact h.2 c97
              refine x_aload_n (pc := 108) d69_108 rfl ?_
              refine y_geti (pc := 109) d69_109 fk2_94 (shB i hi (dN s i) (by have := (hG.D i).2; omega)) rfl ?_
              refine x_if_eq (pc := 112) (tgt := 137) d69_112 (by decide) (fun c112 => ?_) (fun c112 => ?_)
              · skip
                refine x_aload_n (pc := 137) d69_137 rfl ?_
                refine y_cV0v (pc := 138) d69_138 ml2_171 mv75 (shF i hi) (c_leave i hi _ (hG.D i) (hG.C i)) (by decide) (Nat.le_of_ble_eq_true rfl) ⟨Nat.zero_le _, Nat.zero_le _⟩ (fun s hq => ?_)
                subst hq
                refine x_iload_n (pc := 141) d69_141 rfl ?_
                refine x_bipush (pc := 142) (v := (8)) d69_142 (by decide) ?_
                refine x_icmp_eq (pc := 144) (tgt := 152) d69_144 (by decide) (fun c144 => ?_) (fun c144 => ?_)
                · skip
                  refine y_inc (pc := 152) (c := (1)) d69_152 (by decide) (by decide) rfl ?_
                  refine x_goto (pc := 155) (tgt := 2) d69_155 (by decide) ?_
                  rw [nI_1]
                  refine wp_lv (lv' := [(1, .int (nI (k + 1))), (0, .ref (FA i))]) ⟨rfl, rfl, trivial⟩ ?_
                  exact ih (k + 1) _ r (by omega) (GV_leave hG hd1) (by rw [if_neg n0, if_neg n1, if_neg n2, if_neg (fun h => h c112), if_pos (show kdN s i (dN s i) = 8 from c144)] at hr; exact hr)
                · skip
                  refine x_aload_n (pc := 147) d69_147 rfl ?_
                  refine y_cV0i (pc := 148) d69_148 ml2_109 mv79 (shF i hi) (c_goBehind i hi _ ((GV_leave hG hd1).D i) ((GV_leave hG hd1).P i) ((GV_leave hG hd1).A i _)) (by decide) (Nat.le_of_ble_eq_true rfl) ⟨Nat.zero_le _, Nat.zero_le _⟩ (fun v s hq => ?_)
                  obtain ⟨rfl, rfl⟩ := hq
                  refine x_pop (pc := 151) d69_151 rfl ?_
                  refine y_inc (pc := 152) (c := (1)) d69_152 (by decide) (by decide) rfl ?_
                  refine x_goto (pc := 155) (tgt := 2) d69_155 (by decide) ?_
                  rw [nI_1]
                  refine wp_lv (lv' := [(1, .int (nI (k + 1))), (0, .ref (FA i))]) ⟨rfl, rfl, trivial⟩ ?_
                  exact ih (k + 1) _ r (by omega) (GV_beh (GV_leave hG hd1)) (by rw [if_neg n0, if_neg n1, if_neg n2, if_neg (fun h => h c112), if_neg (show ¬ kdN s i (dN s i) = 8 from c144)] at hr; exact hr)
              · skip
                refine x_aload_n (pc := 115) d69_115 rfl ?_
                refine x_aload_n (pc := 116) d69_116 rfl ?_
                refine y_getl (pc := 117) d69_117 fk2_162 (shB i hi (dN s i) (by have := (hG.D i).2; omega)) rfl ?_
                refine y_putl (pc := 120) d69_120 fk2_88 (shF i hi) rfl rfl rfl ?_
                refine x_aload_n (pc := 123) d69_123 rfl ?_
                refine x_aload_n (pc := 124) d69_124 rfl ?_
                refine y_geti (pc := 125) d69_125 fk2_165 (shB i hi (dN s i) (by have := (hG.D i).2; omega)) rfl ?_
                refine y_puti (pc := 128) d69_128 fk2_168 (shF i hi) rfl rfl ⟨rfl, rfl⟩ ?_
                have hG2 : GV (si (sl s 45 i 0 (s.2 7 i (dN s i))) 46 i 0 (s.1 8 i (dN s i))) := GV_si (GV_sl hG) (hG 8 i (dN s i) : okN 9 _)
                refine x_aload_n (pc := 131) d69_131 rfl ?_
                refine y_cV0v (pc := 132) d69_132 ml2_171 mv75 (shF i hi) (c_leave i hi _ (by exact hG2.D i) (by exact hG2.C i)) (by decide) (Nat.le_of_ble_eq_true rfl) ⟨Nat.zero_le _, Nat.zero_le _⟩ (fun s hq => ?_)
                subst hq
                refine x_iconst (pc := 135) (v := (1)) d69_135 (by decide) ?_
                exact y_zret (pc := 136) d69_136 rfl (by first | exact Or.inl rfl | exact Or.inr rfl) (by rw [if_neg n0, if_neg n1, if_neg n2, if_pos c112] at hr; exact hr)
            · skip
              refine x_aload_n (pc := 100) d69_100 rfl ?_
              refine x_aload_n (pc := 101) d69_101 rfl ?_
              refine y_cV1v (pc := 102) d69_102 ml2_159 mv74 (shF i hi) (c_goToLast i hi (dN s i) (by have := (hG.D i).2; omega) _ (hG.P i) (hG.O i _ hd1) (hG.H _)) (by decide) (Nat.le_of_ble_eq_true rfl) ⟨Nat.zero_le _, Nat.zero_le _⟩ (fun s hq => ?_)
              subst hq
              refine x_goto (pc := 105) (tgt := 152) d69_105 (by decide) ?_
              refine y_inc (pc := 152) (c := (1)) d69_152 (by decide) (by decide) rfl ?_
              refine x_goto (pc := 155) (tgt := 2) d69_155 (by decide) ?_
              rw [nI_1]
              refine wp_lv (lv' := [(1, .int (nI (k + 1))), (0, .ref (FA i))]) ⟨rfl, rfl, trivial⟩ ?_
              exact ih (k + 1) _ r (by omega) (GV_last hG) (by rw [if_neg n0, if_neg n1, if_pos ⟨c89, c97⟩] at hr; exact hr)
        · skip
          refine x_aload_n (pc := 52) d69_52 rfl ?_
          refine y_geti (pc := 53) d69_53 fk2_152 (shB i hi (dN s i) (by have := (hG.D i).2; omega)) rfl ?_
          refine x_iconst (pc := 56) (v := (1)) d69_56 (by decide) ?_
          refine x_icmp_ge (pc := 57) (tgt := 86) d69_57 (by decide) (fun c57 => ?_) (fun c57 => ?_)
          · skip
            have n1 : ¬ (kdN s i (dN s i) = 20 ∧ ¬ 1 ≤ s.1 1 i (dN s i)) := fun h => by first | exact c49 h.1 | exact h.2 c57
            refine x_iload_n (pc := 86) d69_86 rfl ?_
            refine x_bipush (pc := 87) (v := (20)) d69_87 (by decide) ?_
            refine x_icmp_ne (pc := 89) (tgt := 108) d69_89 (by decide) (fun c89 => ?_) (fun c89 => ?_)
            · skip
              have n2 : ¬ (kdN s i (dN s i) = 20 ∧ ¬ 2 ≤ s.1 1 i (dN s i)) := fun h => by first | exact c89 h.1 | exact h.2 c97
              refine x_aload_n (pc := 108) d69_108 rfl ?_
              refine y_geti (pc := 109) d69_109 fk2_94 (shB i hi (dN s i) (by have := (hG.D i).2; omega)) rfl ?_
              refine x_if_eq (pc := 112) (tgt := 137) d69_112 (by decide) (fun c112 => ?_) (fun c112 => ?_)
              · skip
                refine x_aload_n (pc := 137) d69_137 rfl ?_
                refine y_cV0v (pc := 138) d69_138 ml2_171 mv75 (shF i hi) (c_leave i hi _ (hG.D i) (hG.C i)) (by decide) (Nat.le_of_ble_eq_true rfl) ⟨Nat.zero_le _, Nat.zero_le _⟩ (fun s hq => ?_)
                subst hq
                refine x_iload_n (pc := 141) d69_141 rfl ?_
                refine x_bipush (pc := 142) (v := (8)) d69_142 (by decide) ?_
                refine x_icmp_eq (pc := 144) (tgt := 152) d69_144 (by decide) (fun c144 => ?_) (fun c144 => ?_)
                · skip
                  refine y_inc (pc := 152) (c := (1)) d69_152 (by decide) (by decide) rfl ?_
                  refine x_goto (pc := 155) (tgt := 2) d69_155 (by decide) ?_
                  rw [nI_1]
                  refine wp_lv (lv' := [(1, .int (nI (k + 1))), (0, .ref (FA i))]) ⟨rfl, rfl, trivial⟩ ?_
                  exact ih (k + 1) _ r (by omega) (GV_leave hG hd1) (by rw [if_neg n0, if_neg n1, if_neg n2, if_neg (fun h => h c112), if_pos (show kdN s i (dN s i) = 8 from c144)] at hr; exact hr)
                · skip
                  refine x_aload_n (pc := 147) d69_147 rfl ?_
                  refine y_cV0i (pc := 148) d69_148 ml2_109 mv79 (shF i hi) (c_goBehind i hi _ ((GV_leave hG hd1).D i) ((GV_leave hG hd1).P i) ((GV_leave hG hd1).A i _)) (by decide) (Nat.le_of_ble_eq_true rfl) ⟨Nat.zero_le _, Nat.zero_le _⟩ (fun v s hq => ?_)
                  obtain ⟨rfl, rfl⟩ := hq
                  refine x_pop (pc := 151) d69_151 rfl ?_
                  refine y_inc (pc := 152) (c := (1)) d69_152 (by decide) (by decide) rfl ?_
                  refine x_goto (pc := 155) (tgt := 2) d69_155 (by decide) ?_
                  rw [nI_1]
                  refine wp_lv (lv' := [(1, .int (nI (k + 1))), (0, .ref (FA i))]) ⟨rfl, rfl, trivial⟩ ?_
                  exact ih (k + 1) _ r (by omega) (GV_beh (GV_leave hG hd1)) (by rw [if_neg n0, if_neg n1, if_neg n2, if_neg (fun h => h c112), if_neg (show ¬ kdN s i (dN s i) = 8 from c144)] at hr; exact hr)
              · skip
                refine x_aload_n (pc := 115) d69_115 rfl ?_
                refine x_aload_n (pc := 116) d69_116 rfl ?_
                refine y_getl (pc := 117) d69_117 fk2_162 (shB i hi (dN s i) (by have := (hG.D i).2; omega)) rfl ?_
                refine y_putl (pc := 120) d69_120 fk2_88 (shF i hi) rfl rfl rfl ?_
                refine x_aload_n (pc := 123) d69_123 rfl ?_
                refine x_aload_n (pc := 124) d69_124 rfl ?_
                refine y_geti (pc := 125) d69_125 fk2_165 (shB i hi (dN s i) (by have := (hG.D i).2; omega)) rfl ?_
                refine y_puti (pc := 128) d69_128 fk2_168 (shF i hi) rfl rfl ⟨rfl, rfl⟩ ?_
                have hG2 : GV (si (sl s 45 i 0 (s.2 7 i (dN s i))) 46 i 0 (s.1 8 i (dN s i))) := GV_si (GV_sl hG) (hG 8 i (dN s i) : okN 9 _)
                refine x_aload_n (pc := 131) d69_131 rfl ?_
                refine y_cV0v (pc := 132) d69_132 ml2_171 mv75 (shF i hi) (c_leave i hi _ (by exact hG2.D i) (by exact hG2.C i)) (by decide) (Nat.le_of_ble_eq_true rfl) ⟨Nat.zero_le _, Nat.zero_le _⟩ (fun s hq => ?_)
                subst hq
                refine x_iconst (pc := 135) (v := (1)) d69_135 (by decide) ?_
                exact y_zret (pc := 136) d69_136 rfl (by first | exact Or.inl rfl | exact Or.inr rfl) (by rw [if_neg n0, if_neg n1, if_neg n2, if_pos c112] at hr; exact hr)
            · skip
              refine x_aload_n (pc := 92) d69_92 rfl ?_
              refine y_geti (pc := 93) d69_93 fk2_152 (shB i hi (dN s i) (by have := (hG.D i).2; omega)) rfl ?_
              refine x_iconst (pc := 96) (v := (2)) d69_96 (by decide) ?_
              refine x_icmp_ge (pc := 97) (tgt := 108) d69_97 (by decide) (fun c97 => ?_) (fun c97 => ?_)
              · skip
                have n2 : ¬ (kdN s i (dN s i) = 20 ∧ ¬ 2 ≤ s.1 1 i (dN s i)) := fun h => by first | exact c89 h.1 | exact h.2 c97
                refine x_aload_n (pc := 108) d69_108 rfl ?_
                refine y_geti (pc := 109) d69_109 fk2_94 (shB i hi (dN s i) (by have := (hG.D i).2; omega)) rfl ?_
                refine x_if_eq (pc := 112) (tgt := 137) d69_112 (by decide) (fun c112 => ?_) (fun c112 => ?_)
                · skip
                  refine x_aload_n (pc := 137) d69_137 rfl ?_
                  refine y_cV0v (pc := 138) d69_138 ml2_171 mv75 (shF i hi) (c_leave i hi _ (hG.D i) (hG.C i)) (by decide) (Nat.le_of_ble_eq_true rfl) ⟨Nat.zero_le _, Nat.zero_le _⟩ (fun s hq => ?_)
                  subst hq
                  refine x_iload_n (pc := 141) d69_141 rfl ?_
                  refine x_bipush (pc := 142) (v := (8)) d69_142 (by decide) ?_
                  refine x_icmp_eq (pc := 144) (tgt := 152) d69_144 (by decide) (fun c144 => ?_) (fun c144 => ?_)
                  · skip
                    refine y_inc (pc := 152) (c := (1)) d69_152 (by decide) (by decide) rfl ?_
                    refine x_goto (pc := 155) (tgt := 2) d69_155 (by decide) ?_
                    rw [nI_1]
                    refine wp_lv (lv' := [(1, .int (nI (k + 1))), (0, .ref (FA i))]) ⟨rfl, rfl, trivial⟩ ?_
                    exact ih (k + 1) _ r (by omega) (GV_leave hG hd1) (by rw [if_neg n0, if_neg n1, if_neg n2, if_neg (fun h => h c112), if_pos (show kdN s i (dN s i) = 8 from c144)] at hr; exact hr)
                  · skip
                    refine x_aload_n (pc := 147) d69_147 rfl ?_
                    refine y_cV0i (pc := 148) d69_148 ml2_109 mv79 (shF i hi) (c_goBehind i hi _ ((GV_leave hG hd1).D i) ((GV_leave hG hd1).P i) ((GV_leave hG hd1).A i _)) (by decide) (Nat.le_of_ble_eq_true rfl) ⟨Nat.zero_le _, Nat.zero_le _⟩ (fun v s hq => ?_)
                    obtain ⟨rfl, rfl⟩ := hq
                    refine x_pop (pc := 151) d69_151 rfl ?_
                    refine y_inc (pc := 152) (c := (1)) d69_152 (by decide) (by decide) rfl ?_
                    refine x_goto (pc := 155) (tgt := 2) d69_155 (by decide) ?_
                    rw [nI_1]
                    refine wp_lv (lv' := [(1, .int (nI (k + 1))), (0, .ref (FA i))]) ⟨rfl, rfl, trivial⟩ ?_
                    exact ih (k + 1) _ r (by omega) (GV_beh (GV_leave hG hd1)) (by rw [if_neg n0, if_neg n1, if_neg n2, if_neg (fun h => h c112), if_neg (show ¬ kdN s i (dN s i) = 8 from c144)] at hr; exact hr)
                · skip
                  refine x_aload_n (pc := 115) d69_115 rfl ?_
                  refine x_aload_n (pc := 116) d69_116 rfl ?_
                  refine y_getl (pc := 117) d69_117 fk2_162 (shB i hi (dN s i) (by have := (hG.D i).2; omega)) rfl ?_
                  refine y_putl (pc := 120) d69_120 fk2_88 (shF i hi) rfl rfl rfl ?_
                  refine x_aload_n (pc := 123) d69_123 rfl ?_
                  refine x_aload_n (pc := 124) d69_124 rfl ?_
                  refine y_geti (pc := 125) d69_125 fk2_165 (shB i hi (dN s i) (by have := (hG.D i).2; omega)) rfl ?_
                  refine y_puti (pc := 128) d69_128 fk2_168 (shF i hi) rfl rfl ⟨rfl, rfl⟩ ?_
                  have hG2 : GV (si (sl s 45 i 0 (s.2 7 i (dN s i))) 46 i 0 (s.1 8 i (dN s i))) := GV_si (GV_sl hG) (hG 8 i (dN s i) : okN 9 _)
                  refine x_aload_n (pc := 131) d69_131 rfl ?_
                  refine y_cV0v (pc := 132) d69_132 ml2_171 mv75 (shF i hi) (c_leave i hi _ (by exact hG2.D i) (by exact hG2.C i)) (by decide) (Nat.le_of_ble_eq_true rfl) ⟨Nat.zero_le _, Nat.zero_le _⟩ (fun s hq => ?_)
                  subst hq
                  refine x_iconst (pc := 135) (v := (1)) d69_135 (by decide) ?_
                  exact y_zret (pc := 136) d69_136 rfl (by first | exact Or.inl rfl | exact Or.inr rfl) (by rw [if_neg n0, if_neg n1, if_neg n2, if_pos c112] at hr; exact hr)
              · skip
                refine x_aload_n (pc := 100) d69_100 rfl ?_
                refine x_aload_n (pc := 101) d69_101 rfl ?_
                refine y_cV1v (pc := 102) d69_102 ml2_159 mv74 (shF i hi) (c_goToLast i hi (dN s i) (by have := (hG.D i).2; omega) _ (hG.P i) (hG.O i _ hd1) (hG.H _)) (by decide) (Nat.le_of_ble_eq_true rfl) ⟨Nat.zero_le _, Nat.zero_le _⟩ (fun s hq => ?_)
                subst hq
                refine x_goto (pc := 105) (tgt := 152) d69_105 (by decide) ?_
                refine y_inc (pc := 152) (c := (1)) d69_152 (by decide) (by decide) rfl ?_
                refine x_goto (pc := 155) (tgt := 2) d69_155 (by decide) ?_
                rw [nI_1]
                refine wp_lv (lv' := [(1, .int (nI (k + 1))), (0, .ref (FA i))]) ⟨rfl, rfl, trivial⟩ ?_
                exact ih (k + 1) _ r (by omega) (GV_last hG) (by rw [if_neg n0, if_neg n1, if_pos ⟨c89, c97⟩] at hr; exact hr)
          · skip
            refine x_aload_n (pc := 60) d69_60 rfl ?_
            refine x_aload_n (pc := 61) d69_61 rfl ?_
            refine x_iconst (pc := 62) (v := (1)) d69_62 (by decide) ?_
            refine x_aload_n (pc := 63) d69_63 rfl ?_
            refine y_geti (pc := 64) d69_64 fk2_135 (shB i hi (dN s i) (by have := (hG.D i).2; omega)) rfl ?_
            refine y_cV3v (pc := 67) d69_67 ml2_155 mv71 (shF i hi) (c_goOver i hi (dN s i) (by have := (hG.D i).2; omega) _ 1 (by decide) _ (hG.P i) (hG.O i _ hd1)) (by decide) (Nat.le_of_ble_eq_true rfl) ⟨Nat.zero_le _, Nat.zero_le _⟩ (fun s hq => ?_)
            subst hq
            refine x_aload_n (pc := 70) d69_70 rfl ?_
            refine y_getr (pc := 71) d69_71 fk2_32 (shF i hi) rfl ?_
            refine x_iconst (pc := 74) (v := (2)) d69_74 (by decide) ?_
            refine x_aload_n (pc := 75) d69_75 rfl ?_
            refine y_geti (pc := 76) d69_76 fk2_28 (shF i hi) rfl ?_
            refine x_lconst (pc := 79) (v := (0)) d69_79 (by decide) ?_
            refine y_cV3v (pc := 80) d69_80 ml2_82 mv73 (shC (co i) (co_lt i)) (c_tell (co i) (co_lt i) _ _ _ _ (wH_over (hG.H _))) (by decide) (Nat.le_of_ble_eq_true rfl) ⟨Nat.zero_le _, Nat.zero_le _⟩ (fun s hq => ?_)
            subst hq
            refine x_goto (pc := 83) (tgt := 152) d69_83 (by decide) ?_
            refine y_inc (pc := 152) (c := (1)) d69_152 (by decide) (by decide) rfl ?_
            refine x_goto (pc := 155) (tgt := 2) d69_155 (by decide) ?_
            rw [nI_1]
            refine wp_lv (lv' := [(1, .int (nI (k + 1))), (0, .ref (FA i))]) ⟨rfl, rfl, trivial⟩ ?_
            exact ih (k + 1) _ r (by omega) (GV_tell (GV_over hG (by decide) (hG 2 i (dN s i) : okN 3 _))) (by rw [if_neg n0, if_pos ⟨c49, c57⟩] at hr; exact hr)
set_option maxRecDepth 100000 in
theorem c_settle (i : Nat) (hi : i < 7) (s : St) (hG : GV s) : Ri 3 69 [.ref (FA i)] s (fun v s1 => (v, s1) = setS i 24 s) := by
  refine ct_of (by decide +kernel) (Nat.le_of_ble_eq_true rfl) ?_
  show Wp _ _ _ _ _ _ [(0, .ref (FA i))] _ _ _
  refine x_iconst (pc := 0) (v := (0)) d69_0 (by decide) ?_
  refine x_istore_n (pc := 1) d69_1 (by decide) ?_
  exact lp_settle i hi 24 0 s _ rfl hG rfl
theorem GV_settle (i : Nat) : ∀ m s, GV s → GV (setS i m s).2
  | 0, _, h => h
  | m + 1, s, h => by
    unfold setS
    split
    · exact h
    next n0 =>
      have hd1 : 1 ≤ dN s i := by
        rcases Nat.eq_zero_or_pos (dN s i) with q | q
        · exact absurd (Or.inl (by rw [(h.D i).1, q]; decide)) n0
        · exact q
      split
      · exact GV_settle i m _ (GV_tell (GV_over h (by decide) (h 2 i (dN s i) : okN 3 _)))
      · split
        · exact GV_settle i m _ (GV_last h)
        · split
          · have h2 : GV (si (sl s 45 i 0 (s.2 7 i (dN s i))) 46 i 0 (s.1 8 i (dN s i))) := GV_si (GV_sl h) (h 8 i (dN s i) : okN 9 _)
            refine GV_leave h2 ?_
            show 1 ≤ ((si (sl s 45 i 0 (s.2 7 i (dN s i))) 46 i 0 (s.1 8 i (dN s i))).1 41 i 0).toNatClampNeg
            rw [si_ne (fun z => absurd z.1 (by decide))]; exact hd1
          · split
            · exact GV_settle i m _ (GV_leave h hd1)
            · exact GV_settle i m _ (GV_beh (GV_leave h hd1))
def unwS (i : Nat) : Nat → St → Int32 × St
  | 0, s => (3, perS s i)
  | m + 1, s => if stK s i (m + 1) = 0 then unwS i m (leaveS s i) else (1, stS s i (m + 1))
def LW (s : St) (i : Nat) : Prop := ∀ b, 1 ≤ b → b ≤ dN s i → kdN s i b = 18 → okN 10 (s.1 69 (pN s i) (oN s i b))
theorem LW_leave {s : St} {i : Nat} (hG : GV s) (h1 : 1 ≤ dN s i) (h : LW s i) : LW (leaveS s i) i := by
  intro b hb hd
  have e37 : pN (leaveS s i) i = pN s i := by unfold pN; rw [leave_id (by decide) (by decide) (by decide) (by decide) (by decide) (by decide) (by decide)]
  have e0 : oN (leaveS s i) i b = oN s i b := by unfold oN; rw [leave_id (by decide) (by decide) (by decide) (by decide) (by decide) (by decide) (by decide)]
  unfold kdN
  rw [e37, e0, leave_id (by decide) (by decide) (by decide) (by decide) (by decide) (by decide) (by decide), leave_id (by decide) (by decide) (by decide) (by decide) (by decide) (by decide) (by decide)]
  exact h b hb (by rw [leave_dN hG h1] at hd; omega)
set_option maxRecDepth 100000 in
theorem lp_unwind (i : Nat) (hi : i < 7) : ∀ (m : Nat) (s : St) (r : Int32 × St), m ≤ 8 → dN s i = m → GV s → LW s i → unwS i m s = r → Wp (rmd 4 0 0) 93 (zi (fun v s1 => (v, s1) = r)) 0 0 5 [(1, .int (nI m)), (0, .ref (FA i))] [] (mk s) TT := by
  intro m
  induction m with
  | zero =>
    intro s r hm hd hG hK hr
    refine x_iload_n (pc := 5) d93_5 rfl ?_
    refine x_if_le (pc := 6) (tgt := 34) d93_6 (by decide) (fun c6 => ?_) (fun c6 => absurd (show nI 0 ≤ 0 by decide) c6)
    refine x_aload_n (pc := 34) d93_34 rfl ?_
    refine y_cV0i (pc := 35) d93_35 ml2_183 mv95 (shF i hi) (c_perish i hi _ (hG.H _)) (by decide) (Nat.le_of_ble_eq_true rfl) ⟨Nat.zero_le _, Nat.zero_le _⟩ (fun v s hq => ?_)
    obtain ⟨rfl, rfl⟩ := hq
    exact y_iret (pc := 38) d93_38 rfl (hr)
  | succ m ih =>
    intro s r hm hd hG hK hr
    unfold unwS at hr
    refine x_iload_n (pc := 5) d93_5 rfl ?_
    refine x_if_le (pc := 6) (tgt := 34) d93_6 (by decide) (fun c6 => absurd c6 (nI_nle (by omega) (by omega))) (fun c6 => ?_)
    refine x_aload_n (pc := 9) d93_9 rfl ?_
    refine x_aload_n (pc := 10) d93_10 rfl ?_
    refine y_getr (pc := 11) d93_11 fk2_24 (shF i hi) rfl ?_
    refine x_iload_n (pc := 14) d93_14 rfl ?_
    refine y_aaldBN (pc := 15) (q := m + 1) (hq := hi) d93_15 (by omega) (rfl) ?_
    refine y_cV1i (pc := 16) d93_16 ml2_179 mv94 (shF i hi) (c_stops i hi (m + 1) (by omega) s hG (by omega) (by omega) (hK (m + 1) (by omega) (by omega))) (by decide) (Nat.le_of_ble_eq_true rfl) ⟨Nat.zero_le _, Nat.zero_le _⟩ (fun v s hq => ?_)
    obtain ⟨rfl, rfl⟩ := hq
    refine x_if_eq (pc := 19) (tgt := 24) d93_19 (by decide) (fun c19 => ?_) (fun c19 => ?_)
    · skip
      have h0 : stK s i (m + 1) = 0 := by
        by_cases z : stK s i (m + 1) = 0
        · exact z
        · exact absurd c19 (by unfold stV; rw [if_neg z]; decide)
      have hst : stS s i (m + 1) = s := by unfold stS; rw [h0]; rfl
      rw [hst]
      refine x_aload_n (pc := 24) d93_24 rfl ?_
      refine y_cV0v (pc := 25) d93_25 ml2_171 mv75 (shF i hi) (c_leave i hi s (hG.D i) (hG.C i)) (by decide) (Nat.le_of_ble_eq_true rfl) ⟨Nat.zero_le _, Nat.zero_le _⟩ (fun s hq => ?_)
      subst hq
      refine y_inc (pc := 28) (c := (-1)) d93_28 (by decide) (by decide) rfl ?_
      refine x_goto (pc := 31) (tgt := 5) d93_31 (by decide) ?_
      rw [pk_m1]
      refine ih _ r (by omega) (by rw [leave_dN hG (by omega), hd]; rfl) (GV_leave hG (by omega)) (LW_leave hG (by omega) hK) (by rw [if_pos h0] at hr; exact hr)
    · skip
      refine x_iconst (pc := 22) (v := (1)) d93_22 (by decide) ?_
      exact y_iret (pc := 23) d93_23 rfl (by have h0 : ¬ stK s i (m + 1) = 0 := fun z => c19 (by unfold stV; rw [if_pos z]); rw [if_neg h0] at hr; exact hr)
set_option maxRecDepth 100000 in
theorem c_unwind (i : Nat) (hi : i < 7) (s : St) (hG : GV s) (hK : LW s i) : Ri 4 93 [.ref (FA i)] s (fun v s1 => (v, s1) = unwS i (dN s i) s) := by
  refine ct_of (by decide +kernel) (Nat.le_of_ble_eq_true rfl) ?_
  show Wp _ _ _ _ _ _ [(0, .ref (FA i))] _ _ _
  refine x_aload_n (pc := 0) d93_0 rfl ?_
  refine y_geti (pc := 1) d93_1 fk2_63 (shF i hi) rfl ?_
  refine x_istore_n (pc := 4) d93_4 (by decide) ?_
  rw [(hG.D i).1]
  exact lp_unwind i hi (dN s i) s _ (hG.D i).2 rfl hG hK rfl
