/-! would a TURN do a STEP; all as at the beginning -/
def wd1V (s : St) : Int32 := if s.1 3 6 (dN s 6) = -1 ∨ (0 < s.1 80 6 0 ∧ s.1 39 6 0 = 0) then 1 else if wtV s 6 (aN s 6 (dN s 6)) = 0 ∨ (0 < s.1 80 6 0 ∧ s.1 39 6 0 = 1) then 1 else 0
def wdR (s : St) (i : Nat) : Int32 × St := if (setS 6 24 (mirS s 6 i)).1 = 0 then (wd1V (setS 6 24 (mirS s 6 i)).2, (setS 6 24 (mirS s 6 i)).2) else (1, (setS 6 24 (mirS s 6 i)).2)
theorem GV_wd {s : St} {i : Nat} (h : GV s) : GV (wdR s i).2 := by
  unfold wdR
  by_cases hc : (setS 6 24 (mirS s 6 i)).1 = 0
  · rw [if_pos hc]; exact GV_settle 6 24 _ (GV_mir h)
  · rw [if_neg hc]; exact GV_settle 6 24 _ (GV_mir h)
set_option maxRecDepth 100000 in
theorem lp_would (i : Nat) (hi : i < 7) (s : St) (hG : GV s) (hN : NX s 6) : Wp (rmd 4 0 0) 112 (zi (fun v s1 => v = wd1V s ∧ s1 = s)) 0 0 20 [(0, .ref 143), (1, .ref (FA i))] [] (mk s) TT := by
  refine x_aload_n (pc := 20) d112_20 rfl ?_
  refine y_getr (pc := 21) d112_21 fk7_40 shL143 rfl ?_
  refine y_getr (pc := 24) d112_24 fk7_75 (shF 6 (by decide)) rfl ?_
  refine y_geti (pc := 27) d112_27 fk7_79 (shR 6 (by decide)) rfl ?_
  refine x_if_le (pc := 30) (tgt := 37) d112_30 (by decide) (fun c30 => ?_) (fun c30 => ?_)
  · skip
    refine x_iconst (pc := 37) (v := (0)) d112_37 (by decide) ?_
    refine x_istore_n (pc := 38) d112_38 (by decide) ?_
    refine x_aload_n (pc := 39) d112_39 rfl ?_
    refine y_getr (pc := 40) d112_40 fk7_40 shL143 rfl ?_
    refine y_cV0i (pc := 43) d112_43 ml7_85 mv70 (shF 6 (by decide)) (c_next 6 (by decide) s (hG.D 6)) (by decide) (Nat.le_of_ble_eq_true rfl) ⟨Nat.zero_le _, Nat.zero_le _⟩ (fun v s hq => ?_)
    obtain ⟨rfl, rfl⟩ := hq
    refine x_istore_n (pc := 46) d112_46 (by decide) ?_
    refine x_iload_n (pc := 47) d112_47 rfl ?_
    refine x_iconst (pc := 48) (v := (-1)) d112_48 (by decide) ?_
    refine x_icmp_eq (pc := 49) (tgt := 66) d112_49 (by decide) (fun c49 => ?_) (fun c49 => ?_)
    · skip
      refine x_iconst (pc := 66) (v := (1)) d112_66 (by decide) ?_
      exact y_zret (pc := 67) d112_67 rfl (by first | exact Or.inl rfl | exact Or.inr rfl) (⟨by unfold wd1V; rw [if_pos (Or.inl c49)], rfl⟩)
    · skip
      refine x_iload_n (pc := 52) d112_52 rfl ?_
      refine x_if_eq (pc := 53) (tgt := 68) d112_53 (by decide) (fun c53 => ?_) (fun c53 => absurd rfl c53)
      refine x_aload_n (pc := 68) d112_68 rfl ?_
      refine x_aload_n (pc := 69) d112_69 rfl ?_
      refine y_getr (pc := 70) d112_70 fk7_40 shL143 rfl ?_
      refine x_iload_n (pc := 73) d112_73 rfl ?_
      rw [(hN c49).1]
      refine y_cV2i (pc := 74) d112_74 ml7_171 mv89 shL143 (c_waits 6 (by decide) s (aN s 6 (dN s 6)) hG (hN c49).2) (by decide) (Nat.le_of_ble_eq_true rfl) ⟨Nat.zero_le _, Nat.zero_le _⟩ (fun v s hq => ?_)
      obtain ⟨rfl, rfl⟩ := hq
      refine x_if_eq (pc := 77) (tgt := 95) d112_77 (by decide) (fun c77 => ?_) (fun c77 => ?_)
      · skip
        refine x_iconst (pc := 95) (v := (1)) d112_95 (by decide) ?_
        refine x_goto (pc := 96) (tgt := 100) d112_96 (by decide) ?_
        exact y_zret (pc := 100) d112_100 rfl (by first | exact Or.inl rfl | exact Or.inr rfl) (⟨by unfold wd1V; rw [if_neg (fun h => h.elim c49 (fun h => absurd h.1 (Int32.not_lt.mpr c30))), if_pos (Or.inl c77)], rfl⟩)
      · skip
        refine x_iload_n (pc := 80) d112_80 rfl ?_
        refine x_if_eq (pc := 81) (tgt := 99) d112_81 (by decide) (fun c81 => ?_) (fun c81 => absurd rfl c81)
        refine x_iconst (pc := 99) (v := (0)) d112_99 (by decide) ?_
        exact y_zret (pc := 100) d112_100 rfl (by first | exact Or.inl rfl | exact Or.inr rfl) (⟨by unfold wd1V; rw [if_neg (fun h => h.elim c49 (fun h => absurd h.1 (Int32.not_lt.mpr c30))), if_neg (fun h => h.elim c77 (fun h => absurd h.1 (Int32.not_lt.mpr c30)))], rfl⟩)
  · skip
    refine x_iconst (pc := 33) (v := (1)) d112_33 (by decide) ?_
    refine x_goto (pc := 34) (tgt := 38) d112_34 (by decide) ?_
    refine x_istore_n (pc := 38) d112_38 (by decide) ?_
    refine x_aload_n (pc := 39) d112_39 rfl ?_
    refine y_getr (pc := 40) d112_40 fk7_40 shL143 rfl ?_
    refine y_cV0i (pc := 43) d112_43 ml7_85 mv70 (shF 6 (by decide)) (c_next 6 (by decide) s (hG.D 6)) (by decide) (Nat.le_of_ble_eq_true rfl) ⟨Nat.zero_le _, Nat.zero_le _⟩ (fun v s hq => ?_)
    obtain ⟨rfl, rfl⟩ := hq
    refine x_istore_n (pc := 46) d112_46 (by decide) ?_
    refine x_iload_n (pc := 47) d112_47 rfl ?_
    refine x_iconst (pc := 48) (v := (-1)) d112_48 (by decide) ?_
    refine x_icmp_eq (pc := 49) (tgt := 66) d112_49 (by decide) (fun c49 => ?_) (fun c49 => ?_)
    · skip
      refine x_iconst (pc := 66) (v := (1)) d112_66 (by decide) ?_
      exact y_zret (pc := 67) d112_67 rfl (by first | exact Or.inl rfl | exact Or.inr rfl) (⟨by unfold wd1V; rw [if_pos (Or.inl c49)], rfl⟩)
    · skip
      refine x_iload_n (pc := 52) d112_52 rfl ?_
      refine x_if_eq (pc := 53) (tgt := 68) d112_53 (by decide) (fun c53 => absurd c53 (by decide)) (fun c53 => ?_)
      refine x_aload_n (pc := 56) d112_56 rfl ?_
      refine y_getr (pc := 57) d112_57 fk7_40 shL143 rfl ?_
      refine y_geti (pc := 60) d112_60 fk7_72 (shF 6 (by decide)) rfl ?_
      refine x_if_ne (pc := 63) (tgt := 68) d112_63 (by decide) (fun c63 => ?_) (fun c63 => ?_)
      · skip
        refine x_aload_n (pc := 68) d112_68 rfl ?_
        refine x_aload_n (pc := 69) d112_69 rfl ?_
        refine y_getr (pc := 70) d112_70 fk7_40 shL143 rfl ?_
        refine x_iload_n (pc := 73) d112_73 rfl ?_
        rw [(hN c49).1]
        refine y_cV2i (pc := 74) d112_74 ml7_171 mv89 shL143 (c_waits 6 (by decide) s (aN s 6 (dN s 6)) hG (hN c49).2) (by decide) (Nat.le_of_ble_eq_true rfl) ⟨Nat.zero_le _, Nat.zero_le _⟩ (fun v s hq => ?_)
        obtain ⟨rfl, rfl⟩ := hq
        refine x_if_eq (pc := 77) (tgt := 95) d112_77 (by decide) (fun c77 => ?_) (fun c77 => ?_)
        · skip
          refine x_iconst (pc := 95) (v := (1)) d112_95 (by decide) ?_
          refine x_goto (pc := 96) (tgt := 100) d112_96 (by decide) ?_
          exact y_zret (pc := 100) d112_100 rfl (by first | exact Or.inl rfl | exact Or.inr rfl) (⟨by unfold wd1V; rw [if_neg (fun h => h.elim c49 (fun h => c63 h.2)), if_pos (Or.inl c77)], rfl⟩)
        · skip
          refine x_iload_n (pc := 80) d112_80 rfl ?_
          refine x_if_eq (pc := 81) (tgt := 99) d112_81 (by decide) (fun c81 => absurd c81 (by decide)) (fun c81 => ?_)
          refine x_aload_n (pc := 84) d112_84 rfl ?_
          refine y_getr (pc := 85) d112_85 fk7_40 shL143 rfl ?_
          refine y_geti (pc := 88) d112_88 fk7_72 (shF 6 (by decide)) rfl ?_
          refine x_iconst (pc := 91) (v := (1)) d112_91 (by decide) ?_
          refine x_icmp_ne (pc := 92) (tgt := 99) d112_92 (by decide) (fun c92 => ?_) (fun c92 => ?_)
          · skip
            refine x_iconst (pc := 99) (v := (0)) d112_99 (by decide) ?_
            exact y_zret (pc := 100) d112_100 rfl (by first | exact Or.inl rfl | exact Or.inr rfl) (⟨by unfold wd1V; rw [if_neg (fun h => h.elim c49 (fun h => c63 h.2)), if_neg (fun h => h.elim c77 (fun h => c92 h.2))], rfl⟩)
          · skip
            refine x_iconst (pc := 95) (v := (1)) d112_95 (by decide) ?_
            refine x_goto (pc := 96) (tgt := 100) d112_96 (by decide) ?_
            exact y_zret (pc := 100) d112_100 rfl (by first | exact Or.inl rfl | exact Or.inr rfl) (⟨by unfold wd1V; rw [if_neg (fun h => h.elim c49 (fun h => c63 h.2)), if_pos (Or.inr ⟨Int32.not_le.mp c30, c92⟩)], rfl⟩)
      · skip
        refine x_iconst (pc := 66) (v := (1)) d112_66 (by decide) ?_
        exact y_zret (pc := 67) d112_67 rfl (by first | exact Or.inl rfl | exact Or.inr rfl) (⟨by unfold wd1V; rw [if_pos (Or.inr ⟨Int32.not_le.mp c30, c63⟩)], rfl⟩)
theorem zi_to {R : Room} {j pc : Nat} {lv : List (Nat × Value)} {M : Me} {Q Q2 : Int32 → St → Prop} (hQ : ∀ v s1, Q v s1 → Q2 v s1) (h : Wp R j (zi Q) 0 0 pc lv [] M TT) : Wp R j (zi Q2) 0 0 pc lv [] M TT := by
  intro l E p e s m args below meth c C H locs hl hH ls hv T hT X
  obtain ⟨t, a, o, b1, b2, ⟨r, M1, t1, d1, ⟨v, s1, e1, e2, e3, e4⟩, d3⟩, b4⟩ := h l E p e s m args below meth c C H locs hl hH ls hv T hT X
  exact ⟨t, a, o, b1, b2, ⟨r, M1, t1, d1, ⟨v, s1, e1, e2, e3, hQ v s1 e4⟩, d3⟩, b4⟩
set_option maxRecDepth 100000 in
theorem c_would (i : Nat) (hi : i < 7) (s : St) (hG : GV s) (hN : NX (setS 6 24 (mirS s 6 i)).2 6) : Ri 4 112 [.ref 143, .ref (FA i)] s (fun v s1 => (v, s1) = wdR s i) := by
  refine ct_of (by decide +kernel) (Nat.le_of_ble_eq_true rfl) ?_
  show Wp _ _ _ _ _ _ [(0, .ref 143), (1, .ref (FA i))] _ _ _
  refine x_aload_n (pc := 0) d112_0 rfl ?_
  refine y_getr (pc := 1) d112_1 fk7_40 shL143 rfl ?_
  refine x_aload_n (pc := 4) d112_4 rfl ?_
  refine y_cV1v (pc := 5) d112_5 ml7_188 mv113 (shF 6 (by decide)) (c_mir 6 (by decide) i hi s hG) (by decide) (Nat.le_of_ble_eq_true rfl) ⟨Nat.zero_le _, Nat.zero_le _⟩ (fun s hq => ?_)
  subst hq
  refine x_aload_n (pc := 8) d112_8 rfl ?_
  refine y_getr (pc := 9) d112_9 fk7_40 shL143 rfl ?_
  refine y_cV0i (pc := 12) d112_12 ml7_68 mv69 (shF 6 (by decide)) (c_settle 6 (by decide) _ (GV_mir hG)) (by decide) (Nat.le_of_ble_eq_true rfl) ⟨Nat.zero_le _, Nat.zero_le _⟩ (fun v s hq => ?_)
  have hq1 : v = _ := congrArg Prod.fst hq
  have hq2 : s = _ := congrArg Prod.snd hq
  rw [hq1, hq2]
  clear hq1 hq2 hq
  refine x_if_eq (pc := 15) (tgt := 20) d112_15 (by decide) (fun c15 => ?_) (fun c15 => ?_)
  · skip
    refine zi_to ?_ (lp_would i hi _ (GV_settle 6 24 _ (GV_mir hG)) hN)
    rintro v1 s1 ⟨rfl, rfl⟩
    unfold wdR
    rw [if_pos c15]
  · skip
    refine x_iconst (pc := 18) (v := (1)) d112_18 (by decide) ?_
    exact y_zret (pc := 19) d112_19 rfl (by first | exact Or.inl rfl | exact Or.inr rfl) (by unfold wdR; rw [if_neg c15])
def awS : Nat → Nat → St → Int32 × St
  | 0, _, s => (0, s)
  | m + 1, k, s => if ¬ s.1 38 k 0 = 1 then awS m (k + 1) s else if (wdR s k).1 = 0 then awS m (k + 1) (wdR s k).2 else (1, (wdR s k).2)
/-- what the shadow's run needs, from THREAD to THREAD -/
def AJ (J : St → Prop) : Prop := ∀ s k, J s → k < 6 → s.1 38 k 0 = 1 → NX (setS 6 24 (mirS s 6 k)).2 6 ∧ J (wdR s k).2
set_option maxRecDepth 100000 in
theorem lp_any (J : St → Prop) (hA : AJ J) : ∀ (m k : Nat) (s : St) (r : Int32 × St), k + m = 6 → GV s → J s → awS m k s = r → Wp (rmd 5 0 0) 111 (zi (fun v s1 => (v, s1) = r)) 0 0 2 [(1, .int (nI k)), (0, .ref 143)] [] (mk s) TT := by
  intro m
  induction m with
  | zero =>
    intro k s r hk hG hJ hr
    refine x_iload_n (pc := 2) d111_2 rfl ?_
    refine x_bipush (pc := 3) (v := (6)) d111_3 (by decide) ?_
    refine x_icmp_ge (pc := 5) (tgt := 42) d111_5 (by decide) (fun c5 => ?_) (fun c5 => absurd (show (6 : Int32) ≤ nI k from (show (6 : Int32) = nI 6 from rfl) ▸ nI_le (by omega) (by omega)) c5)
    refine x_iconst (pc := 42) (v := (0)) d111_42 (by decide) ?_
    exact y_zret (pc := 43) d111_43 rfl (by first | exact Or.inl rfl | exact Or.inr rfl) (hr)
  | succ m ih =>
    intro k s r hk hG hJ hr
    unfold awS at hr
    have ih9 := ih (k + 1)
    have hJ9 := hA s k hJ (by omega)
    have hG9 := GV_wd (i := k) hG
    refine x_iload_n (pc := 2) d111_2 rfl ?_
    refine x_bipush (pc := 3) (v := (6)) d111_3 (by decide) ?_
    refine x_icmp_ge (pc := 5) (tgt := 42) d111_5 (by decide) (fun c5 => absurd c5 (show ¬ (6 : Int32) ≤ nI k from (show (6 : Int32) = nI 6 from rfl) ▸ nI_ge (by omega) (by omega))) (fun c5 => ?_)
    refine x_aload_n (pc := 8) d111_8 rfl ?_
    refine y_getr (pc := 9) d111_9 fk7_36 shL143 rfl ?_
    refine x_iload_n (pc := 12) d111_12 rfl ?_
    refine y_aaldFN (pc := 13) (q := k) d111_13 (by omega) (rfl) ?_
    refine y_geti (pc := 14) d111_14 fk7_181 (shF k (by omega)) rfl ?_
    refine x_iconst (pc := 17) (v := (1)) d111_17 (by decide) ?_
    refine x_icmp_ne (pc := 18) (tgt := 36) d111_18 (by decide) (fun c18 => ?_) (fun c18 => ?_)
    · skip
      refine y_inc (pc := 36) (c := (1)) d111_36 (by decide) (by decide) rfl ?_
      refine x_goto (pc := 39) (tgt := 2) d111_39 (by decide) ?_
      rw [nI_1]
      exact ih9 _ r (by omega) hG hJ (by rw [if_pos c18] at hr; exact hr)
    · skip
      refine x_aload_n (pc := 21) d111_21 rfl ?_
      refine x_aload_n (pc := 22) d111_22 rfl ?_
      refine y_getr (pc := 23) d111_23 fk7_36 shL143 rfl ?_
      refine x_iload_n (pc := 26) d111_26 rfl ?_
      refine y_aaldFN (pc := 27) (q := k) d111_27 (by omega) (rfl) ?_
      refine y_cV1i (pc := 28) d111_28 ml7_184 mv112 shL143 (c_would k (by omega) s hG (hA s k hJ (by omega) c18).1) (by decide) (Nat.le_of_ble_eq_true rfl) ⟨Nat.zero_le _, Nat.zero_le _⟩ (fun v s hq => ?_)
      have hq1 : v = _ := congrArg Prod.fst hq
      have hq2 : s = _ := congrArg Prod.snd hq
      rw [hq1, hq2]
      clear hq1 hq2 hq
      refine x_if_eq (pc := 31) (tgt := 36) d111_31 (by decide) (fun c31 => ?_) (fun c31 => ?_)
      · skip
        refine y_inc (pc := 36) (c := (1)) d111_36 (by decide) (by decide) rfl ?_
        refine x_goto (pc := 39) (tgt := 2) d111_39 (by decide) ?_
        rw [nI_1]
        exact ih9 _ r (by omega) hG9 (hJ9 c18).2 (by rw [if_neg (fun h => h c18), if_pos c31] at hr; exact hr)
      · skip
        refine x_iconst (pc := 34) (v := (1)) d111_34 (by decide) ?_
        exact y_zret (pc := 35) d111_35 rfl (by first | exact Or.inl rfl | exact Or.inr rfl) (by rw [if_neg (fun h => h c18), if_neg c31] at hr; exact hr)
set_option maxRecDepth 100000 in
theorem c_any (s : St) (hG : GV s) (J : St → Prop) (hA : AJ J) (hJ : J s) : Ri 5 111 [.ref 143] s (fun v s1 => (v, s1) = awS 6 0 s) := by
  refine ct_of (by decide +kernel) (Nat.le_of_ble_eq_true rfl) ?_
  show Wp _ _ _ _ _ _ [(0, .ref 143)] _ _ _
  refine x_iconst (pc := 0) (v := (0)) d111_0 (by decide) ?_
  refine x_istore_n (pc := 1) d111_1 (by decide) ?_
  exact lp_any J hA 6 0 s _ rfl hG hJ rfl
def r6S : Nat → Nat → St → St
  | 0, _, s => s
  | m + 1, k, s => r6S m (k + 1) (resetS s k)
def b8S : Nat → Nat → St → St
  | 0, _, s => s
  | m + 1, k, s => b8S m (k + 1) (si s 114 0 k 0)
def clrS (s : St) : St := b8S 8 0 (r6S 6 0 (si (si s 16 0 0 0) 17 0 0 0))
theorem GV_r6 : ∀ m k s, GV s → GV (r6S m k s)
  | 0, _, _, h => h
  | m + 1, k, s, h => GV_r6 m (k + 1) _ (GV_reset h)
theorem GV_b8 : ∀ m k s, GV s → GV (b8S m k s)
  | 0, _, _, h => h
  | m + 1, k, s, h => GV_b8 m (k + 1) _ (GV_si h (okN_of (q := 0) (by decide)))
theorem GV_clr {s : St} (h : GV s) : GV (clrS s) := GV_b8 8 0 _ (GV_r6 6 0 _ (GV_si (GV_si h trivial) (okN_of (q := 0) (by decide))))
set_option maxRecDepth 100000 in
theorem lp_clr2 {Q : St → Prop} : ∀ (m k : Nat) (s : St), k + m = 8 → Q (b8S m k s) → Wp (rmd 2 0 0) 122 (zv Q) 0 0 41 [(1, .int (nI k)), (0, .ref 143)] [] (mk s) TT := by
  intro m
  induction m with
  | zero =>
    intro k s hk hx
    refine x_iload_n (pc := 41) d122_41 rfl ?_
    refine x_bipush (pc := 42) (v := (8)) d122_42 (by decide) ?_
    refine x_icmp_ge (pc := 44) (tgt := 60) d122_44 (by decide) (fun c44 => ?_) (fun c44 => absurd (show (8 : Int32) ≤ nI k from (show (8 : Int32) = nI 8 from rfl) ▸ nI_le (by omega) (by omega)) c44)
    exact y_vret (pc := 60) d122_60 rfl (hx)
  | succ m ih =>
    intro k s hk hx
    refine x_iload_n (pc := 41) d122_41 rfl ?_
    refine x_bipush (pc := 42) (v := (8)) d122_42 (by decide) ?_
    refine x_icmp_ge (pc := 44) (tgt := 60) d122_44 (by decide) (fun c44 => absurd c44 (show ¬ (8 : Int32) ≤ nI k from (show (8 : Int32) = nI 8 from rfl) ▸ nI_ge (by omega) (by omega))) (fun c44 => ?_)
    refine x_aload_n (pc := 47) d122_47 rfl ?_
    refine y_getr (pc := 48) d122_48 fk7_9 shL143 rfl ?_
    refine x_iload_n (pc := 51) d122_51 rfl ?_
    refine x_iconst (pc := 52) (v := (0)) d122_52 (by decide) ?_
    refine y_zastN (pc := 53) (q := k) d122_53 shL144 (by omega) (by decide) (rfl) ?_
    rw [nz0]
    refine y_inc (pc := 54) (c := (1)) d122_54 (by decide) (by decide) rfl ?_
    refine x_goto (pc := 57) (tgt := 41) d122_57 (by decide) ?_
    rw [nI_1]
    exact ih (k + 1) _ (by omega) hx
set_option maxRecDepth 100000 in
theorem lp_clr1 {Q : St → Prop} : ∀ (m k : Nat) (s : St), k + m = 6 → Q (b8S 8 0 (r6S m k s)) → Wp (rmd 2 0 0) 122 (zv Q) 0 0 18 [(1, .int (nI k)), (0, .ref 143)] [] (mk s) TT := by
  intro m
  induction m with
  | zero =>
    intro k s hk hx
    refine x_iload_n (pc := 18) d122_18 rfl ?_
    refine x_bipush (pc := 19) (v := (6)) d122_19 (by decide) ?_
    refine x_icmp_ge (pc := 21) (tgt := 39) d122_21 (by decide) (fun c21 => ?_) (fun c21 => absurd (show (6 : Int32) ≤ nI k from (show (6 : Int32) = nI 6 from rfl) ▸ nI_le (by omega) (by omega)) c21)
    refine x_iconst (pc := 39) (v := (0)) d122_39 (by decide) ?_
    refine x_istore_n (pc := 40) d122_40 (by decide) ?_
    exact lp_clr2 8 0 _ rfl hx
  | succ m ih =>
    intro k s hk hx
    refine x_iload_n (pc := 18) d122_18 rfl ?_
    refine x_bipush (pc := 19) (v := (6)) d122_19 (by decide) ?_
    refine x_icmp_ge (pc := 21) (tgt := 39) d122_21 (by decide) (fun c21 => absurd c21 (show ¬ (6 : Int32) ≤ nI k from (show (6 : Int32) = nI 6 from rfl) ▸ nI_ge (by omega) (by omega))) (fun c21 => ?_)
    refine x_aload_n (pc := 24) d122_24 rfl ?_
    refine y_getr (pc := 25) d122_25 fk7_36 shL143 rfl ?_
    refine x_iload_n (pc := 28) d122_28 rfl ?_
    refine y_aaldFN (pc := 29) (q := k) d122_29 (by omega) (rfl) ?_
    refine y_cV0v (pc := 30) d122_30 ml7_51 mv60 (shF k (by omega)) (c_reset k (by omega) _) (by decide) (Nat.le_of_ble_eq_true rfl) ⟨Nat.zero_le _, Nat.zero_le _⟩ (fun s hq => ?_)
    subst hq
    refine y_inc (pc := 33) (c := (1)) d122_33 (by decide) (by decide) rfl ?_
    refine x_goto (pc := 36) (tgt := 18) d122_36 (by decide) ?_
    rw [nI_1]
    exact ih (k + 1) _ (by omega) hx
set_option maxRecDepth 100000 in
theorem c_clr (s : St) : Rv 2 122 [.ref 143] s (fun s1 => s1 = clrS s) := by
  refine ct_of (by decide +kernel) (Nat.le_of_ble_eq_true rfl) ?_
  show Wp _ _ _ _ _ _ [(0, .ref 143)] _ _ _
  refine x_aload_n (pc := 0) d122_0 rfl ?_
  refine y_getr (pc := 1) d122_1 fk7_32 shL143 rfl ?_
  refine x_iconst (pc := 4) (v := (0)) d122_4 (by decide) ?_
  refine y_puti (pc := 5) d122_5 fk7_44 (shC 0 (by decide)) rfl rfl ⟨rfl, rfl⟩ ?_
  refine x_aload_n (pc := 8) d122_8 rfl ?_
  refine y_getr (pc := 9) d122_9 fk7_32 shL143 rfl ?_
  refine x_iconst (pc := 12) (v := (0)) d122_12 (by decide) ?_
  refine y_puti (pc := 13) d122_13 fk7_48 (shC 0 (by decide)) rfl rfl ⟨rfl, rfl⟩ ?_
  refine x_iconst (pc := 16) (v := (0)) d122_16 (by decide) ?_
  refine x_istore_n (pc := 17) d122_17 (by decide) ?_
  exact lp_clr1 6 0 _ rfl rfl
