/-! the class's own face -/
/-- whether x is 0 .. L - 1 -/
def inW (x L : Int32) : Int32 := if x < 0 then 0 else if L ≤ x then 0 else 1
theorem inW_c {x : Int32} {n : Nat} (hn : n < 2 ^ 31) (h : ¬ inW x (nI n) = 0) : x = nI x.toNatClampNeg ∧ x.toNatClampNeg < n := by
  unfold inW at h
  by_cases h1 : x < 0
  · rw [if_pos h1] at h; exact absurd rfl h
  rw [if_neg h1] at h
  by_cases h2 : nI n ≤ x
  · rw [if_pos h2] at h; exact absurd rfl h
  obtain ⟨q, hq, rfl, -⟩ := pk_mu h1 h2 hn
  rw [nI_clamp (by omega)]; exact ⟨rfl, hq⟩
set_option maxRecDepth 100000 in
theorem c_isThread (s : St) (x : Int32) : Ri 0 57 [.int x] s (fun v s1 => v = inW x 6 ∧ s1 = s) := by
  refine ct_of (by decide +kernel) (Nat.le_of_ble_eq_true rfl) ?_
  show Wp _ _ _ _ _ _ [(0, .int x)] _ _ _
  refine x_iload_n (pc := 0) d57_0 rfl ?_
  refine x_if_lt (pc := 1) (tgt := 14) d57_1 (by decide) (fun c1 => ?_) (fun c1 => ?_)
  · skip
    refine x_iconst (pc := 14) (v := (0)) d57_14 (by decide) ?_
    exact y_zret (pc := 15) d57_15 rfl (by first | exact Or.inl rfl | exact Or.inr rfl) (⟨by unfold inW; rw [if_pos c1], rfl⟩)
  · skip
    refine x_iload_n (pc := 4) d57_4 rfl ?_
    refine x_bipush (pc := 5) (v := (6)) d57_5 (by decide) ?_
    refine x_icmp_ge (pc := 7) (tgt := 14) d57_7 (by decide) (fun c7 => ?_) (fun c7 => ?_)
    · skip
      refine x_iconst (pc := 14) (v := (0)) d57_14 (by decide) ?_
      exact y_zret (pc := 15) d57_15 rfl (by first | exact Or.inl rfl | exact Or.inr rfl) (⟨by unfold inW; rw [if_neg c1, if_pos c7], rfl⟩)
    · skip
      refine x_iconst (pc := 10) (v := (1)) d57_10 (by decide) ?_
      refine x_goto (pc := 11) (tgt := 15) d57_11 (by decide) ?_
      exact y_zret (pc := 15) d57_15 rfl (by first | exact Or.inl rfl | exact Or.inr rfl) (⟨by unfold inW; rw [if_neg c1, if_neg c7], rfl⟩)
set_option maxRecDepth 100000 in
theorem c_isBox (s : St) (x : Int32) : Ri 0 100 [.int x] s (fun v s1 => v = inW x 8 ∧ s1 = s) := by
  refine ct_of (by decide +kernel) (Nat.le_of_ble_eq_true rfl) ?_
  show Wp _ _ _ _ _ _ [(0, .int x)] _ _ _
  refine x_iload_n (pc := 0) d100_0 rfl ?_
  refine x_if_lt (pc := 1) (tgt := 14) d100_1 (by decide) (fun c1 => ?_) (fun c1 => ?_)
  · skip
    refine x_iconst (pc := 14) (v := (0)) d100_14 (by decide) ?_
    exact y_zret (pc := 15) d100_15 rfl (by first | exact Or.inl rfl | exact Or.inr rfl) (⟨by unfold inW; rw [if_pos c1], rfl⟩)
  · skip
    refine x_iload_n (pc := 4) d100_4 rfl ?_
    refine x_bipush (pc := 5) (v := (8)) d100_5 (by decide) ?_
    refine x_icmp_ge (pc := 7) (tgt := 14) d100_7 (by decide) (fun c7 => ?_) (fun c7 => ?_)
    · skip
      refine x_iconst (pc := 14) (v := (0)) d100_14 (by decide) ?_
      exact y_zret (pc := 15) d100_15 rfl (by first | exact Or.inl rfl | exact Or.inr rfl) (⟨by unfold inW; rw [if_neg c1, if_pos c7], rfl⟩)
    · skip
      refine x_iconst (pc := 10) (v := (1)) d100_10 (by decide) ?_
      refine x_goto (pc := 11) (tgt := 15) d100_11 (by decide) ?_
      exact y_zret (pc := 15) d100_15 rfl (by first | exact Or.inl rfl | exact Or.inr rfl) (⟨by unfold inW; rw [if_neg c1, if_neg c7], rfl⟩)
set_option maxRecDepth 100000 in
theorem c_isProgram (s : St) (x : Int32) : Ri 0 55 [.ref 3, .int x] s (fun v s1 => v = inW x (s.1 132 0 0) ∧ s1 = s) := by
  refine ct_of (by decide +kernel) (Nat.le_of_ble_eq_true rfl) ?_
  show Wp _ _ _ _ _ _ [(0, .ref 3), (1, .int x)] _ _ _
  refine x_iload_n (pc := 0) d55_0 rfl ?_
  refine x_if_lt (pc := 1) (tgt := 16) d55_1 (by decide) (fun c1 => ?_) (fun c1 => ?_)
  · skip
    refine x_iconst (pc := 16) (v := (0)) d55_16 (by decide) ?_
    exact y_zret (pc := 17) d55_17 rfl (by first | exact Or.inl rfl | exact Or.inr rfl) (⟨by unfold inW; rw [if_pos c1], rfl⟩)
  · skip
    refine x_iload_n (pc := 4) d55_4 rfl ?_
    refine x_aload_n (pc := 5) d55_5 rfl ?_
    refine y_geti (pc := 6) d55_6 fk8_45 shL3 rfl ?_
    refine x_icmp_ge (pc := 9) (tgt := 16) d55_9 (by decide) (fun c9 => ?_) (fun c9 => ?_)
    · skip
      refine x_iconst (pc := 16) (v := (0)) d55_16 (by decide) ?_
      exact y_zret (pc := 17) d55_17 rfl (by first | exact Or.inl rfl | exact Or.inr rfl) (⟨by unfold inW; rw [if_neg c1, if_pos c9], rfl⟩)
    · skip
      refine x_iconst (pc := 12) (v := (1)) d55_12 (by decide) ?_
      refine x_goto (pc := 13) (tgt := 17) d55_13 (by decide) ?_
      exact y_zret (pc := 17) d55_17 rfl (by first | exact Or.inl rfl | exact Or.inr rfl) (⟨by unfold inW; rw [if_neg c1, if_neg c9], rfl⟩)
set_option maxRecDepth 100000 in
theorem c_isNote (s : St) (x : Int32) : Ri 0 119 [.ref 3, .int x] s (fun v s1 => v = inW x (s.1 17 0 0) ∧ s1 = s) := by
  refine ct_of (by decide +kernel) (Nat.le_of_ble_eq_true rfl) ?_
  show Wp _ _ _ _ _ _ [(0, .ref 3), (1, .int x)] _ _ _
  refine x_iload_n (pc := 0) d119_0 rfl ?_
  refine x_if_lt (pc := 1) (tgt := 22) d119_1 (by decide) (fun c1 => ?_) (fun c1 => ?_)
  · skip
    refine x_iconst (pc := 22) (v := (0)) d119_22 (by decide) ?_
    exact y_zret (pc := 23) d119_23 rfl (by first | exact Or.inl rfl | exact Or.inr rfl) (⟨by unfold inW; rw [if_pos c1], rfl⟩)
  · skip
    refine x_iload_n (pc := 4) d119_4 rfl ?_
    refine x_aload_n (pc := 5) d119_5 rfl ?_
    refine y_getr (pc := 6) d119_6 fk8_34 shL3 rfl ?_
    refine y_getr (pc := 9) d119_9 fk8_159 shL143 rfl ?_
    refine y_geti (pc := 12) d119_12 fk8_168 (shC 0 (by decide)) rfl ?_
    refine x_icmp_ge (pc := 15) (tgt := 22) d119_15 (by decide) (fun c15 => ?_) (fun c15 => ?_)
    · skip
      refine x_iconst (pc := 22) (v := (0)) d119_22 (by decide) ?_
      exact y_zret (pc := 23) d119_23 rfl (by first | exact Or.inl rfl | exact Or.inr rfl) (⟨by unfold inW; rw [if_neg c1, if_pos c15], rfl⟩)
    · skip
      refine x_iconst (pc := 18) (v := (1)) d119_18 (by decide) ?_
      refine x_goto (pc := 19) (tgt := 23) d119_19 (by decide) ?_
      exact y_zret (pc := 23) d119_23 rfl (by first | exact Or.inl rfl | exact Or.inr rfl) (⟨by unfold inW; rw [if_neg c1, if_neg c15], rfl⟩)
def rnV (s : St) (x : Int32) : Int32 := if inW x 6 = 0 then 0 else if s.1 38 x.toNatClampNeg 0 = 1 then 1 else 0
set_option maxRecDepth 100000 in
theorem c_runs (s : St) (x : Int32) : Ri 1 58 [.ref 3, .int x] s (fun v s1 => v = rnV s x ∧ s1 = s) := by
  refine ct_of (by decide +kernel) (Nat.le_of_ble_eq_true rfl) ?_
  show Wp _ _ _ _ _ _ [(0, .ref 3), (1, .int x)] _ _ _
  refine x_iload_n (pc := 0) d58_0 rfl ?_
  refine y_cS1i (pc := 1) d58_1 ml8_65 mv57 (c_isThread s _) (by decide) (Nat.le_of_ble_eq_true rfl) ⟨Nat.zero_le _, Nat.zero_le _⟩ (fun v s hq => ?_)
  obtain ⟨rfl, rfl⟩ := hq
  refine x_if_eq (pc := 4) (tgt := 27) d58_4 (by decide) (fun c4 => ?_) (fun c4 => ?_)
  · skip
    refine x_iconst (pc := 27) (v := (0)) d58_27 (by decide) ?_
    exact y_zret (pc := 28) d58_28 rfl (by first | exact Or.inl rfl | exact Or.inr rfl) (⟨by unfold rnV; rw [if_pos c4], rfl⟩)
  · skip
    refine x_aload_n (pc := 7) d58_7 rfl ?_
    refine y_getr (pc := 8) d58_8 fk8_34 shL3 rfl ?_
    refine y_getr (pc := 11) d58_11 fk8_71 shL143 rfl ?_
    refine x_iload_n (pc := 14) d58_14 rfl ?_
    refine y_aaldFN (pc := 15) (q := x.toNatClampNeg) d58_15 ((inW_c (n := 6) (by decide) c4).2) ((inW_c (n := 6) (by decide) c4).1) ?_
    refine y_geti (pc := 16) d58_16 fk8_117 (shF x.toNatClampNeg ((Nat.lt_trans (inW_c (n := 6) (by decide) c4).2 (by decide)))) rfl ?_
    refine x_iconst (pc := 19) (v := (1)) d58_19 (by decide) ?_
    refine x_icmp_ne (pc := 20) (tgt := 27) d58_20 (by decide) (fun c20 => ?_) (fun c20 => ?_)
    · skip
      refine x_iconst (pc := 27) (v := (0)) d58_27 (by decide) ?_
      exact y_zret (pc := 28) d58_28 rfl (by first | exact Or.inl rfl | exact Or.inr rfl) (⟨by unfold rnV; rw [if_neg c4, if_neg c20], rfl⟩)
    · skip
      refine x_iconst (pc := 23) (v := (1)) d58_23 (by decide) ?_
      refine x_goto (pc := 24) (tgt := 28) d58_24 (by decide) ?_
      exact y_zret (pc := 28) d58_28 rfl (by first | exact Or.inl rfl | exact Or.inr rfl) (⟨by unfold rnV; rw [if_neg c4, if_pos c20], rfl⟩)
def irV (s : St) (x y : Int32) : Int32 := if inW x 6 = 0 then 0 else inW y (s.1 80 x.toNatClampNeg 0)
set_option maxRecDepth 100000 in
theorem c_isInRow (s : St) (x y : Int32) : Ri 1 108 [.ref 3, .int x, .int y] s (fun v s1 => v = irV s x y ∧ s1 = s) := by
  refine ct_of (by decide +kernel) (Nat.le_of_ble_eq_true rfl) ?_
  show Wp _ _ _ _ _ _ [(0, .ref 3), (1, .int x), (2, .int y)] _ _ _
  refine x_iload_n (pc := 0) d108_0 rfl ?_
  refine y_cS1i (pc := 1) d108_1 ml8_65 mv57 (c_isThread s _) (by decide) (Nat.le_of_ble_eq_true rfl) ⟨Nat.zero_le _, Nat.zero_le _⟩ (fun v s hq => ?_)
  obtain ⟨rfl, rfl⟩ := hq
  refine x_if_eq (pc := 4) (tgt := 34) d108_4 (by decide) (fun c4 => ?_) (fun c4 => ?_)
  · skip
    refine x_iconst (pc := 34) (v := (0)) d108_34 (by decide) ?_
    exact y_zret (pc := 35) d108_35 rfl (by first | exact Or.inl rfl | exact Or.inr rfl) (⟨by unfold irV; rw [if_pos c4], rfl⟩)
  · skip
    refine x_iload_n (pc := 7) d108_7 rfl ?_
    refine x_if_lt (pc := 8) (tgt := 34) d108_8 (by decide) (fun c8 => ?_) (fun c8 => ?_)
    · skip
      refine x_iconst (pc := 34) (v := (0)) d108_34 (by decide) ?_
      exact y_zret (pc := 35) d108_35 rfl (by first | exact Or.inl rfl | exact Or.inr rfl) (⟨by unfold irV; rw [if_neg c4]; unfold inW; rw [if_pos c8], rfl⟩)
    · skip
      refine x_iload_n (pc := 11) d108_11 rfl ?_
      refine x_aload_n (pc := 12) d108_12 rfl ?_
      refine y_getr (pc := 13) d108_13 fk8_34 shL3 rfl ?_
      refine y_getr (pc := 16) d108_16 fk8_71 shL143 rfl ?_
      refine x_iload_n (pc := 19) d108_19 rfl ?_
      refine y_aaldFN (pc := 20) (q := x.toNatClampNeg) d108_20 ((inW_c (n := 6) (by decide) c4).2) ((inW_c (n := 6) (by decide) c4).1) ?_
      refine y_getr (pc := 21) d108_21 fk8_89 (shF x.toNatClampNeg ((Nat.lt_trans (inW_c (n := 6) (by decide) c4).2 (by decide)))) rfl ?_
      refine y_geti (pc := 24) d108_24 fk8_103 (shR x.toNatClampNeg ((Nat.lt_trans (inW_c (n := 6) (by decide) c4).2 (by decide)))) rfl ?_
      refine x_icmp_ge (pc := 27) (tgt := 34) d108_27 (by decide) (fun c27 => ?_) (fun c27 => ?_)
      · skip
        refine x_iconst (pc := 34) (v := (0)) d108_34 (by decide) ?_
        exact y_zret (pc := 35) d108_35 rfl (by first | exact Or.inl rfl | exact Or.inr rfl) (⟨by unfold irV; rw [if_neg c4]; unfold inW; rw [if_neg c8, if_pos c27], rfl⟩)
      · skip
        refine x_iconst (pc := 30) (v := (1)) d108_30 (by decide) ?_
        refine x_goto (pc := 31) (tgt := 35) d108_31 (by decide) ?_
        exact y_zret (pc := 35) d108_35 rfl (by first | exact Or.inl rfl | exact Or.inr rfl) (⟨by unfold irV; rw [if_neg c4]; unfold inW; rw [if_neg c8, if_neg c27], rfl⟩)
set_option maxRecDepth 100000 in
theorem c_place (s : St) : Ri 0 53 [.ref 3] s (fun v s1 => v = s.1 133 0 0 ∧ s1 = s) := by
  refine ct_of (by decide +kernel) (Nat.le_of_ble_eq_true rfl) ?_
  show Wp _ _ _ _ _ _ [(0, .ref 3)] _ _ _
  refine x_aload_n (pc := 0) d53_0 rfl ?_
  refine y_geti (pc := 1) d53_1 fk8_27 shL3 rfl ?_
  exact y_iret (pc := 4) d53_4 rfl (⟨rfl, rfl⟩)
set_option maxRecDepth 100000 in
theorem c_clock (s : St) : Ri 0 116 [.ref 3] s (fun v s1 => v = s.1 16 0 0 ∧ s1 = s) := by
  refine ct_of (by decide +kernel) (Nat.le_of_ble_eq_true rfl) ?_
  show Wp _ _ _ _ _ _ [(0, .ref 3)] _ _ _
  refine x_aload_n (pc := 0) d116_0 rfl ?_
  refine y_getr (pc := 1) d116_1 fk8_34 shL3 rfl ?_
  refine y_getr (pc := 4) d116_4 fk8_159 shL143 rfl ?_
  refine y_geti (pc := 7) d116_7 fk8_163 (shC 0 (by decide)) rfl ?_
  exact y_iret (pc := 10) d116_10 rfl (⟨rfl, rfl⟩)
set_option maxRecDepth 100000 in
theorem c_notes (s : St) : Ri 0 117 [.ref 3] s (fun v s1 => v = s.1 17 0 0 ∧ s1 = s) := by
  refine ct_of (by decide +kernel) (Nat.le_of_ble_eq_true rfl) ?_
  show Wp _ _ _ _ _ _ [(0, .ref 3)] _ _ _
  refine x_aload_n (pc := 0) d117_0 rfl ?_
  refine y_getr (pc := 1) d117_1 fk8_34 shL3 rfl ?_
  refine y_getr (pc := 4) d117_4 fk8_159 shL143 rfl ?_
  refine y_geti (pc := 7) d117_7 fk8_168 (shC 0 (by decide)) rfl ?_
  exact y_iret (pc := 10) d117_10 rfl (⟨rfl, rfl⟩)
set_option maxRecDepth 100000 in
theorem c_clear (s : St) : Ri 3 121 [.ref 3] s (fun v s1 => v = s.1 17 0 0 ∧ s1 = clrS s) := by
  refine ct_of (by decide +kernel) (Nat.le_of_ble_eq_true rfl) ?_
  show Wp _ _ _ _ _ _ [(0, .ref 3)] _ _ _
  refine x_aload_n (pc := 0) d121_0 rfl ?_
  refine y_getr (pc := 1) d121_1 fk8_34 shL3 rfl ?_
  refine y_getr (pc := 4) d121_4 fk8_159 shL143 rfl ?_
  refine y_geti (pc := 7) d121_7 fk8_168 (shC 0 (by decide)) rfl ?_
  refine x_istore_n (pc := 10) d121_10 (by decide) ?_
  refine x_aload_n (pc := 11) d121_11 rfl ?_
  refine y_getr (pc := 12) d121_12 fk8_34 shL3 rfl ?_
  refine y_cV0v (pc := 15) d121_15 ml8_182 mv122 shL143 (c_clr _) (by decide) (Nat.le_of_ble_eq_true rfl) ⟨Nat.zero_le _, Nat.zero_le _⟩ (fun s hq => ?_)
  subst hq
  refine x_iload_n (pc := 18) d121_18 rfl ?_
  exact y_iret (pc := 19) d121_19 rfl (⟨rfl, rfl⟩)
def endV (s : St) (x : Int32) : Int32 := if x < 0 ∨ 20 < x ∨ ¬ 20 ≤ s.1 129 0 0 then -1 else s.1 129 0 0 - 20 + x
def endS (s : St) (x : Int32) : St := if x < 0 ∨ 20 < x ∨ ¬ 20 ≤ s.1 129 0 0 then s else si s 129 0 0 (s.1 129 0 0 - 20 + x)
set_option maxRecDepth 100000 in
theorem c_end (s : St) (x : Int32) : Ri 0 12 [.ref 3, .int x] s (fun v s1 => v = endV s x ∧ s1 = endS s x) := by
  refine ct_of (by decide +kernel) (Nat.le_of_ble_eq_true rfl) ?_
  show Wp _ _ _ _ _ _ [(0, .ref 3), (1, .int x)] _ _ _
  refine x_iload_n (pc := 0) d12_0 rfl ?_
  refine x_if_lt (pc := 1) (tgt := 19) d12_1 (by decide) (fun c1 => ?_) (fun c1 => ?_)
  · skip
    refine x_iconst (pc := 19) (v := (-1)) d12_19 (by decide) ?_
    exact y_iret (pc := 20) d12_20 rfl (⟨by unfold endV; rw [if_pos (Or.inl c1)], by unfold endS; rw [if_pos (Or.inl c1)]⟩)
  · skip
    refine x_iload_n (pc := 4) d12_4 rfl ?_
    refine x_bipush (pc := 5) (v := (20)) d12_5 (by decide) ?_
    refine x_icmp_gt (pc := 7) (tgt := 19) d12_7 (by decide) (fun c7 => ?_) (fun c7 => ?_)
    · skip
      refine x_iconst (pc := 19) (v := (-1)) d12_19 (by decide) ?_
      exact y_iret (pc := 20) d12_20 rfl (⟨by unfold endV; rw [if_pos (Or.inr (Or.inl c7))], by unfold endS; rw [if_pos (Or.inr (Or.inl c7))]⟩)
    · skip
      refine x_aload_n (pc := 10) d12_10 rfl ?_
      refine y_geti (pc := 11) d12_11 fk8_38 shL3 rfl ?_
      refine x_bipush (pc := 14) (v := (20)) d12_14 (by decide) ?_
      refine x_icmp_ge (pc := 16) (tgt := 21) d12_16 (by decide) (fun c16 => ?_) (fun c16 => ?_)
      · skip
        refine x_aload_n (pc := 21) d12_21 rfl ?_
        refine x_aload_n (pc := 22) d12_22 rfl ?_
        refine y_geti (pc := 23) d12_23 fk8_38 shL3 rfl ?_
        refine x_bipush (pc := 26) (v := (20)) d12_26 (by decide) ?_
        refine x_isub (pc := 28) d12_28 ?_
        refine x_iload_n (pc := 29) d12_29 rfl ?_
        refine x_iadd (pc := 30) d12_30 ?_
        refine y_puti (pc := 31) d12_31 fk8_38 shL3 rfl rfl ⟨rfl, rfl⟩ ?_
        refine x_aload_n (pc := 34) d12_34 rfl ?_
        refine y_geti (pc := 35) d12_35 fk8_38 shL3 rfl ?_
        exact y_iret (pc := 38) d12_38 rfl (⟨by unfold endV; rw [if_neg (fun h => h.elim c1 (fun h => h.elim c7 (fun h => h c16)))]; rw [si_eq], by unfold endS; rw [if_neg (fun h => h.elim c1 (fun h => h.elim c7 (fun h => h c16)))]⟩)
      · skip
        refine x_iconst (pc := 19) (v := (-1)) d12_19 (by decide) ?_
        exact y_iret (pc := 20) d12_20 rfl (⟨by unfold endV; rw [if_pos (Or.inr (Or.inr c16))], by unfold endS; rw [if_pos (Or.inr (Or.inr c16))]⟩)
def toldV (s : St) (x y : Int32) : Int32 := if inW x (s.1 132 0 0) = 0 then -1 else if y = 0 then s.1 64 x.toNatClampNeg 0 else if y = 1 then s.1 65 x.toNatClampNeg 0 else if y = 2 then s.1 66 x.toNatClampNeg 0 else -1
theorem inW_p {s : St} {x : Int32} {pc : Nat} (hpc : s.1 132 0 0 = nI pc) (hpc2 : pc ≤ 12) (h : ¬ inW x (s.1 132 0 0) = 0) : x = nI x.toNatClampNeg ∧ x.toNatClampNeg < 12 := by
  rw [hpc] at h
  have := inW_c (by omega) h
  exact ⟨this.1, by omega⟩
set_option maxRecDepth 100000 in
theorem c_told (s : St) (x y : Int32) (pc : Nat) (hpc : s.1 132 0 0 = nI pc) (hpc2 : pc ≤ 12) : Ri 1 54 [.ref 3, .int x, .int y] s (fun v s1 => v = toldV s x y ∧ s1 = s) := by
  refine ct_of (by decide +kernel) (Nat.le_of_ble_eq_true rfl) ?_
  show Wp _ _ _ _ _ _ [(0, .ref 3), (1, .int x), (2, .int y)] _ _ _
  refine x_aload_n (pc := 0) d54_0 rfl ?_
  refine x_iload_n (pc := 1) d54_1 rfl ?_
  refine y_cV1i (pc := 2) d54_2 ml8_52 mv55 shL3 (c_isProgram s _) (by decide) (Nat.le_of_ble_eq_true rfl) ⟨Nat.zero_le _, Nat.zero_le _⟩ (fun v s hq => ?_)
  obtain ⟨rfl, rfl⟩ := hq
  refine x_if_ne (pc := 5) (tgt := 10) d54_5 (by decide) (fun c5 => ?_) (fun c5 => ?_)
  · skip
    refine x_iload_n (pc := 10) d54_10 rfl ?_
    by_cases hk0 : y = 0
    · refine x_tableIn (pc := 11) (tgt := 36) (off := 25) d54_11 (by rw [hk0]; decide) (by rw [hk0]; decide) (by rw [hk0]; decide) (by decide) ?_
      refine x_aload_n (pc := 36) d54_36 rfl ?_
      refine y_getr (pc := 37) d54_37 fk8_22 shL3 rfl ?_
      refine x_iload_n (pc := 40) d54_40 rfl ?_
      refine y_aaldPN (pc := 41) (q := x.toNatClampNeg) d54_41 ((inW_p hpc hpc2 c5).2) ((inW_p hpc hpc2 c5).1) ?_
      refine y_geti (pc := 42) d54_42 fk8_56 (shP x.toNatClampNeg ((Nat.lt_trans (inW_p hpc hpc2 c5).2 (by decide)))) rfl ?_
      exact y_iret (pc := 45) d54_45 rfl (⟨by unfold toldV; rw [if_neg c5, if_pos hk0], rfl⟩)
    by_cases hk1 : y = 1
    · refine x_tableIn (pc := 11) (tgt := 46) (off := 35) d54_11 (by rw [hk1]; decide) (by rw [hk1]; decide) (by rw [hk1]; decide) (by decide) ?_
      refine x_aload_n (pc := 46) d54_46 rfl ?_
      refine y_getr (pc := 47) d54_47 fk8_22 shL3 rfl ?_
      refine x_iload_n (pc := 50) d54_50 rfl ?_
      refine y_aaldPN (pc := 51) (q := x.toNatClampNeg) d54_51 ((inW_p hpc hpc2 c5).2) ((inW_p hpc hpc2 c5).1) ?_
      refine y_geti (pc := 52) d54_52 fk8_59 (shP x.toNatClampNeg ((Nat.lt_trans (inW_p hpc hpc2 c5).2 (by decide)))) rfl ?_
      exact y_iret (pc := 55) d54_55 rfl (⟨by unfold toldV; rw [if_neg c5, if_neg hk0, if_pos hk1], rfl⟩)
    by_cases hk2 : y = 2
    · refine x_tableIn (pc := 11) (tgt := 56) (off := 45) d54_11 (by rw [hk2]; decide) (by rw [hk2]; decide) (by rw [hk2]; decide) (by decide) ?_
      refine x_aload_n (pc := 56) d54_56 rfl ?_
      refine y_getr (pc := 57) d54_57 fk8_22 shL3 rfl ?_
      refine x_iload_n (pc := 60) d54_60 rfl ?_
      refine y_aaldPN (pc := 61) (q := x.toNatClampNeg) d54_61 ((inW_p hpc hpc2 c5).2) ((inW_p hpc hpc2 c5).1) ?_
      refine y_geti (pc := 62) d54_62 fk8_62 (shP x.toNatClampNeg ((Nat.lt_trans (inW_p hpc hpc2 c5).2 (by decide)))) rfl ?_
      exact y_iret (pc := 65) d54_65 rfl (⟨by unfold toldV; rw [if_neg c5, if_neg hk0, if_neg hk1, if_pos hk2], rfl⟩)
    have z0 : ¬ (y).toInt = 0 := lv_neT hk0 (by decide)
    have z1 : ¬ (y).toInt = 1 := lv_neT hk1 (by decide)
    have z2 : ¬ (y).toInt = 2 := lv_neT hk2 (by decide)
    rcases (by omega : (y).toInt < 0 ∨ 2 < (y).toInt) with zz | zz
    · refine x_tableOut (pc := 11) (tgt := 66) d54_11 (Or.inl zz) (by decide) ?_
      refine x_iconst (pc := 66) (v := (-1)) d54_66 (by decide) ?_
      exact y_iret (pc := 67) d54_67 rfl (⟨by unfold toldV; rw [if_neg c5, if_neg hk0, if_neg hk1, if_neg hk2], rfl⟩)
    · refine x_tableOut (pc := 11) (tgt := 66) d54_11 (Or.inr zz) (by decide) ?_
      refine x_iconst (pc := 66) (v := (-1)) d54_66 (by decide) ?_
      exact y_iret (pc := 67) d54_67 rfl (⟨by unfold toldV; rw [if_neg c5, if_neg hk0, if_neg hk1, if_neg hk2], rfl⟩)
  · skip
    refine x_iconst (pc := 8) (v := (-1)) d54_8 (by decide) ?_
    exact y_iret (pc := 9) d54_9 rfl (⟨by unfold toldV; rw [if_pos c5], rfl⟩)
def startV (s : St) (x y : Int32) : Int32 := if inW x 6 = 0 ∨ inW y (s.1 132 0 0) = 0 ∨ ¬ rnV s x = 0 then -1 else 1
def startS (s : St) (x y : Int32) : St := if inW x 6 = 0 ∨ inW y (s.1 132 0 0) = 0 ∨ ¬ rnV s x = 0 then s else begS s x.toNatClampNeg y.toNatClampNeg
set_option maxRecDepth 100000 in
theorem c_start (s : St) (x y : Int32) (pc : Nat) (hpc : s.1 132 0 0 = nI pc) (hpc2 : pc ≤ 12) : Ri 3 56 [.ref 3, .int x, .int y] s (fun v s1 => v = startV s x y ∧ s1 = startS s x y) := by
  refine ct_of (by decide +kernel) (Nat.le_of_ble_eq_true rfl) ?_
  show Wp _ _ _ _ _ _ [(0, .ref 3), (1, .int x), (2, .int y)] _ _ _
  refine x_iload_n (pc := 0) d56_0 rfl ?_
  refine y_cS1i (pc := 1) d56_1 ml8_65 mv57 (c_isThread s _) (by decide) (Nat.le_of_ble_eq_true rfl) ⟨Nat.zero_le _, Nat.zero_le _⟩ (fun v s hq => ?_)
  obtain ⟨rfl, rfl⟩ := hq
  refine x_if_eq (pc := 4) (tgt := 23) d56_4 (by decide) (fun c4 => ?_) (fun c4 => ?_)
  · skip
    refine x_iconst (pc := 23) (v := (-1)) d56_23 (by decide) ?_
    exact y_iret (pc := 24) d56_24 rfl (⟨by unfold startV; rw [if_pos (Or.inl c4)], by unfold startS; rw [if_pos (Or.inl c4)]⟩)
  · skip
    refine x_aload_n (pc := 7) d56_7 rfl ?_
    refine x_iload_n (pc := 8) d56_8 rfl ?_
    refine y_cV1i (pc := 9) d56_9 ml8_52 mv55 shL3 (c_isProgram s _) (by decide) (Nat.le_of_ble_eq_true rfl) ⟨Nat.zero_le _, Nat.zero_le _⟩ (fun v s hq => ?_)
    obtain ⟨rfl, rfl⟩ := hq
    refine x_if_eq (pc := 12) (tgt := 23) d56_12 (by decide) (fun c12 => ?_) (fun c12 => ?_)
    · skip
      refine x_iconst (pc := 23) (v := (-1)) d56_23 (by decide) ?_
      exact y_iret (pc := 24) d56_24 rfl (⟨by unfold startV; rw [if_pos (Or.inr (Or.inl c12))], by unfold startS; rw [if_pos (Or.inr (Or.inl c12))]⟩)
    · skip
      refine x_aload_n (pc := 15) d56_15 rfl ?_
      refine x_iload_n (pc := 16) d56_16 rfl ?_
      refine y_cV1i (pc := 17) d56_17 ml8_68 mv58 shL3 (c_runs s _) (by decide) (Nat.le_of_ble_eq_true rfl) ⟨Nat.zero_le _, Nat.zero_le _⟩ (fun v s hq => ?_)
      obtain ⟨rfl, rfl⟩ := hq
      refine x_if_eq (pc := 20) (tgt := 25) d56_20 (by decide) (fun c20 => ?_) (fun c20 => ?_)
      · skip
        refine x_aload_n (pc := 25) d56_25 rfl ?_
        refine y_getr (pc := 26) d56_26 fk8_34 shL3 rfl ?_
        refine y_getr (pc := 29) d56_29 fk8_71 shL143 rfl ?_
        refine x_iload_n (pc := 32) d56_32 rfl ?_
        refine y_aaldFN (pc := 33) (q := x.toNatClampNeg) d56_33 ((inW_c (n := 6) (by decide) c4).2) ((inW_c (n := 6) (by decide) c4).1) ?_
        refine x_aload_n (pc := 34) d56_34 rfl ?_
        refine y_getr (pc := 35) d56_35 fk8_22 shL3 rfl ?_
        refine x_iload_n (pc := 38) d56_38 rfl ?_
        refine y_aaldPN (pc := 39) (q := y.toNatClampNeg) d56_39 ((inW_p hpc hpc2 c12).2) ((inW_p hpc hpc2 c12).1) ?_
        refine y_cV1v (pc := 40) d56_40 ml8_75 mv59 (shF x.toNatClampNeg ((Nat.lt_trans (inW_c (n := 6) (by decide) c4).2 (by decide)))) (c_begin x.toNatClampNeg (Nat.lt_trans (inW_c (n := 6) (by decide) c4).2 (by decide)) s y.toNatClampNeg (Nat.lt_trans (inW_p hpc hpc2 c12).2 (by decide))) (by decide) (Nat.le_of_ble_eq_true rfl) ⟨Nat.zero_le _, Nat.zero_le _⟩ (fun s hq => ?_)
        subst hq
        refine x_iconst (pc := 43) (v := (1)) d56_43 (by decide) ?_
        exact y_iret (pc := 44) d56_44 rfl (⟨by unfold startV; rw [if_neg (fun h => h.elim c4 (fun h => h.elim c12 (fun h => h c20)))], by unfold startS; rw [if_neg (fun h => h.elim c4 (fun h => h.elim c12 (fun h => h c20)))]⟩)
      · skip
        refine x_iconst (pc := 23) (v := (-1)) d56_23 (by decide) ?_
        exact y_iret (pc := 24) d56_24 rfl (⟨by unfold startV; rw [if_pos (Or.inr (Or.inr c20))], by unfold startS; rw [if_pos (Or.inr (Or.inr c20))]⟩)
theorem rn_c {s : St} {x : Int32} (h : ¬ rnV s x = 0) : (x = nI x.toNatClampNeg ∧ x.toNatClampNeg < 6) ∧ s.1 38 x.toNatClampNeg 0 = 1 := by
  unfold rnV at h
  by_cases h1 : inW x 6 = 0
  · rw [if_pos h1] at h; exact absurd rfl h
  rw [if_neg h1] at h
  by_cases h2 : s.1 38 x.toNatClampNeg 0 = 1
  · exact ⟨inW_c (n := 6) (by decide) h1, h2⟩
  · rw [if_neg h2] at h; exact absurd rfl h
/-- what a TURN of a THREAD that RUNS needs -/
def TW (s : St) (i : Nat) : Prop := NX (setS i 24 (tick s)).2 i ∧ ((stepR (tick s) i).1 = 5 → LW (stepR (tick s) i).2 i)
def turnM (s : St) (x : Int32) : Int32 × St := if rnV s x = 0 then (-1, s) else turnR s x.toNatClampNeg
set_option maxRecDepth 100000 in
theorem c_turnM (s : St) (x : Int32) (hG : GV s) (hT : ∀ i, i < 6 → s.1 38 i 0 = 1 → TW s i) : Ri 7 64 [.ref 3, .int x] s (fun v s1 => (v, s1) = turnM s x) := by
  refine ct_of (by decide +kernel) (Nat.le_of_ble_eq_true rfl) ?_
  show Wp _ _ _ _ _ _ [(0, .ref 3), (1, .int x)] _ _ _
  refine x_aload_n (pc := 0) d64_0 rfl ?_
  refine x_iload_n (pc := 1) d64_1 rfl ?_
  refine y_cV1i (pc := 2) d64_2 ml8_68 mv58 shL3 (c_runs s _) (by decide) (Nat.le_of_ble_eq_true rfl) ⟨Nat.zero_le _, Nat.zero_le _⟩ (fun v s hq => ?_)
  obtain ⟨rfl, rfl⟩ := hq
  refine x_if_ne (pc := 5) (tgt := 10) d64_5 (by decide) (fun c5 => ?_) (fun c5 => ?_)
  · skip
    refine x_aload_n (pc := 10) d64_10 rfl ?_
    refine y_getr (pc := 11) d64_11 fk8_34 shL3 rfl ?_
    refine x_aload_n (pc := 14) d64_14 rfl ?_
    refine y_getr (pc := 15) d64_15 fk8_34 shL3 rfl ?_
    refine y_getr (pc := 18) d64_18 fk8_71 shL143 rfl ?_
    refine x_iload_n (pc := 21) d64_21 rfl ?_
    refine y_aaldFN (pc := 22) (q := x.toNatClampNeg) d64_22 ((rn_c c5).1.2) ((rn_c c5).1.1) ?_
    refine y_cV1i (pc := 23) d64_23 ml8_81 mv65 shL143 (c_turn x.toNatClampNeg (Nat.lt_trans (rn_c c5).1.2 (by decide)) s hG (hT _ (rn_c c5).1.2 (rn_c c5).2).1 (hT _ (rn_c c5).1.2 (rn_c c5).2).2) (by decide) (Nat.le_of_ble_eq_true rfl) ⟨Nat.zero_le _, Nat.zero_le _⟩ (fun v s hq => ?_)
    exact y_iret (pc := 26) d64_26 rfl (by unfold turnM; rw [if_neg c5]; exact hq)
  · skip
    refine x_iconst (pc := 8) (v := (-1)) d64_8 (by decide) ?_
    exact y_iret (pc := 9) d64_9 rfl (by unfold turnM; rw [if_pos c5])
def hurlV (s : St) (x : Int32) (v : Int64) : Int32 := if rnV s x = 0 then -1 else if nI (cn81 s x.toNatClampNeg 6 (cN s x.toNatClampNeg) 0) < 8 then (appS s x.toNatClampNeg 6 0 v).1 80 x.toNatClampNeg 0 else -1
def hurlS (s : St) (x : Int32) (v : Int64) : St := if rnV s x = 0 then s else if nI (cn81 s x.toNatClampNeg 6 (cN s x.toNatClampNeg) 0) < 8 then appS s x.toNatClampNeg 6 0 v else s
theorem GV.c0 {s : St} (h : GV s) (i : Nat) : ¬ s.1 80 i 0 < 0 := by rw [(h.C i).1]; exact nI_pos (by have := (h.C i).2; omega)
set_option maxRecDepth 100000 in
theorem c_hurl (s : St) (x : Int32) (y : Int64) (hG : GV s) : Ri 2 97 [.ref 3, .int x, .long y] s (fun v s1 => v = hurlV s x y ∧ s1 = hurlS s x y) := by
  refine ct_of (by decide +kernel) (Nat.le_of_ble_eq_true rfl) ?_
  show Wp _ _ _ _ _ _ [(0, .ref 3), (1, .int x), (2, .long y)] _ _ _
  refine x_aload_n (pc := 0) d97_0 rfl ?_
  refine x_iload_n (pc := 1) d97_1 rfl ?_
  refine y_cV1i (pc := 2) d97_2 ml8_68 mv58 shL3 (c_runs s _) (by decide) (Nat.le_of_ble_eq_true rfl) ⟨Nat.zero_le _, Nat.zero_le _⟩ (fun v s hq => ?_)
  obtain ⟨rfl, rfl⟩ := hq
  refine x_if_ne (pc := 5) (tgt := 10) d97_5 (by decide) (fun c5 => ?_) (fun c5 => ?_)
  · skip
    refine x_aload_n (pc := 10) d97_10 rfl ?_
    refine y_getr (pc := 11) d97_11 fk8_34 shL3 rfl ?_
    refine y_getr (pc := 14) d97_14 fk8_71 shL143 rfl ?_
    refine x_iload_n (pc := 17) d97_17 rfl ?_
    refine y_aaldFN (pc := 18) (q := x.toNatClampNeg) d97_18 ((rn_c c5).1.2) ((rn_c c5).1.1) ?_
    refine y_getr (pc := 19) d97_19 fk8_89 (shF x.toNatClampNeg ((Nat.lt_trans (rn_c c5).1.2 (by decide)))) rfl ?_
    refine x_astore (pc := 22) d97_22 (by decide) ?_
    refine x_aload (pc := 24) d97_24 rfl ?_
    refine x_bipush (pc := 26) (v := (6)) d97_26 (by decide) ?_
    refine y_cV1i (pc := 28) d97_28 ml8_93 mv98 (shR x.toNatClampNeg ((Nat.lt_trans (rn_c c5).1.2 (by decide)))) (c_countFrom x.toNatClampNeg (Nat.lt_trans (rn_c c5).1.2 (by decide)) s _ _ (hG.C _).2 (hG.C _).1) (by decide) (Nat.le_of_ble_eq_true rfl) ⟨Nat.zero_le _, Nat.zero_le _⟩ (fun v s hq => ?_)
    obtain ⟨rfl, rfl⟩ := hq
    refine x_bipush (pc := 31) (v := (8)) d97_31 (by decide) ?_
    refine x_icmp_lt (pc := 33) (tgt := 38) d97_33 (by decide) (fun c33 => ?_) (fun c33 => ?_)
    · skip
      refine x_aload (pc := 38) d97_38 rfl ?_
      refine x_bipush (pc := 40) (v := (6)) d97_40 (by decide) ?_
      refine x_iconst (pc := 42) (v := (0)) d97_42 (by decide) ?_
      refine x_lload_n (pc := 43) d97_43 rfl ?_
      refine y_cV3v (pc := 44) d97_44 ml8_99 mv67 (shR x.toNatClampNeg ((Nat.lt_trans (rn_c c5).1.2 (by decide)))) (c_append x.toNatClampNeg (Nat.lt_trans (rn_c c5).1.2 (by decide)) s _ _ _ (hG.c0 _)) (by decide) (Nat.le_of_ble_eq_true rfl) ⟨Nat.zero_le _, Nat.zero_le _⟩ (fun s hq => ?_)
      subst hq
      refine x_aload (pc := 47) d97_47 rfl ?_
      refine y_geti (pc := 49) d97_49 fk8_103 (shR x.toNatClampNeg ((Nat.lt_trans (rn_c c5).1.2 (by decide)))) rfl ?_
      exact y_iret (pc := 52) d97_52 rfl (⟨by unfold hurlV; rw [if_neg c5, if_pos c33], by unfold hurlS; rw [if_neg c5, if_pos c33]⟩)
    · skip
      refine x_iconst (pc := 36) (v := (-1)) d97_36 (by decide) ?_
      exact y_iret (pc := 37) d97_37 rfl (⟨by unfold hurlV; rw [if_neg c5, if_neg c33], by unfold hurlS; rw [if_neg c5, if_neg c33]⟩)
  · skip
    refine x_iconst (pc := 8) (v := (-1)) d97_8 (by decide) ?_
    exact y_iret (pc := 9) d97_9 rfl (⟨by unfold hurlV; rw [if_pos c5], by unfold hurlS; rw [if_pos c5]⟩)
def fillV (s : St) (x : Int32) : Int32 := if inW x 8 = 0 ∨ ¬ s.1 114 0 x.toNatClampNeg = 0 then -1 else 1
def fillS (s : St) (x : Int32) (v : Int64) : St := if inW x 8 = 0 ∨ ¬ s.1 114 0 x.toNatClampNeg = 0 then s else sl (si s 114 0 x.toNatClampNeg 1) 115 0 x.toNatClampNeg v
def fullV (s : St) (x : Int32) : Int32 := if inW x 8 = 0 then -1 else if s.1 114 0 x.toNatClampNeg = 0 then 0 else 1
def boxV (s : St) (x : Int32) : Int64 := if inW x 8 = 0 ∨ s.1 114 0 x.toNatClampNeg = 0 then 0 else s.2 115 0 x.toNatClampNeg
set_option maxRecDepth 100000 in
theorem c_fill (s : St) (x : Int32) (y : Int64) : Ri 1 99 [.ref 3, .int x, .long y] s (fun v s1 => v = fillV s x ∧ s1 = fillS s x y) := by
  refine ct_of (by decide +kernel) (Nat.le_of_ble_eq_true rfl) ?_
  show Wp _ _ _ _ _ _ [(0, .ref 3), (1, .int x), (2, .long y)] _ _ _
  refine x_iload_n (pc := 0) d99_0 rfl ?_
  refine y_cS1i (pc := 1) d99_1 ml8_106 mv100 (c_isBox s _) (by decide) (Nat.le_of_ble_eq_true rfl) ⟨Nat.zero_le _, Nat.zero_le _⟩ (fun v s hq => ?_)
  obtain ⟨rfl, rfl⟩ := hq
  refine x_if_eq (pc := 4) (tgt := 19) d99_4 (by decide) (fun c4 => ?_) (fun c4 => ?_)
  · skip
    refine x_iconst (pc := 19) (v := (-1)) d99_19 (by decide) ?_
    exact y_iret (pc := 20) d99_20 rfl (⟨by unfold fillV; rw [if_pos (Or.inl c4)], by unfold fillS; rw [if_pos (Or.inl c4)]⟩)
  · skip
    refine x_aload_n (pc := 7) d99_7 rfl ?_
    refine y_getr (pc := 8) d99_8 fk8_34 shL3 rfl ?_
    refine y_getr (pc := 11) d99_11 fk8_109 shL143 rfl ?_
    refine x_iload_n (pc := 14) d99_14 rfl ?_
    refine y_zaldN (pc := 15) (q := x.toNatClampNeg) d99_15 shL144 ((inW_c (n := 8) (by decide) c4).2) (by decide) ((inW_c (n := 8) (by decide) c4).1) ?_
    refine x_if_eq (pc := 16) (tgt := 21) d99_16 (by decide) (fun c16 => ?_) (fun c16 => ?_)
    · skip
      refine x_aload_n (pc := 21) d99_21 rfl ?_
      refine y_getr (pc := 22) d99_22 fk8_34 shL3 rfl ?_
      refine y_getr (pc := 25) d99_25 fk8_109 shL143 rfl ?_
      refine x_iload_n (pc := 28) d99_28 rfl ?_
      refine x_iconst (pc := 29) (v := (1)) d99_29 (by decide) ?_
      refine y_zastN (pc := 30) (q := x.toNatClampNeg) d99_30 shL144 ((inW_c (n := 8) (by decide) c4).2) (by decide) ((inW_c (n := 8) (by decide) c4).1) ?_
      rw [nz1]
      refine x_aload_n (pc := 31) d99_31 rfl ?_
      refine y_getr (pc := 32) d99_32 fk8_34 shL3 rfl ?_
      refine y_getr (pc := 35) d99_35 fk8_113 shL143 rfl ?_
      refine x_iload_n (pc := 38) d99_38 rfl ?_
      refine x_lload_n (pc := 39) d99_39 rfl ?_
      refine y_lastN (pc := 40) (q := x.toNatClampNeg) d99_40 shL145 ((inW_c (n := 8) (by decide) c4).2) (by decide) ((inW_c (n := 8) (by decide) c4).1) ?_
      refine x_iconst (pc := 41) (v := (1)) d99_41 (by decide) ?_
      exact y_iret (pc := 42) d99_42 rfl (⟨by unfold fillV; rw [if_neg (fun h => h.elim c4 (fun h => h c16))], by unfold fillS; rw [if_neg (fun h => h.elim c4 (fun h => h c16))]⟩)
    · skip
      refine x_iconst (pc := 19) (v := (-1)) d99_19 (by decide) ?_
      exact y_iret (pc := 20) d99_20 rfl (⟨by unfold fillV; rw [if_pos (Or.inr c16)], by unfold fillS; rw [if_pos (Or.inr c16)]⟩)
set_option maxRecDepth 100000 in
theorem c_full (s : St) (x : Int32) : Ri 1 101 [.ref 3, .int x] s (fun v s1 => v = fullV s x ∧ s1 = s) := by
  refine ct_of (by decide +kernel) (Nat.le_of_ble_eq_true rfl) ?_
  show Wp _ _ _ _ _ _ [(0, .ref 3), (1, .int x)] _ _ _
  refine x_iload_n (pc := 0) d101_0 rfl ?_
  refine y_cS1i (pc := 1) d101_1 ml8_106 mv100 (c_isBox s _) (by decide) (Nat.le_of_ble_eq_true rfl) ⟨Nat.zero_le _, Nat.zero_le _⟩ (fun v s hq => ?_)
  obtain ⟨rfl, rfl⟩ := hq
  refine x_if_ne (pc := 4) (tgt := 9) d101_4 (by decide) (fun c4 => ?_) (fun c4 => ?_)
  · skip
    refine x_aload_n (pc := 9) d101_9 rfl ?_
    refine y_getr (pc := 10) d101_10 fk8_34 shL3 rfl ?_
    refine y_getr (pc := 13) d101_13 fk8_109 shL143 rfl ?_
    refine x_iload_n (pc := 16) d101_16 rfl ?_
    refine y_zaldN (pc := 17) (q := x.toNatClampNeg) d101_17 shL144 ((inW_c (n := 8) (by decide) c4).2) (by decide) ((inW_c (n := 8) (by decide) c4).1) ?_
    refine x_if_eq (pc := 18) (tgt := 25) d101_18 (by decide) (fun c18 => ?_) (fun c18 => ?_)
    · skip
      refine x_iconst (pc := 25) (v := (0)) d101_25 (by decide) ?_
      exact y_iret (pc := 26) d101_26 rfl (⟨by unfold fullV; rw [if_neg c4, if_pos c18], rfl⟩)
    · skip
      refine x_iconst (pc := 21) (v := (1)) d101_21 (by decide) ?_
      refine x_goto (pc := 22) (tgt := 26) d101_22 (by decide) ?_
      exact y_iret (pc := 26) d101_26 rfl (⟨by unfold fullV; rw [if_neg c4, if_neg c18], rfl⟩)
  · skip
    refine x_iconst (pc := 7) (v := (-1)) d101_7 (by decide) ?_
    exact y_iret (pc := 8) d101_8 rfl (⟨by unfold fullV; rw [if_pos c4], rfl⟩)
set_option maxRecDepth 100000 in
theorem c_box (s : St) (x : Int32) : Rj 1 102 [.ref 3, .int x] s (fun v s1 => v = boxV s x ∧ s1 = s) := by
  refine ct_of (by decide +kernel) (Nat.le_of_ble_eq_true rfl) ?_
  show Wp _ _ _ _ _ _ [(0, .ref 3), (1, .int x)] _ _ _
  refine x_iload_n (pc := 0) d102_0 rfl ?_
  refine y_cS1i (pc := 1) d102_1 ml8_106 mv100 (c_isBox s _) (by decide) (Nat.le_of_ble_eq_true rfl) ⟨Nat.zero_le _, Nat.zero_le _⟩ (fun v s hq => ?_)
  obtain ⟨rfl, rfl⟩ := hq
  refine x_if_eq (pc := 4) (tgt := 19) d102_4 (by decide) (fun c4 => ?_) (fun c4 => ?_)
  · skip
    refine x_lconst (pc := 19) (v := (0)) d102_19 (by decide) ?_
    exact y_lret (pc := 20) d102_20 rfl (⟨by unfold boxV; rw [if_pos (Or.inl c4)], rfl⟩)
  · skip
    refine x_aload_n (pc := 7) d102_7 rfl ?_
    refine y_getr (pc := 8) d102_8 fk8_34 shL3 rfl ?_
    refine y_getr (pc := 11) d102_11 fk8_109 shL143 rfl ?_
    refine x_iload_n (pc := 14) d102_14 rfl ?_
    refine y_zaldN (pc := 15) (q := x.toNatClampNeg) d102_15 shL144 ((inW_c (n := 8) (by decide) c4).2) (by decide) ((inW_c (n := 8) (by decide) c4).1) ?_
    refine x_if_ne (pc := 16) (tgt := 21) d102_16 (by decide) (fun c16 => ?_) (fun c16 => ?_)
    · skip
      refine x_aload_n (pc := 21) d102_21 rfl ?_
      refine y_getr (pc := 22) d102_22 fk8_34 shL3 rfl ?_
      refine y_getr (pc := 25) d102_25 fk8_113 shL143 rfl ?_
      refine x_iload_n (pc := 28) d102_28 rfl ?_
      refine y_laldN (pc := 29) (q := x.toNatClampNeg) d102_29 shL145 ((inW_c (n := 8) (by decide) c4).2) (by decide) ((inW_c (n := 8) (by decide) c4).1) ?_
      exact y_lret (pc := 30) d102_30 rfl (⟨by unfold boxV; rw [if_neg (fun h => h.elim c4 c16)], rfl⟩)
    · skip
      refine x_lconst (pc := 19) (v := (0)) d102_19 (by decide) ?_
      exact y_lret (pc := 20) d102_20 rfl (⟨by unfold boxV; rw [if_pos (Or.inr c16)], rfl⟩)
theorem lt_ok {y : Int32} {n : Nat} (hn : n < 2 ^ 31) (h0 : ¬ y < 0) (h : y < nI n) : okN n y := by
  obtain ⟨q, hq, e, -⟩ := pk_mu h0 (Int32.not_le.mpr h) hn
  exact ⟨q, hq, e⟩
def thrV (s : St) (x y : Int32) : Int32 := if inW x 6 = 0 then -1 else if y = 0 then s.1 38 x.toNatClampNeg 0 else if y = 1 then s.1 39 x.toNatClampNeg 0 else if y = 2 then s.1 40 x.toNatClampNeg 0 else if y = 3 then s.1 80 x.toNatClampNeg 0 else if y = 4 then s.1 41 x.toNatClampNeg 0 else if y = 5 then s.1 42 x.toNatClampNeg 0 else if y = 6 then (if hvS s x.toNatClampNeg (dN s x.toNatClampNeg) 1 = 0 then 0 else 1) else -1
def dieV (s : St) (x : Int32) : Int64 := if inW x 6 = 0 then 0 else s.2 43 x.toNatClampNeg 0
def locV (s : St) (x y : Int32) : Int64 := if inW x 6 = 0 then 0 else if y < 0 then 0 else if y < 10 then s.2 34 x.toNatClampNeg y.toNatClampNeg else 0
def rowV (s : St) (x y z : Int32) : Int32 := if irV s x y = 0 then -1 else if z = 0 then s.1 81 x.toNatClampNeg y.toNatClampNeg else if z = 1 then s.1 82 x.toNatClampNeg y.toNatClampNeg else -1
def valV (s : St) (x y : Int32) : Int64 := if irV s x y = 0 then 0 else s.2 83 x.toNatClampNeg y.toNatClampNeg
def ntV (s : St) (x y : Int32) : Int32 := if inW x (s.1 17 0 0) = 0 then -1 else if y = 0 then s.1 18 0 x.toNatClampNeg else if y = 1 then s.1 19 0 x.toNatClampNeg else if y = 2 then s.1 20 0 x.toNatClampNeg else -1
def ndV (s : St) (x : Int32) : Int64 := if inW x (s.1 17 0 0) = 0 then 0 else s.2 21 0 x.toNatClampNeg
theorem ir_c {s : St} {x y : Int32} (hG : GV s) (h : ¬ irV s x y = 0) : (x = nI x.toNatClampNeg ∧ x.toNatClampNeg < 6) ∧ (y = nI y.toNatClampNeg ∧ y.toNatClampNeg < 22) := by
  unfold irV at h
  by_cases h1 : inW x 6 = 0
  · rw [if_pos h1] at h; exact absurd rfl h
  rw [if_neg h1, (hG.C _).1] at h
  have h2 := inW_c (by have := (hG.C x.toNatClampNeg).2; omega) h
  exact ⟨inW_c (n := 6) (by decide) h1, h2.1, by have := (hG.C x.toNatClampNeg).2; omega⟩
theorem nt_c {s : St} {x : Int32} (hG : GV s) (h : ¬ inW x (s.1 17 0 0) = 0) : x = nI x.toNatClampNeg ∧ x.toNatClampNeg < 400 := by
  obtain ⟨q, hq, e⟩ := (hG 17 0 0 : okN 401 _)
  rw [e] at h
  have := inW_c (by omega) h
  exact ⟨this.1, by omega⟩
set_option maxRecDepth 100000 in
theorem c_thread (s : St) (x y : Int32) (hG : GV s) : Ri 1 103 [.ref 3, .int x, .int y] s (fun v s1 => v = thrV s x y ∧ s1 = s) := by
  refine ct_of (by decide +kernel) (Nat.le_of_ble_eq_true rfl) ?_
  show Wp _ _ _ _ _ _ [(0, .ref 3), (1, .int x), (2, .int y)] _ _ _
  refine x_iload_n (pc := 0) d103_0 rfl ?_
  refine y_cS1i (pc := 1) d103_1 ml8_65 mv57 (c_isThread s _) (by decide) (Nat.le_of_ble_eq_true rfl) ⟨Nat.zero_le _, Nat.zero_le _⟩ (fun v s hq => ?_)
  obtain ⟨rfl, rfl⟩ := hq
  refine x_if_ne (pc := 4) (tgt := 9) d103_4 (by decide) (fun c4 => ?_) (fun c4 => ?_)
  · skip
    refine x_aload_n (pc := 9) d103_9 rfl ?_
    refine y_getr (pc := 10) d103_10 fk8_34 shL3 rfl ?_
    refine y_getr (pc := 13) d103_13 fk8_71 shL143 rfl ?_
    refine x_iload_n (pc := 16) d103_16 rfl ?_
    refine y_aaldFN (pc := 17) (q := x.toNatClampNeg) d103_17 ((inW_c (n := 6) (by decide) c4).2) ((inW_c (n := 6) (by decide) c4).1) ?_
    refine x_astore_n (pc := 18) d103_18 (by decide) ?_
    refine x_iload_n (pc := 19) d103_19 rfl ?_
    by_cases hk0 : y = 0
    · refine x_tableIn (pc := 20) (tgt := 64) (off := 44) d103_20 (by rw [hk0]; decide) (by rw [hk0]; decide) (by rw [hk0]; decide) (by decide) ?_
      refine x_aload_n (pc := 64) d103_64 rfl ?_
      refine y_geti (pc := 65) d103_65 fk8_117 (shF x.toNatClampNeg ((Nat.lt_trans (inW_c (n := 6) (by decide) c4).2 (by decide)))) rfl ?_
      exact y_iret (pc := 68) d103_68 rfl (⟨by unfold thrV; rw [if_neg c4, if_pos hk0], rfl⟩)
    by_cases hk1 : y = 1
    · refine x_tableIn (pc := 20) (tgt := 69) (off := 49) d103_20 (by rw [hk1]; decide) (by rw [hk1]; decide) (by rw [hk1]; decide) (by decide) ?_
      refine x_aload_n (pc := 69) d103_69 rfl ?_
      refine y_geti (pc := 70) d103_70 fk8_120 (shF x.toNatClampNeg ((Nat.lt_trans (inW_c (n := 6) (by decide) c4).2 (by decide)))) rfl ?_
      exact y_iret (pc := 73) d103_73 rfl (⟨by unfold thrV; rw [if_neg c4, if_neg hk0, if_pos hk1], rfl⟩)
    by_cases hk2 : y = 2
    · refine x_tableIn (pc := 20) (tgt := 74) (off := 54) d103_20 (by rw [hk2]; decide) (by rw [hk2]; decide) (by rw [hk2]; decide) (by decide) ?_
      refine x_aload_n (pc := 74) d103_74 rfl ?_
      refine y_geti (pc := 75) d103_75 fk8_123 (shF x.toNatClampNeg ((Nat.lt_trans (inW_c (n := 6) (by decide) c4).2 (by decide)))) rfl ?_
      exact y_iret (pc := 78) d103_78 rfl (⟨by unfold thrV; rw [if_neg c4, if_neg hk0, if_neg hk1, if_pos hk2], rfl⟩)
    by_cases hk3 : y = 3
    · refine x_tableIn (pc := 20) (tgt := 79) (off := 59) d103_20 (by rw [hk3]; decide) (by rw [hk3]; decide) (by rw [hk3]; decide) (by decide) ?_
      refine x_aload_n (pc := 79) d103_79 rfl ?_
      refine y_getr (pc := 80) d103_80 fk8_89 (shF x.toNatClampNeg ((Nat.lt_trans (inW_c (n := 6) (by decide) c4).2 (by decide)))) rfl ?_
      refine y_geti (pc := 83) d103_83 fk8_103 (shR x.toNatClampNeg ((Nat.lt_trans (inW_c (n := 6) (by decide) c4).2 (by decide)))) rfl ?_
      exact y_iret (pc := 86) d103_86 rfl (⟨by unfold thrV; rw [if_neg c4, if_neg hk0, if_neg hk1, if_neg hk2, if_pos hk3], rfl⟩)
    by_cases hk4 : y = 4
    · refine x_tableIn (pc := 20) (tgt := 87) (off := 67) d103_20 (by rw [hk4]; decide) (by rw [hk4]; decide) (by rw [hk4]; decide) (by decide) ?_
      refine x_aload_n (pc := 87) d103_87 rfl ?_
      refine y_geti (pc := 88) d103_88 fk8_126 (shF x.toNatClampNeg ((Nat.lt_trans (inW_c (n := 6) (by decide) c4).2 (by decide)))) rfl ?_
      exact y_iret (pc := 91) d103_91 rfl (⟨by unfold thrV; rw [if_neg c4, if_neg hk0, if_neg hk1, if_neg hk2, if_neg hk3, if_pos hk4], rfl⟩)
    by_cases hk5 : y = 5
    · refine x_tableIn (pc := 20) (tgt := 92) (off := 72) d103_20 (by rw [hk5]; decide) (by rw [hk5]; decide) (by rw [hk5]; decide) (by decide) ?_
      refine x_aload_n (pc := 92) d103_92 rfl ?_
      refine y_geti (pc := 93) d103_93 fk8_129 (shF x.toNatClampNeg ((Nat.lt_trans (inW_c (n := 6) (by decide) c4).2 (by decide)))) rfl ?_
      exact y_iret (pc := 96) d103_96 rfl (⟨by unfold thrV; rw [if_neg c4, if_neg hk0, if_neg hk1, if_neg hk2, if_neg hk3, if_neg hk4, if_pos hk5], rfl⟩)
    by_cases hk6 : y = 6
    · refine x_tableIn (pc := 20) (tgt := 97) (off := 77) d103_20 (by rw [hk6]; decide) (by rw [hk6]; decide) (by rw [hk6]; decide) (by decide) ?_
      refine x_aload_n (pc := 97) d103_97 rfl ?_
      refine y_cV0i (pc := 98) d103_98 ml8_132 mv104 (shF x.toNatClampNeg ((Nat.lt_trans (inW_c (n := 6) (by decide) c4).2 (by decide)))) (c_holds x.toNatClampNeg (Nat.lt_trans (inW_c (n := 6) (by decide) c4).2 (by decide)) s hG) (by decide) (Nat.le_of_ble_eq_true rfl) ⟨Nat.zero_le _, Nat.zero_le _⟩ (fun v s hq => ?_)
      obtain ⟨rfl, rfl⟩ := hq
      refine x_if_eq (pc := 101) (tgt := 108) d103_101 (by decide) (fun c101 => ?_) (fun c101 => ?_)
      · skip
        refine x_iconst (pc := 108) (v := (0)) d103_108 (by decide) ?_
        exact y_iret (pc := 109) d103_109 rfl (⟨by unfold thrV; rw [if_neg c4, if_neg hk0, if_neg hk1, if_neg hk2, if_neg hk3, if_neg hk4, if_neg hk5, if_pos hk6, if_pos c101], rfl⟩)
      · skip
        refine x_iconst (pc := 104) (v := (1)) d103_104 (by decide) ?_
        refine x_goto (pc := 105) (tgt := 109) d103_105 (by decide) ?_
        exact y_iret (pc := 109) d103_109 rfl (⟨by unfold thrV; rw [if_neg c4, if_neg hk0, if_neg hk1, if_neg hk2, if_neg hk3, if_neg hk4, if_neg hk5, if_pos hk6, if_neg c101], rfl⟩)
    have z0 : ¬ (y).toInt = 0 := lv_neT hk0 (by decide)
    have z1 : ¬ (y).toInt = 1 := lv_neT hk1 (by decide)
    have z2 : ¬ (y).toInt = 2 := lv_neT hk2 (by decide)
    have z3 : ¬ (y).toInt = 3 := lv_neT hk3 (by decide)
    have z4 : ¬ (y).toInt = 4 := lv_neT hk4 (by decide)
    have z5 : ¬ (y).toInt = 5 := lv_neT hk5 (by decide)
    have z6 : ¬ (y).toInt = 6 := lv_neT hk6 (by decide)
    rcases (by omega : (y).toInt < 0 ∨ 6 < (y).toInt) with zz | zz
    · refine x_tableOut (pc := 20) (tgt := 110) d103_20 (Or.inl zz) (by decide) ?_
      refine x_iconst (pc := 110) (v := (-1)) d103_110 (by decide) ?_
      exact y_iret (pc := 111) d103_111 rfl (⟨by unfold thrV; rw [if_neg c4, if_neg hk0, if_neg hk1, if_neg hk2, if_neg hk3, if_neg hk4, if_neg hk5, if_neg hk6], rfl⟩)
    · refine x_tableOut (pc := 20) (tgt := 110) d103_20 (Or.inr zz) (by decide) ?_
      refine x_iconst (pc := 110) (v := (-1)) d103_110 (by decide) ?_
      exact y_iret (pc := 111) d103_111 rfl (⟨by unfold thrV; rw [if_neg c4, if_neg hk0, if_neg hk1, if_neg hk2, if_neg hk3, if_neg hk4, if_neg hk5, if_neg hk6], rfl⟩)
  · skip
    refine x_iconst (pc := 7) (v := (-1)) d103_7 (by decide) ?_
    exact y_iret (pc := 8) d103_8 rfl (⟨by unfold thrV; rw [if_pos c4], rfl⟩)
set_option maxRecDepth 100000 in
theorem c_died (s : St) (x : Int32) : Rj 1 105 [.ref 3, .int x] s (fun v s1 => v = dieV s x ∧ s1 = s) := by
  refine ct_of (by decide +kernel) (Nat.le_of_ble_eq_true rfl) ?_
  show Wp _ _ _ _ _ _ [(0, .ref 3), (1, .int x)] _ _ _
  refine x_iload_n (pc := 0) d105_0 rfl ?_
  refine y_cS1i (pc := 1) d105_1 ml8_65 mv57 (c_isThread s _) (by decide) (Nat.le_of_ble_eq_true rfl) ⟨Nat.zero_le _, Nat.zero_le _⟩ (fun v s hq => ?_)
  obtain ⟨rfl, rfl⟩ := hq
  refine x_if_eq (pc := 4) (tgt := 22) d105_4 (by decide) (fun c4 => ?_) (fun c4 => ?_)
  · skip
    refine x_lconst (pc := 22) (v := (0)) d105_22 (by decide) ?_
    exact y_lret (pc := 23) d105_23 rfl (⟨by unfold dieV; rw [if_pos c4], rfl⟩)
  · skip
    refine x_aload_n (pc := 7) d105_7 rfl ?_
    refine y_getr (pc := 8) d105_8 fk8_34 shL3 rfl ?_
    refine y_getr (pc := 11) d105_11 fk8_71 shL143 rfl ?_
    refine x_iload_n (pc := 14) d105_14 rfl ?_
    refine y_aaldFN (pc := 15) (q := x.toNatClampNeg) d105_15 ((inW_c (n := 6) (by decide) c4).2) ((inW_c (n := 6) (by decide) c4).1) ?_
    refine y_getl (pc := 16) d105_16 fk8_136 (shF x.toNatClampNeg ((Nat.lt_trans (inW_c (n := 6) (by decide) c4).2 (by decide)))) rfl ?_
    refine x_goto (pc := 19) (tgt := 23) d105_19 (by decide) ?_
    exact y_lret (pc := 23) d105_23 rfl (⟨by unfold dieV; rw [if_neg c4], rfl⟩)
set_option maxRecDepth 100000 in
theorem c_local (s : St) (x y : Int32) : Rj 1 106 [.ref 3, .int x, .int y] s (fun v s1 => v = locV s x y ∧ s1 = s) := by
  refine ct_of (by decide +kernel) (Nat.le_of_ble_eq_true rfl) ?_
  show Wp _ _ _ _ _ _ [(0, .ref 3), (1, .int x), (2, .int y)] _ _ _
  refine x_iload_n (pc := 0) d106_0 rfl ?_
  refine y_cS1i (pc := 1) d106_1 ml8_65 mv57 (c_isThread s _) (by decide) (Nat.le_of_ble_eq_true rfl) ⟨Nat.zero_le _, Nat.zero_le _⟩ (fun v s hq => ?_)
  obtain ⟨rfl, rfl⟩ := hq
  refine x_if_eq (pc := 4) (tgt := 17) d106_4 (by decide) (fun c4 => ?_) (fun c4 => ?_)
  · skip
    refine x_lconst (pc := 17) (v := (0)) d106_17 (by decide) ?_
    exact y_lret (pc := 18) d106_18 rfl (⟨by unfold locV; rw [if_pos c4], rfl⟩)
  · skip
    refine x_iload_n (pc := 7) d106_7 rfl ?_
    refine x_if_lt (pc := 8) (tgt := 17) d106_8 (by decide) (fun c8 => ?_) (fun c8 => ?_)
    · skip
      refine x_lconst (pc := 17) (v := (0)) d106_17 (by decide) ?_
      exact y_lret (pc := 18) d106_18 rfl (⟨by unfold locV; rw [if_neg c4, if_pos c8], rfl⟩)
    · skip
      refine x_iload_n (pc := 11) d106_11 rfl ?_
      refine x_bipush (pc := 12) (v := (10)) d106_12 (by decide) ?_
      refine x_icmp_lt (pc := 14) (tgt := 19) d106_14 (by decide) (fun c14 => ?_) (fun c14 => ?_)
      · skip
        refine x_aload_n (pc := 19) d106_19 rfl ?_
        refine y_getr (pc := 20) d106_20 fk8_34 shL3 rfl ?_
        refine y_getr (pc := 23) d106_23 fk8_71 shL143 rfl ?_
        refine x_iload_n (pc := 26) d106_26 rfl ?_
        refine y_aaldFN (pc := 27) (q := x.toNatClampNeg) d106_27 ((inW_c (n := 6) (by decide) c4).2) ((inW_c (n := 6) (by decide) c4).1) ?_
        refine y_getr (pc := 28) d106_28 fk8_140 (shF x.toNatClampNeg ((Nat.lt_trans (inW_c (n := 6) (by decide) c4).2 (by decide)))) rfl ?_
        refine x_iload_n (pc := 31) d106_31 rfl ?_
        refine y_laldN (pc := 32) (q := y.toNatClampNeg) d106_32 (shR4 x.toNatClampNeg ((Nat.lt_trans (inW_c (n := 6) (by decide) c4).2 (by decide)))) ((okN_c (by decide) (lt_ok (n := 10) (by decide) c8 c14)).2) (by decide) ((okN_c (by decide) (lt_ok (n := 10) (by decide) c8 c14)).1) ?_
        exact y_lret (pc := 33) d106_33 rfl (⟨by unfold locV; rw [if_neg c4, if_neg c8, if_pos c14], rfl⟩)
      · skip
        refine x_lconst (pc := 17) (v := (0)) d106_17 (by decide) ?_
        exact y_lret (pc := 18) d106_18 rfl (⟨by unfold locV; rw [if_neg c4, if_neg c8, if_neg c14], rfl⟩)
set_option maxRecDepth 100000 in
theorem c_row (s : St) (x y z : Int32) (hG : GV s) : Ri 2 107 [.ref 3, .int x, .int y, .int z] s (fun v s1 => v = rowV s x y z ∧ s1 = s) := by
  refine ct_of (by decide +kernel) (Nat.le_of_ble_eq_true rfl) ?_
  show Wp _ _ _ _ _ _ [(0, .ref 3), (1, .int x), (2, .int y), (3, .int z)] _ _ _
  refine x_aload_n (pc := 0) d107_0 rfl ?_
  refine x_iload_n (pc := 1) d107_1 rfl ?_
  refine x_iload_n (pc := 2) d107_2 rfl ?_
  refine y_cV2i (pc := 3) d107_3 ml8_143 mv108 shL3 (c_isInRow s _ _) (by decide) (Nat.le_of_ble_eq_true rfl) ⟨Nat.zero_le _, Nat.zero_le _⟩ (fun v s hq => ?_)
  obtain ⟨rfl, rfl⟩ := hq
  refine x_if_ne (pc := 6) (tgt := 11) d107_6 (by decide) (fun c6 => ?_) (fun c6 => ?_)
  · skip
    refine x_aload_n (pc := 11) d107_11 rfl ?_
    refine y_getr (pc := 12) d107_12 fk8_34 shL3 rfl ?_
    refine y_getr (pc := 15) d107_15 fk8_71 shL143 rfl ?_
    refine x_iload_n (pc := 18) d107_18 rfl ?_
    refine y_aaldFN (pc := 19) (q := x.toNatClampNeg) d107_19 ((ir_c hG c6).1.2) ((ir_c hG c6).1.1) ?_
    refine y_getr (pc := 20) d107_20 fk8_89 (shF x.toNatClampNeg ((Nat.lt_trans (ir_c hG c6).1.2 (by decide)))) rfl ?_
    refine x_astore (pc := 23) d107_23 (by decide) ?_
    refine x_iload_n (pc := 25) d107_25 rfl ?_
    by_cases hk0 : z = 0
    · refine x_lookup (pc := 26) (tgt := 52) (off := 26) d107_26 (by decide) (by rw [hk0]; decide) (by decide) ?_
      refine x_aload (pc := 52) d107_52 rfl ?_
      refine y_getr (pc := 54) d107_54 fk8_147 (shR x.toNatClampNeg ((Nat.lt_trans (ir_c hG c6).1.2 (by decide)))) rfl ?_
      refine x_iload_n (pc := 57) d107_57 rfl ?_
      refine y_ialdN (pc := 58) (q := y.toNatClampNeg) d107_58 (shR1 x.toNatClampNeg ((Nat.lt_trans (ir_c hG c6).1.2 (by decide)))) ((ir_c hG c6).2.2) (by decide) ((ir_c hG c6).2.1) ?_
      exact y_iret (pc := 59) d107_59 rfl (⟨by unfold rowV; rw [if_neg c6, if_pos hk0], rfl⟩)
    by_cases hk1 : z = 1
    · refine x_lookup (pc := 26) (tgt := 60) (off := 34) d107_26 (by decide) (by rw [hk1]; decide) (by decide) ?_
      refine x_aload (pc := 60) d107_60 rfl ?_
      refine y_getr (pc := 62) d107_62 fk8_150 (shR x.toNatClampNeg ((Nat.lt_trans (ir_c hG c6).1.2 (by decide)))) rfl ?_
      refine x_iload_n (pc := 65) d107_65 rfl ?_
      refine y_ialdN (pc := 66) (q := y.toNatClampNeg) d107_66 (shR2 x.toNatClampNeg ((Nat.lt_trans (ir_c hG c6).1.2 (by decide)))) ((ir_c hG c6).2.2) (by decide) ((ir_c hG c6).2.1) ?_
      exact y_iret (pc := 67) d107_67 rfl (⟨by unfold rowV; rw [if_neg c6, if_neg hk0, if_pos hk1], rfl⟩)
    refine x_lookup (pc := 26) (tgt := 68) (off := 42) d107_26 (by decide) (show Op.lookupswitch.offset [(0, 26), (1, 34)] _ _ = _ by rw [lv_osw hk0 (by decide), lv_osw hk1 (by decide)]; rfl) (by decide) ?_
    refine x_iconst (pc := 68) (v := (-1)) d107_68 (by decide) ?_
    exact y_iret (pc := 69) d107_69 rfl (⟨by unfold rowV; rw [if_neg c6, if_neg hk0, if_neg hk1], rfl⟩)
  · skip
    refine x_iconst (pc := 9) (v := (-1)) d107_9 (by decide) ?_
    exact y_iret (pc := 10) d107_10 rfl (⟨by unfold rowV; rw [if_pos c6], rfl⟩)
set_option maxRecDepth 100000 in
theorem c_value (s : St) (x y : Int32) (hG : GV s) : Rj 2 109 [.ref 3, .int x, .int y] s (fun v s1 => v = valV s x y ∧ s1 = s) := by
  refine ct_of (by decide +kernel) (Nat.le_of_ble_eq_true rfl) ?_
  show Wp _ _ _ _ _ _ [(0, .ref 3), (1, .int x), (2, .int y)] _ _ _
  refine x_aload_n (pc := 0) d109_0 rfl ?_
  refine x_iload_n (pc := 1) d109_1 rfl ?_
  refine x_iload_n (pc := 2) d109_2 rfl ?_
  refine y_cV2i (pc := 3) d109_3 ml8_143 mv108 shL3 (c_isInRow s _ _) (by decide) (Nat.le_of_ble_eq_true rfl) ⟨Nat.zero_le _, Nat.zero_le _⟩ (fun v s hq => ?_)
  obtain ⟨rfl, rfl⟩ := hq
  refine x_if_eq (pc := 6) (tgt := 29) d109_6 (by decide) (fun c6 => ?_) (fun c6 => ?_)
  · skip
    refine x_lconst (pc := 29) (v := (0)) d109_29 (by decide) ?_
    exact y_lret (pc := 30) d109_30 rfl (⟨by unfold valV; rw [if_pos c6], rfl⟩)
  · skip
    refine x_aload_n (pc := 9) d109_9 rfl ?_
    refine y_getr (pc := 10) d109_10 fk8_34 shL3 rfl ?_
    refine y_getr (pc := 13) d109_13 fk8_71 shL143 rfl ?_
    refine x_iload_n (pc := 16) d109_16 rfl ?_
    refine y_aaldFN (pc := 17) (q := x.toNatClampNeg) d109_17 ((ir_c hG c6).1.2) ((ir_c hG c6).1.1) ?_
    refine y_getr (pc := 18) d109_18 fk8_89 (shF x.toNatClampNeg ((Nat.lt_trans (ir_c hG c6).1.2 (by decide)))) rfl ?_
    refine y_getr (pc := 21) d109_21 fk8_153 (shR x.toNatClampNeg ((Nat.lt_trans (ir_c hG c6).1.2 (by decide)))) rfl ?_
    refine x_iload_n (pc := 24) d109_24 rfl ?_
    refine y_laldN (pc := 25) (q := y.toNatClampNeg) d109_25 (shR3 x.toNatClampNeg ((Nat.lt_trans (ir_c hG c6).1.2 (by decide)))) ((ir_c hG c6).2.2) (by decide) ((ir_c hG c6).2.1) ?_
    refine x_goto (pc := 26) (tgt := 30) d109_26 (by decide) ?_
    exact y_lret (pc := 30) d109_30 rfl (⟨by unfold valV; rw [if_neg c6], rfl⟩)
set_option maxRecDepth 100000 in
theorem c_note (s : St) (x y : Int32) (hG : GV s) : Ri 1 118 [.ref 3, .int x, .int y] s (fun v s1 => v = ntV s x y ∧ s1 = s) := by
  refine ct_of (by decide +kernel) (Nat.le_of_ble_eq_true rfl) ?_
  show Wp _ _ _ _ _ _ [(0, .ref 3), (1, .int x), (2, .int y)] _ _ _
  refine x_aload_n (pc := 0) d118_0 rfl ?_
  refine x_iload_n (pc := 1) d118_1 rfl ?_
  refine y_cV1i (pc := 2) d118_2 ml8_169 mv119 shL3 (c_isNote s _) (by decide) (Nat.le_of_ble_eq_true rfl) ⟨Nat.zero_le _, Nat.zero_le _⟩ (fun v s hq => ?_)
  obtain ⟨rfl, rfl⟩ := hq
  refine x_if_ne (pc := 5) (tgt := 10) d118_5 (by decide) (fun c5 => ?_) (fun c5 => ?_)
  · skip
    refine x_iload_n (pc := 10) d118_10 rfl ?_
    by_cases hk0 : y = 0
    · refine x_tableIn (pc := 11) (tgt := 36) (off := 25) d118_11 (by rw [hk0]; decide) (by rw [hk0]; decide) (by rw [hk0]; decide) (by decide) ?_
      refine x_aload_n (pc := 36) d118_36 rfl ?_
      refine y_getr (pc := 37) d118_37 fk8_34 shL3 rfl ?_
      refine y_getr (pc := 40) d118_40 fk8_159 shL143 rfl ?_
      refine y_getr (pc := 43) d118_43 fk8_172 (shC 0 (by decide)) rfl ?_
      refine x_iload_n (pc := 46) d118_46 rfl ?_
      refine y_ialdN (pc := 47) (q := x.toNatClampNeg) d118_47 (shC1 0 (by decide)) ((nt_c hG c5).2) (by decide) ((nt_c hG c5).1) ?_
      exact y_iret (pc := 48) d118_48 rfl (⟨by unfold ntV; rw [if_neg c5, if_pos hk0], rfl⟩)
    by_cases hk1 : y = 1
    · refine x_tableIn (pc := 11) (tgt := 49) (off := 38) d118_11 (by rw [hk1]; decide) (by rw [hk1]; decide) (by rw [hk1]; decide) (by decide) ?_
      refine x_aload_n (pc := 49) d118_49 rfl ?_
      refine y_getr (pc := 50) d118_50 fk8_34 shL3 rfl ?_
      refine y_getr (pc := 53) d118_53 fk8_159 shL143 rfl ?_
      refine y_getr (pc := 56) d118_56 fk8_175 (shC 0 (by decide)) rfl ?_
      refine x_iload_n (pc := 59) d118_59 rfl ?_
      refine y_ialdN (pc := 60) (q := x.toNatClampNeg) d118_60 (shC2 0 (by decide)) ((nt_c hG c5).2) (by decide) ((nt_c hG c5).1) ?_
      exact y_iret (pc := 61) d118_61 rfl (⟨by unfold ntV; rw [if_neg c5, if_neg hk0, if_pos hk1], rfl⟩)
    by_cases hk2 : y = 2
    · refine x_tableIn (pc := 11) (tgt := 62) (off := 51) d118_11 (by rw [hk2]; decide) (by rw [hk2]; decide) (by rw [hk2]; decide) (by decide) ?_
      refine x_aload_n (pc := 62) d118_62 rfl ?_
      refine y_getr (pc := 63) d118_63 fk8_34 shL3 rfl ?_
      refine y_getr (pc := 66) d118_66 fk8_159 shL143 rfl ?_
      refine y_getr (pc := 69) d118_69 fk8_178 (shC 0 (by decide)) rfl ?_
      refine x_iload_n (pc := 72) d118_72 rfl ?_
      refine y_ialdN (pc := 73) (q := x.toNatClampNeg) d118_73 (shC3 0 (by decide)) ((nt_c hG c5).2) (by decide) ((nt_c hG c5).1) ?_
      exact y_iret (pc := 74) d118_74 rfl (⟨by unfold ntV; rw [if_neg c5, if_neg hk0, if_neg hk1, if_pos hk2], rfl⟩)
    have z0 : ¬ (y).toInt = 0 := lv_neT hk0 (by decide)
    have z1 : ¬ (y).toInt = 1 := lv_neT hk1 (by decide)
    have z2 : ¬ (y).toInt = 2 := lv_neT hk2 (by decide)
    rcases (by omega : (y).toInt < 0 ∨ 2 < (y).toInt) with zz | zz
    · refine x_tableOut (pc := 11) (tgt := 75) d118_11 (Or.inl zz) (by decide) ?_
      refine x_iconst (pc := 75) (v := (-1)) d118_75 (by decide) ?_
      exact y_iret (pc := 76) d118_76 rfl (⟨by unfold ntV; rw [if_neg c5, if_neg hk0, if_neg hk1, if_neg hk2], rfl⟩)
    · refine x_tableOut (pc := 11) (tgt := 75) d118_11 (Or.inr zz) (by decide) ?_
      refine x_iconst (pc := 75) (v := (-1)) d118_75 (by decide) ?_
      exact y_iret (pc := 76) d118_76 rfl (⟨by unfold ntV; rw [if_neg c5, if_neg hk0, if_neg hk1, if_neg hk2], rfl⟩)
  · skip
    refine x_iconst (pc := 8) (v := (-1)) d118_8 (by decide) ?_
    exact y_iret (pc := 9) d118_9 rfl (⟨by unfold ntV; rw [if_pos c5], rfl⟩)
set_option maxRecDepth 100000 in
theorem c_noted (s : St) (x : Int32) (hG : GV s) : Rj 1 120 [.ref 3, .int x] s (fun v s1 => v = ndV s x ∧ s1 = s) := by
  refine ct_of (by decide +kernel) (Nat.le_of_ble_eq_true rfl) ?_
  show Wp _ _ _ _ _ _ [(0, .ref 3), (1, .int x)] _ _ _
  refine x_aload_n (pc := 0) d120_0 rfl ?_
  refine x_iload_n (pc := 1) d120_1 rfl ?_
  refine y_cV1i (pc := 2) d120_2 ml8_169 mv119 shL3 (c_isNote s _) (by decide) (Nat.le_of_ble_eq_true rfl) ⟨Nat.zero_le _, Nat.zero_le _⟩ (fun v s hq => ?_)
  obtain ⟨rfl, rfl⟩ := hq
  refine x_if_eq (pc := 5) (tgt := 23) d120_5 (by decide) (fun c5 => ?_) (fun c5 => ?_)
  · skip
    refine x_lconst (pc := 23) (v := (0)) d120_23 (by decide) ?_
    exact y_lret (pc := 24) d120_24 rfl (⟨by unfold ndV; rw [if_pos c5], rfl⟩)
  · skip
    refine x_aload_n (pc := 8) d120_8 rfl ?_
    refine y_getr (pc := 9) d120_9 fk8_34 shL3 rfl ?_
    refine y_getr (pc := 12) d120_12 fk8_159 shL143 rfl ?_
    refine y_getr (pc := 15) d120_15 fk8_181 (shC 0 (by decide)) rfl ?_
    refine x_iload_n (pc := 18) d120_18 rfl ?_
    refine y_laldN (pc := 19) (q := x.toNatClampNeg) d120_19 (shC4 0 (by decide)) ((nt_c hG c5).2) (by decide) ((nt_c hG c5).1) ?_
    refine x_goto (pc := 20) (tgt := 24) d120_20 (by decide) ?_
    exact y_lret (pc := 24) d120_24 rfl (⟨by unfold ndV; rw [if_neg c5], rfl⟩)
def stuckR (s : St) : Int32 × St := (if (awS 6 0 s).1 = 0 then 1 else 0, (awS 6 0 s).2)
set_option maxRecDepth 100000 in
theorem c_stuck (s : St) (hG : GV s) (J : St → Prop) (hA : AJ J) (hJ : J s) : Ri 6 110 [.ref 3] s (fun v s1 => (v, s1) = stuckR s) := by
  refine ct_of (by decide +kernel) (Nat.le_of_ble_eq_true rfl) ?_
  show Wp _ _ _ _ _ _ [(0, .ref 3)] _ _ _
  refine x_aload_n (pc := 0) d110_0 rfl ?_
  refine y_getr (pc := 1) d110_1 fk8_34 shL3 rfl ?_
  refine y_cV0i (pc := 4) d110_4 ml8_156 mv111 shL143 (c_any s hG J hA hJ) (by decide) (Nat.le_of_ble_eq_true rfl) ⟨Nat.zero_le _, Nat.zero_le _⟩ (fun v s hq => ?_)
  have hq1 : v = _ := congrArg Prod.fst hq
  have hq2 : s = _ := congrArg Prod.snd hq
  rw [hq1, hq2]
  clear hq1 hq2 hq
  refine x_if_eq (pc := 7) (tgt := 14) d110_7 (by decide) (fun c7 => ?_) (fun c7 => ?_)
  · skip
    refine x_iconst (pc := 14) (v := (1)) d110_14 (by decide) ?_
    exact y_iret (pc := 15) d110_15 rfl (by unfold stuckR; rw [if_pos c7])
  · skip
    refine x_iconst (pc := 10) (v := (0)) d110_10 (by decide) ?_
    refine x_goto (pc := 11) (tgt := 15) d110_11 (by decide) ?_
    exact y_iret (pc := 15) d110_15 rfl (by unfold stuckR; rw [if_neg c7])
