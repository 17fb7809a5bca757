/-! the reference: small methods -/
theorem inW0a {x L : Int32} (h : x < 0) : inW x L = 0 := by unfold inW; rw [if_pos h]
theorem inW0b {x L : Int32} (h0 : ¬ x < 0) (h : L ≤ x) : inW x L = 0 := by unfold inW; rw [if_neg h0, if_pos h]
theorem inW1 {x L : Int32} (h0 : ¬ x < 0) (h : ¬ L ≤ x) : inW x L = 1 := by unfold inW; rw [if_neg h0, if_neg h]
set_option maxRecDepth 100000 in
theorem m_isThread (s : St) (x : Int32) : Ri 0 157 [.int x] s (fun v s1 => v = inW x 6 ∧ s1 = s) := by
  refine ct_of (by decide +kernel) (Nat.le_of_ble_eq_true rfl) ?_
  show Wp _ _ _ _ _ _ [(0, .int x)] _ _ _
  refine x_iload_n (pc := 0) d157_0 rfl ?_
  refine x_if_lt (pc := 1) (tgt := 14) d157_1 (by decide) (fun c1 => ?_) (fun c1 => ?_)
  · skip
    refine x_iconst (pc := 14) (v := (0)) d157_14 (by decide) ?_
    exact y_zret (pc := 15) d157_15 rfl (by first | exact Or.inl rfl | exact Or.inr rfl) (⟨by unfold inW; rw [if_pos c1], rfl⟩)
  · skip
    refine x_iload_n (pc := 4) d157_4 rfl ?_
    refine x_bipush (pc := 5) (v := (6)) d157_5 (by decide) ?_
    refine x_icmp_ge (pc := 7) (tgt := 14) d157_7 (by decide) (fun c7 => ?_) (fun c7 => ?_)
    · skip
      refine x_iconst (pc := 14) (v := (0)) d157_14 (by decide) ?_
      exact y_zret (pc := 15) d157_15 rfl (by first | exact Or.inl rfl | exact Or.inr rfl) (⟨by unfold inW; rw [if_neg c1, if_pos c7], rfl⟩)
    · skip
      refine x_iconst (pc := 10) (v := (1)) d157_10 (by decide) ?_
      refine x_goto (pc := 11) (tgt := 15) d157_11 (by decide) ?_
      exact y_zret (pc := 15) d157_15 rfl (by first | exact Or.inl rfl | exact Or.inr rfl) (⟨by unfold inW; rw [if_neg c1, if_neg c7], rfl⟩)
set_option maxRecDepth 100000 in
theorem m_isBox (s : St) (x : Int32) : Ri 0 180 [.int x] s (fun v s1 => v = inW x 8 ∧ s1 = s) := by
  refine ct_of (by decide +kernel) (Nat.le_of_ble_eq_true rfl) ?_
  show Wp _ _ _ _ _ _ [(0, .int x)] _ _ _
  refine x_iload_n (pc := 0) d180_0 rfl ?_
  refine x_if_lt (pc := 1) (tgt := 14) d180_1 (by decide) (fun c1 => ?_) (fun c1 => ?_)
  · skip
    refine x_iconst (pc := 14) (v := (0)) d180_14 (by decide) ?_
    exact y_zret (pc := 15) d180_15 rfl (by first | exact Or.inl rfl | exact Or.inr rfl) (⟨by unfold inW; rw [if_pos c1], rfl⟩)
  · skip
    refine x_iload_n (pc := 4) d180_4 rfl ?_
    refine x_bipush (pc := 5) (v := (8)) d180_5 (by decide) ?_
    refine x_icmp_ge (pc := 7) (tgt := 14) d180_7 (by decide) (fun c7 => ?_) (fun c7 => ?_)
    · skip
      refine x_iconst (pc := 14) (v := (0)) d180_14 (by decide) ?_
      exact y_zret (pc := 15) d180_15 rfl (by first | exact Or.inl rfl | exact Or.inr rfl) (⟨by unfold inW; rw [if_neg c1, if_pos c7], rfl⟩)
    · skip
      refine x_iconst (pc := 10) (v := (1)) d180_10 (by decide) ?_
      refine x_goto (pc := 11) (tgt := 15) d180_11 (by decide) ?_
      exact y_zret (pc := 15) d180_15 rfl (by first | exact Or.inl rfl | exact Or.inr rfl) (⟨by unfold inW; rw [if_neg c1, if_neg c7], rfl⟩)
set_option maxRecDepth 100000 in
theorem m_place (s : St) : Ri 0 154 [.ref 280] s (fun v s1 => v = s.1 209 0 0 ∧ s1 = s) := by
  refine ct_of (by decide +kernel) (Nat.le_of_ble_eq_true rfl) ?_
  show Wp _ _ _ _ _ _ [(0, .ref 280)] _ _ _
  refine x_aload_n (pc := 0) d154_0 rfl ?_
  refine y_geti (pc := 1) d154_1 fk9_13 shL280 rfl ?_
  exact y_iret (pc := 4) d154_4 rfl (⟨rfl, rfl⟩)
set_option maxRecDepth 100000 in
theorem m_clock (s : St) : Ri 0 192 [.ref 280] s (fun v s1 => v = s.1 237 0 0 ∧ s1 = s) := by
  refine ct_of (by decide +kernel) (Nat.le_of_ble_eq_true rfl) ?_
  show Wp _ _ _ _ _ _ [(0, .ref 280)] _ _ _
  refine x_aload_n (pc := 0) d192_0 rfl ?_
  refine y_geti (pc := 1) d192_1 fk9_353 shL280 rfl ?_
  exact y_iret (pc := 4) d192_4 rfl (⟨rfl, rfl⟩)
set_option maxRecDepth 100000 in
theorem m_notes (s : St) : Ri 0 193 [.ref 280] s (fun v s1 => v = s.1 263 0 0 ∧ s1 = s) := by
  refine ct_of (by decide +kernel) (Nat.le_of_ble_eq_true rfl) ?_
  show Wp _ _ _ _ _ _ [(0, .ref 280)] _ _ _
  refine x_aload_n (pc := 0) d193_0 rfl ?_
  refine y_geti (pc := 1) d193_1 fk9_350 shL280 rfl ?_
  exact y_iret (pc := 4) d193_4 rfl (⟨rfl, rfl⟩)
def mirV (s : St) (x y : Int32) : Int32 := if inW x 6 = 0 then 0 else inW y (s.1 255 0 x.toNatClampNeg)
set_option maxRecDepth 100000 in
theorem m_isInRow (s : St) (x y : Int32) : Ri 1 187 [.ref 280, .int x, .int y] s (fun v s1 => v = mirV s x y ∧ s1 = s) := by
  refine ct_of (by decide +kernel) (Nat.le_of_ble_eq_true rfl) ?_
  show Wp _ _ _ _ _ _ [(0, .ref 280), (1, .int x), (2, .int y)] _ _ _
  refine x_iload_n (pc := 0) d187_0 rfl ?_
  refine y_cS1i (pc := 1) d187_1 ml9_419 mv157 (m_isThread s _) (by decide) (Nat.le_of_ble_eq_true rfl) ⟨Nat.zero_le _, Nat.zero_le _⟩ (fun v s hq => ?_)
  obtain ⟨rfl, rfl⟩ := hq
  refine x_if_eq (pc := 4) (tgt := 25) d187_4 (by decide) (fun c4 => ?_) (fun c4 => ?_)
  · skip
    refine x_iconst (pc := 25) (v := (0)) d187_25 (by decide) ?_
    exact y_zret (pc := 26) d187_26 rfl (by first | exact Or.inl rfl | exact Or.inr rfl) (⟨by unfold mirV; rw [if_pos c4], rfl⟩)
  · skip
    refine x_iload_n (pc := 7) d187_7 rfl ?_
    refine x_if_lt (pc := 8) (tgt := 25) d187_8 (by decide) (fun c8 => ?_) (fun c8 => ?_)
    · skip
      refine x_iconst (pc := 25) (v := (0)) d187_25 (by decide) ?_
      exact y_zret (pc := 26) d187_26 rfl (by first | exact Or.inl rfl | exact Or.inr rfl) (⟨by unfold mirV; rw [if_neg c4]; unfold inW; rw [if_pos c8], rfl⟩)
    · skip
      refine x_iload_n (pc := 11) d187_11 rfl ?_
      refine x_aload_n (pc := 12) d187_12 rfl ?_
      refine y_getr (pc := 13) d187_13 fk9_134 shL280 rfl ?_
      refine x_iload_n (pc := 16) d187_16 rfl ?_
      refine y_ialdN (pc := 17) (q := x.toNatClampNeg) d187_17 shL320 ((Nat.lt_trans (inW_c (n := 6) (by decide) c4).2 (by decide))) (by decide) ((inW_c (n := 6) (by decide) c4).1) ?_
      refine x_icmp_ge (pc := 18) (tgt := 25) d187_18 (by decide) (fun c18 => ?_) (fun c18 => ?_)
      · skip
        refine x_iconst (pc := 25) (v := (0)) d187_25 (by decide) ?_
        exact y_zret (pc := 26) d187_26 rfl (by first | exact Or.inl rfl | exact Or.inr rfl) (⟨by unfold mirV; rw [if_neg c4]; unfold inW; rw [if_neg c8, if_pos c18], rfl⟩)
      · skip
        refine x_iconst (pc := 21) (v := (1)) d187_21 (by decide) ?_
        refine x_goto (pc := 22) (tgt := 26) d187_22 (by decide) ?_
        exact y_zret (pc := 26) d187_26 rfl (by first | exact Or.inl rfl | exact Or.inr rfl) (⟨by unfold mirV; rw [if_neg c4]; unfold inW; rw [if_neg c8, if_neg c18], rfl⟩)
def mendV (s : St) (x : Int32) : Int32 := if x < 0 ∨ 20 < x ∨ ¬ 20 ≤ s.1 201 0 0 then -1 else s.1 201 0 0 - (20 - x)
def mendS (s : St) (x : Int32) : St := if x < 0 ∨ 20 < x ∨ ¬ 20 ≤ s.1 201 0 0 then s else si s 201 0 0 (s.1 201 0 0 - (20 - x))
set_option maxRecDepth 100000 in
theorem m_end (s : St) (x : Int32) : Ri 0 125 [.ref 280, .int x] s (fun v s1 => v = mendV s x ∧ s1 = mendS s x) := by
  refine ct_of (by decide +kernel) (Nat.le_of_ble_eq_true rfl) ?_
  show Wp _ _ _ _ _ _ [(0, .ref 280), (1, .int x)] _ _ _
  refine x_iload_n (pc := 0) d125_0 rfl ?_
  refine x_if_lt (pc := 1) (tgt := 19) d125_1 (by decide) (fun c1 => ?_) (fun c1 => ?_)
  · skip
    refine x_iconst (pc := 19) (v := (-1)) d125_19 (by decide) ?_
    exact y_iret (pc := 20) d125_20 rfl (⟨by unfold mendV; rw [if_pos (Or.inl c1)], by unfold mendS; rw [if_pos (Or.inl c1)]⟩)
  · skip
    refine x_iload_n (pc := 4) d125_4 rfl ?_
    refine x_bipush (pc := 5) (v := (20)) d125_5 (by decide) ?_
    refine x_icmp_gt (pc := 7) (tgt := 19) d125_7 (by decide) (fun c7 => ?_) (fun c7 => ?_)
    · skip
      refine x_iconst (pc := 19) (v := (-1)) d125_19 (by decide) ?_
      exact y_iret (pc := 20) d125_20 rfl (⟨by unfold mendV; rw [if_pos (Or.inr (Or.inl c7))], by unfold mendS; rw [if_pos (Or.inr (Or.inl c7))]⟩)
    · skip
      refine x_aload_n (pc := 10) d125_10 rfl ?_
      refine y_geti (pc := 11) d125_11 fk9_170 shL280 rfl ?_
      refine x_bipush (pc := 14) (v := (20)) d125_14 (by decide) ?_
      refine x_icmp_ge (pc := 16) (tgt := 21) d125_16 (by decide) (fun c16 => ?_) (fun c16 => ?_)
      · skip
        refine x_aload_n (pc := 21) d125_21 rfl ?_
        refine x_dup (pc := 22) d125_22 rfl ?_
        refine y_geti (pc := 23) d125_23 fk9_170 shL280 rfl ?_
        refine x_bipush (pc := 26) (v := (20)) d125_26 (by decide) ?_
        refine x_iload_n (pc := 28) d125_28 rfl ?_
        refine x_isub (pc := 29) d125_29 ?_
        refine x_isub (pc := 30) d125_30 ?_
        refine y_puti (pc := 31) d125_31 fk9_170 shL280 rfl rfl ⟨rfl, rfl⟩ ?_
        refine x_aload_n (pc := 34) d125_34 rfl ?_
        refine y_geti (pc := 35) d125_35 fk9_170 shL280 rfl ?_
        exact y_iret (pc := 38) d125_38 rfl (⟨by unfold mendV; rw [if_neg (fun h => h.elim c1 (fun h => h.elim c7 (fun h => h c16)))]; rw [si_eq], by unfold mendS; rw [if_neg (fun h => h.elim c1 (fun h => h.elim c7 (fun h => h c16)))]⟩)
      · skip
        refine x_iconst (pc := 19) (v := (-1)) d125_19 (by decide) ?_
        exact y_iret (pc := 20) d125_20 rfl (⟨by unfold mendV; rw [if_pos (Or.inr (Or.inr c16))], by unfold mendS; rw [if_pos (Or.inr (Or.inr c16))]⟩)
def mtoldV (s : St) (x y : Int32) : Int32 := if inW x (s.1 210 0 0) = 0 then -1 else if y = 0 then s.1 211 0 x.toNatClampNeg else if y = 1 then s.1 212 0 x.toNatClampNeg else if y = 2 then s.1 213 0 x.toNatClampNeg else -1
theorem inW_m {s : St} {id : Nat} {x : Int32} {n N : Nat} (hn : s.1 id 0 0 = nI n) (hN : n ≤ N) (hN2 : N < 2 ^ 31) (h0 : ¬ x < 0) (h : x < s.1 id 0 0) : x = nI x.toNatClampNeg ∧ x.toNatClampNeg < N := by
  have h1 : ¬ inW x (nI n) = 0 := by rw [← hn, inW1 h0 (Int32.not_le.mpr h)]; decide
  have := inW_c (by omega) h1
  exact ⟨this.1, by omega⟩
set_option maxRecDepth 100000 in
theorem m_told (s : St) (x y : Int32) (n : Nat) (hn : s.1 210 0 0 = nI n) (hn2 : n ≤ 12) : Ri 0 155 [.ref 280, .int x, .int y] s (fun v s1 => v = mtoldV s x y ∧ s1 = s) := by
  refine ct_of (by decide +kernel) (Nat.le_of_ble_eq_true rfl) ?_
  show Wp _ _ _ _ _ _ [(0, .ref 280), (1, .int x), (2, .int y)] _ _ _
  refine x_iload_n (pc := 0) d155_0 rfl ?_
  refine x_if_lt (pc := 1) (tgt := 12) d155_1 (by decide) (fun c1 => ?_) (fun c1 => ?_)
  · skip
    refine x_iconst (pc := 12) (v := (-1)) d155_12 (by decide) ?_
    exact y_iret (pc := 13) d155_13 rfl (⟨by unfold mtoldV; rw [if_pos (inW0a c1)], rfl⟩)
  · skip
    refine x_iload_n (pc := 4) d155_4 rfl ?_
    refine x_aload_n (pc := 5) d155_5 rfl ?_
    refine y_geti (pc := 6) d155_6 fk9_344 shL280 rfl ?_
    refine x_icmp_lt (pc := 9) (tgt := 14) d155_9 (by decide) (fun c9 => ?_) (fun c9 => ?_)
    · skip
      refine x_iload_n (pc := 14) d155_14 rfl ?_
      refine x_if_ne (pc := 15) (tgt := 27) d155_15 (by decide) (fun c15 => ?_) (fun c15 => ?_)
      · skip
        refine x_iload_n (pc := 27) d155_27 rfl ?_
        refine x_iconst (pc := 28) (v := (1)) d155_28 (by decide) ?_
        refine x_icmp_ne (pc := 29) (tgt := 41) d155_29 (by decide) (fun c29 => ?_) (fun c29 => ?_)
        · skip
          refine x_iload_n (pc := 41) d155_41 rfl ?_
          refine x_iconst (pc := 42) (v := (2)) d155_42 (by decide) ?_
          refine x_icmp_ne (pc := 43) (tgt := 55) d155_43 (by decide) (fun c43 => ?_) (fun c43 => ?_)
          · skip
            refine x_iconst (pc := 55) (v := (-1)) d155_55 (by decide) ?_
            exact y_iret (pc := 56) d155_56 rfl (⟨by unfold mtoldV; rw [if_neg (by rw [inW1 c1 (Int32.not_le.mpr c9)]; decide), if_neg c15, if_neg c29, if_neg c43], rfl⟩)
          · skip
            refine x_aload_n (pc := 46) d155_46 rfl ?_
            refine y_getr (pc := 47) d155_47 fk9_24 shL280 rfl ?_
            refine x_iload_n (pc := 50) d155_50 rfl ?_
            refine y_ialdN (pc := 51) (q := x.toNatClampNeg) d155_51 shL284 ((inW_m hn hn2 (by decide) c1 c9).2) (by decide) ((inW_m hn hn2 (by decide) c1 c9).1) ?_
            refine x_goto (pc := 52) (tgt := 56) d155_52 (by decide) ?_
            exact y_iret (pc := 56) d155_56 rfl (⟨by unfold mtoldV; rw [if_neg (by rw [inW1 c1 (Int32.not_le.mpr c9)]; decide), if_neg c15, if_neg c29, if_pos c43], rfl⟩)
        · skip
          refine x_aload_n (pc := 32) d155_32 rfl ?_
          refine y_getr (pc := 33) d155_33 fk9_21 shL280 rfl ?_
          refine x_iload_n (pc := 36) d155_36 rfl ?_
          refine y_ialdN (pc := 37) (q := x.toNatClampNeg) d155_37 shL283 ((inW_m hn hn2 (by decide) c1 c9).2) (by decide) ((inW_m hn hn2 (by decide) c1 c9).1) ?_
          refine x_goto (pc := 38) (tgt := 56) d155_38 (by decide) ?_
          exact y_iret (pc := 56) d155_56 rfl (⟨by unfold mtoldV; rw [if_neg (by rw [inW1 c1 (Int32.not_le.mpr c9)]; decide), if_neg c15, if_pos c29], rfl⟩)
      · skip
        refine x_aload_n (pc := 18) d155_18 rfl ?_
        refine y_getr (pc := 19) d155_19 fk9_17 shL280 rfl ?_
        refine x_iload_n (pc := 22) d155_22 rfl ?_
        refine y_ialdN (pc := 23) (q := x.toNatClampNeg) d155_23 shL282 ((inW_m hn hn2 (by decide) c1 c9).2) (by decide) ((inW_m hn hn2 (by decide) c1 c9).1) ?_
        refine x_goto (pc := 24) (tgt := 56) d155_24 (by decide) ?_
        exact y_iret (pc := 56) d155_56 rfl (⟨by unfold mtoldV; rw [if_neg (by rw [inW1 c1 (Int32.not_le.mpr c9)]; decide), if_pos c15], rfl⟩)
    · skip
      refine x_iconst (pc := 12) (v := (-1)) d155_12 (by decide) ?_
      exact y_iret (pc := 13) d155_13 rfl (⟨by unfold mtoldV; rw [if_pos (inW0b c1 (Int32.not_lt.mp c9))], rfl⟩)
def mntV (s : St) (x y : Int32) : Int32 := if inW x (s.1 263 0 0) = 0 then -1 else if y = 0 then s.1 264 0 x.toNatClampNeg else if y = 1 then s.1 265 0 x.toNatClampNeg else if y = 2 then s.1 266 0 x.toNatClampNeg else -1
def mndV (s : St) (x : Int32) : Int64 := if inW x (s.1 263 0 0) = 0 then 0 else s.2 267 0 x.toNatClampNeg
set_option maxRecDepth 100000 in
theorem m_note (s : St) (x y : Int32) (n : Nat) (hn : s.1 263 0 0 = nI n) (hn2 : n ≤ 400) : Ri 0 194 [.ref 280, .int x, .int y] s (fun v s1 => v = mntV s x y ∧ s1 = s) := by
  refine ct_of (by decide +kernel) (Nat.le_of_ble_eq_true rfl) ?_
  show Wp _ _ _ _ _ _ [(0, .ref 280), (1, .int x), (2, .int y)] _ _ _
  refine x_iload_n (pc := 0) d194_0 rfl ?_
  refine x_if_lt (pc := 1) (tgt := 12) d194_1 (by decide) (fun c1 => ?_) (fun c1 => ?_)
  · skip
    refine x_iconst (pc := 12) (v := (-1)) d194_12 (by decide) ?_
    exact y_iret (pc := 13) d194_13 rfl (⟨by unfold mntV; rw [if_pos (inW0a c1)], rfl⟩)
  · skip
    refine x_iload_n (pc := 4) d194_4 rfl ?_
    refine x_aload_n (pc := 5) d194_5 rfl ?_
    refine y_geti (pc := 6) d194_6 fk9_350 shL280 rfl ?_
    refine x_icmp_lt (pc := 9) (tgt := 14) d194_9 (by decide) (fun c9 => ?_) (fun c9 => ?_)
    · skip
      refine x_iload_n (pc := 14) d194_14 rfl ?_
      refine x_if_ne (pc := 15) (tgt := 27) d194_15 (by decide) (fun c15 => ?_) (fun c15 => ?_)
      · skip
        refine x_iload_n (pc := 27) d194_27 rfl ?_
        refine x_iconst (pc := 28) (v := (1)) d194_28 (by decide) ?_
        refine x_icmp_ne (pc := 29) (tgt := 41) d194_29 (by decide) (fun c29 => ?_) (fun c29 => ?_)
        · skip
          refine x_iload_n (pc := 41) d194_41 rfl ?_
          refine x_iconst (pc := 42) (v := (2)) d194_42 (by decide) ?_
          refine x_icmp_ne (pc := 43) (tgt := 55) d194_43 (by decide) (fun c43 => ?_) (fun c43 => ?_)
          · skip
            refine x_iconst (pc := 55) (v := (-1)) d194_55 (by decide) ?_
            exact y_iret (pc := 56) d194_56 rfl (⟨by unfold mntV; rw [if_neg (by rw [inW1 c1 (Int32.not_le.mpr c9)]; decide), if_neg c15, if_neg c29, if_neg c43], rfl⟩)
          · skip
            refine x_aload_n (pc := 46) d194_46 rfl ?_
            refine y_getr (pc := 47) d194_47 fk9_161 shL280 rfl ?_
            refine x_iload_n (pc := 50) d194_50 rfl ?_
            refine y_ialdN (pc := 51) (q := x.toNatClampNeg) d194_51 shL329 ((inW_m hn hn2 (by decide) c1 c9).2) (by decide) ((inW_m hn hn2 (by decide) c1 c9).1) ?_
            refine x_goto (pc := 52) (tgt := 56) d194_52 (by decide) ?_
            exact y_iret (pc := 56) d194_56 rfl (⟨by unfold mntV; rw [if_neg (by rw [inW1 c1 (Int32.not_le.mpr c9)]; decide), if_neg c15, if_neg c29, if_pos c43], rfl⟩)
        · skip
          refine x_aload_n (pc := 32) d194_32 rfl ?_
          refine y_getr (pc := 33) d194_33 fk9_158 shL280 rfl ?_
          refine x_iload_n (pc := 36) d194_36 rfl ?_
          refine y_ialdN (pc := 37) (q := x.toNatClampNeg) d194_37 shL328 ((inW_m hn hn2 (by decide) c1 c9).2) (by decide) ((inW_m hn hn2 (by decide) c1 c9).1) ?_
          refine x_goto (pc := 38) (tgt := 56) d194_38 (by decide) ?_
          exact y_iret (pc := 56) d194_56 rfl (⟨by unfold mntV; rw [if_neg (by rw [inW1 c1 (Int32.not_le.mpr c9)]; decide), if_neg c15, if_pos c29], rfl⟩)
      · skip
        refine x_aload_n (pc := 18) d194_18 rfl ?_
        refine y_getr (pc := 19) d194_19 fk9_155 shL280 rfl ?_
        refine x_iload_n (pc := 22) d194_22 rfl ?_
        refine y_ialdN (pc := 23) (q := x.toNatClampNeg) d194_23 shL327 ((inW_m hn hn2 (by decide) c1 c9).2) (by decide) ((inW_m hn hn2 (by decide) c1 c9).1) ?_
        refine x_goto (pc := 24) (tgt := 56) d194_24 (by decide) ?_
        exact y_iret (pc := 56) d194_56 rfl (⟨by unfold mntV; rw [if_neg (by rw [inW1 c1 (Int32.not_le.mpr c9)]; decide), if_pos c15], rfl⟩)
    · skip
      refine x_iconst (pc := 12) (v := (-1)) d194_12 (by decide) ?_
      exact y_iret (pc := 13) d194_13 rfl (⟨by unfold mntV; rw [if_pos (inW0b c1 (Int32.not_lt.mp c9))], rfl⟩)
set_option maxRecDepth 100000 in
theorem m_noted (s : St) (x : Int32) (n : Nat) (hn : s.1 263 0 0 = nI n) (hn2 : n ≤ 400) : Rj 0 195 [.ref 280, .int x] s (fun v s1 => v = mndV s x ∧ s1 = s) := by
  refine ct_of (by decide +kernel) (Nat.le_of_ble_eq_true rfl) ?_
  show Wp _ _ _ _ _ _ [(0, .ref 280), (1, .int x)] _ _ _
  refine x_iload_n (pc := 0) d195_0 rfl ?_
  refine x_if_lt (pc := 1) (tgt := 12) d195_1 (by decide) (fun c1 => ?_) (fun c1 => ?_)
  · skip
    refine x_lconst (pc := 12) (v := (0)) d195_12 (by decide) ?_
    refine x_goto (pc := 13) (tgt := 22) d195_13 (by decide) ?_
    exact y_lret (pc := 22) d195_22 rfl (⟨by unfold mndV; rw [if_pos (inW0a c1)], rfl⟩)
  · skip
    refine x_iload_n (pc := 4) d195_4 rfl ?_
    refine x_aload_n (pc := 5) d195_5 rfl ?_
    refine y_geti (pc := 6) d195_6 fk9_350 shL280 rfl ?_
    refine x_icmp_lt (pc := 9) (tgt := 16) d195_9 (by decide) (fun c9 => ?_) (fun c9 => ?_)
    · skip
      refine x_aload_n (pc := 16) d195_16 rfl ?_
      refine y_getr (pc := 17) d195_17 fk9_164 shL280 rfl ?_
      refine x_iload_n (pc := 20) d195_20 rfl ?_
      refine y_laldN (pc := 21) (q := x.toNatClampNeg) d195_21 shL330 ((inW_m hn hn2 (by decide) c1 c9).2) (by decide) ((inW_m hn hn2 (by decide) c1 c9).1) ?_
      exact y_lret (pc := 22) d195_22 rfl (⟨by unfold mndV; rw [if_neg (by rw [inW1 c1 (Int32.not_le.mpr c9)]; decide)], rfl⟩)
    · skip
      refine x_lconst (pc := 12) (v := (0)) d195_12 (by decide) ?_
      refine x_goto (pc := 13) (tgt := 22) d195_13 (by decide) ?_
      exact y_lret (pc := 22) d195_22 rfl (⟨by unfold mndV; rw [if_pos (inW0b c1 (Int32.not_lt.mp c9))], rfl⟩)
def mfullV (s : St) (x : Int32) : Int32 := if inW x 8 = 0 then -1 else if s.1 238 0 x.toNatClampNeg = 0 then 0 else 1
def mboxV (s : St) (x : Int32) : Int64 := if inW x 8 = 0 ∨ s.1 238 0 x.toNatClampNeg = 0 then 0 else s.2 239 0 x.toNatClampNeg
def mfillV (s : St) (x : Int32) : Int32 := if inW x 8 = 0 ∨ ¬ s.1 238 0 x.toNatClampNeg = 0 then -1 else 1
def mfillS (s : St) (x : Int32) (v : Int64) : St := if inW x 8 = 0 ∨ ¬ s.1 238 0 x.toNatClampNeg = 0 then s else sl (si s 238 0 x.toNatClampNeg 1) 239 0 x.toNatClampNeg v
def mdieV (s : St) (x : Int32) : Int64 := if inW x 6 = 0 then 0 else s.2 244 0 x.toNatClampNeg
def mlocV (s : St) (x y : Int32) : Int64 := if inW x 6 = 0 ∨ inW y 10 = 0 then 0 else s.2 245 0 (10 * x.toNatClampNeg + y.toNatClampNeg)
theorem nmul {a b : Nat} (c : Nat) {x y : Int32} (hx : x = nI a) (hy : y = nI b) : nI c * x + y = nI (c * a + b) := by rw [hx, hy, pk_mul, nI_add]
set_option maxRecDepth 100000 in
theorem m_full (s : St) (x : Int32) : Ri 1 181 [.ref 280, .int x] s (fun v s1 => v = mfullV s x ∧ s1 = s) := by
  refine ct_of (by decide +kernel) (Nat.le_of_ble_eq_true rfl) ?_
  show Wp _ _ _ _ _ _ [(0, .ref 280), (1, .int x)] _ _ _
  refine x_iload_n (pc := 0) d181_0 rfl ?_
  refine y_cS1i (pc := 1) d181_1 ml9_429 mv180 (m_isBox s _) (by decide) (Nat.le_of_ble_eq_true rfl) ⟨Nat.zero_le _, Nat.zero_le _⟩ (fun v s hq => ?_)
  obtain ⟨rfl, rfl⟩ := hq
  refine x_if_ne (pc := 4) (tgt := 11) d181_4 (by decide) (fun c4 => ?_) (fun c4 => ?_)
  · skip
    refine x_aload_n (pc := 11) d181_11 rfl ?_
    refine y_getr (pc := 12) d181_12 fk9_83 shL280 rfl ?_
    refine x_iload_n (pc := 15) d181_15 rfl ?_
    refine y_zaldN (pc := 16) (q := x.toNatClampNeg) d181_16 shL303 ((inW_c (n := 8) (by decide) c4).2) (by decide) ((inW_c (n := 8) (by decide) c4).1) ?_
    refine x_if_eq (pc := 17) (tgt := 24) d181_17 (by decide) (fun c17 => ?_) (fun c17 => ?_)
    · skip
      refine x_iconst (pc := 24) (v := (0)) d181_24 (by decide) ?_
      exact y_iret (pc := 25) d181_25 rfl (⟨by unfold mfullV; rw [if_neg c4, if_pos c17], rfl⟩)
    · skip
      refine x_iconst (pc := 20) (v := (1)) d181_20 (by decide) ?_
      refine x_goto (pc := 21) (tgt := 25) d181_21 (by decide) ?_
      exact y_iret (pc := 25) d181_25 rfl (⟨by unfold mfullV; rw [if_neg c4, if_neg c17], rfl⟩)
  · skip
    refine x_iconst (pc := 7) (v := (-1)) d181_7 (by decide) ?_
    refine x_goto (pc := 8) (tgt := 25) d181_8 (by decide) ?_
    exact y_iret (pc := 25) d181_25 rfl (⟨by unfold mfullV; rw [if_pos c4], rfl⟩)
set_option maxRecDepth 100000 in
theorem m_box (s : St) (x : Int32) : Rj 1 182 [.ref 280, .int x] s (fun v s1 => v = mboxV s x ∧ s1 = s) := by
  refine ct_of (by decide +kernel) (Nat.le_of_ble_eq_true rfl) ?_
  show Wp _ _ _ _ _ _ [(0, .ref 280), (1, .int x)] _ _ _
  refine x_iload_n (pc := 0) d182_0 rfl ?_
  refine y_cS1i (pc := 1) d182_1 ml9_429 mv180 (m_isBox s _) (by decide) (Nat.le_of_ble_eq_true rfl) ⟨Nat.zero_le _, Nat.zero_le _⟩ (fun v s hq => ?_)
  obtain ⟨rfl, rfl⟩ := hq
  refine x_if_eq (pc := 4) (tgt := 25) d182_4 (by decide) (fun c4 => ?_) (fun c4 => ?_)
  · skip
    refine x_lconst (pc := 25) (v := (0)) d182_25 (by decide) ?_
    exact y_lret (pc := 26) d182_26 rfl (⟨by unfold mboxV; rw [if_pos (Or.inl c4)], rfl⟩)
  · skip
    refine x_aload_n (pc := 7) d182_7 rfl ?_
    refine y_getr (pc := 8) d182_8 fk9_83 shL280 rfl ?_
    refine x_iload_n (pc := 11) d182_11 rfl ?_
    refine y_zaldN (pc := 12) (q := x.toNatClampNeg) d182_12 shL303 ((inW_c (n := 8) (by decide) c4).2) (by decide) ((inW_c (n := 8) (by decide) c4).1) ?_
    refine x_if_eq (pc := 13) (tgt := 25) d182_13 (by decide) (fun c13 => ?_) (fun c13 => ?_)
    · skip
      refine x_lconst (pc := 25) (v := (0)) d182_25 (by decide) ?_
      exact y_lret (pc := 26) d182_26 rfl (⟨by unfold mboxV; rw [if_pos (Or.inr c13)], rfl⟩)
    · skip
      refine x_aload_n (pc := 16) d182_16 rfl ?_
      refine y_getr (pc := 17) d182_17 fk9_86 shL280 rfl ?_
      refine x_iload_n (pc := 20) d182_20 rfl ?_
      refine y_laldN (pc := 21) (q := x.toNatClampNeg) d182_21 shL304 ((inW_c (n := 8) (by decide) c4).2) (by decide) ((inW_c (n := 8) (by decide) c4).1) ?_
      refine x_goto (pc := 22) (tgt := 26) d182_22 (by decide) ?_
      exact y_lret (pc := 26) d182_26 rfl (⟨by unfold mboxV; rw [if_neg (fun h => h.elim c4 c13)], rfl⟩)
set_option maxRecDepth 100000 in
theorem m_fill (s : St) (x : Int32) (y : Int64) : Ri 1 179 [.ref 280, .int x, .long y] s (fun v s1 => v = mfillV s x ∧ s1 = mfillS s x y) := by
  refine ct_of (by decide +kernel) (Nat.le_of_ble_eq_true rfl) ?_
  show Wp _ _ _ _ _ _ [(0, .ref 280), (1, .int x), (2, .long y)] _ _ _
  refine x_iload_n (pc := 0) d179_0 rfl ?_
  refine y_cS1i (pc := 1) d179_1 ml9_429 mv180 (m_isBox s _) (by decide) (Nat.le_of_ble_eq_true rfl) ⟨Nat.zero_le _, Nat.zero_le _⟩ (fun v s hq => ?_)
  obtain ⟨rfl, rfl⟩ := hq
  refine x_if_eq (pc := 4) (tgt := 16) d179_4 (by decide) (fun c4 => ?_) (fun c4 => ?_)
  · skip
    refine x_iconst (pc := 16) (v := (-1)) d179_16 (by decide) ?_
    exact y_iret (pc := 17) d179_17 rfl (⟨by unfold mfillV; rw [if_pos (Or.inl c4)], by unfold mfillS; rw [if_pos (Or.inl c4)]⟩)
  · skip
    refine x_aload_n (pc := 7) d179_7 rfl ?_
    refine y_getr (pc := 8) d179_8 fk9_83 shL280 rfl ?_
    refine x_iload_n (pc := 11) d179_11 rfl ?_
    refine y_zaldN (pc := 12) (q := x.toNatClampNeg) d179_12 shL303 ((inW_c (n := 8) (by decide) c4).2) (by decide) ((inW_c (n := 8) (by decide) c4).1) ?_
    refine x_if_eq (pc := 13) (tgt := 18) d179_13 (by decide) (fun c13 => ?_) (fun c13 => ?_)
    · skip
      refine x_aload_n (pc := 18) d179_18 rfl ?_
      refine y_getr (pc := 19) d179_19 fk9_83 shL280 rfl ?_
      refine x_iload_n (pc := 22) d179_22 rfl ?_
      refine x_iconst (pc := 23) (v := (1)) d179_23 (by decide) ?_
      refine y_zastN (pc := 24) (q := x.toNatClampNeg) d179_24 shL303 ((inW_c (n := 8) (by decide) c4).2) (by decide) ((inW_c (n := 8) (by decide) c4).1) ?_
      rw [nz1]
      refine x_aload_n (pc := 25) d179_25 rfl ?_
      refine y_getr (pc := 26) d179_26 fk9_86 shL280 rfl ?_
      refine x_iload_n (pc := 29) d179_29 rfl ?_
      refine x_lload_n (pc := 30) d179_30 rfl ?_
      refine y_lastN (pc := 31) (q := x.toNatClampNeg) d179_31 shL304 ((inW_c (n := 8) (by decide) c4).2) (by decide) ((inW_c (n := 8) (by decide) c4).1) ?_
      refine x_iconst (pc := 32) (v := (1)) d179_32 (by decide) ?_
      exact y_iret (pc := 33) d179_33 rfl (⟨by unfold mfillV; rw [if_neg (fun h => h.elim c4 (fun h => h c13))], by unfold mfillS; rw [if_neg (fun h => h.elim c4 (fun h => h c13))]⟩)
    · skip
      refine x_iconst (pc := 16) (v := (-1)) d179_16 (by decide) ?_
      exact y_iret (pc := 17) d179_17 rfl (⟨by unfold mfillV; rw [if_pos (Or.inr c13)], by unfold mfillS; rw [if_pos (Or.inr c13)]⟩)
set_option maxRecDepth 100000 in
theorem m_died (s : St) (x : Int32) : Rj 1 184 [.ref 280, .int x] s (fun v s1 => v = mdieV s x ∧ s1 = s) := by
  refine ct_of (by decide +kernel) (Nat.le_of_ble_eq_true rfl) ?_
  show Wp _ _ _ _ _ _ [(0, .ref 280), (1, .int x)] _ _ _
  refine x_iload_n (pc := 0) d184_0 rfl ?_
  refine y_cS1i (pc := 1) d184_1 ml9_419 mv157 (m_isThread s _) (by decide) (Nat.le_of_ble_eq_true rfl) ⟨Nat.zero_le _, Nat.zero_le _⟩ (fun v s hq => ?_)
  obtain ⟨rfl, rfl⟩ := hq
  refine x_if_eq (pc := 4) (tgt := 16) d184_4 (by decide) (fun c4 => ?_) (fun c4 => ?_)
  · skip
    refine x_lconst (pc := 16) (v := (0)) d184_16 (by decide) ?_
    exact y_lret (pc := 17) d184_17 rfl (⟨by unfold mdieV; rw [if_pos c4], rfl⟩)
  · skip
    refine x_aload_n (pc := 7) d184_7 rfl ?_
    refine y_getr (pc := 8) d184_8 fk9_101 shL280 rfl ?_
    refine x_iload_n (pc := 11) d184_11 rfl ?_
    refine y_laldN (pc := 12) (q := x.toNatClampNeg) d184_12 shL309 ((Nat.lt_trans (inW_c (n := 6) (by decide) c4).2 (by decide))) (by decide) ((inW_c (n := 6) (by decide) c4).1) ?_
    refine x_goto (pc := 13) (tgt := 17) d184_13 (by decide) ?_
    exact y_lret (pc := 17) d184_17 rfl (⟨by unfold mdieV; rw [if_neg c4], rfl⟩)
set_option maxRecDepth 100000 in
theorem m_local (s : St) (x y : Int32) : Rj 1 185 [.ref 280, .int x, .int y] s (fun v s1 => v = mlocV s x y ∧ s1 = s) := by
  refine ct_of (by decide +kernel) (Nat.le_of_ble_eq_true rfl) ?_
  show Wp _ _ _ _ _ _ [(0, .ref 280), (1, .int x), (2, .int y)] _ _ _
  refine x_iload_n (pc := 0) d185_0 rfl ?_
  refine y_cS1i (pc := 1) d185_1 ml9_419 mv157 (m_isThread s _) (by decide) (Nat.le_of_ble_eq_true rfl) ⟨Nat.zero_le _, Nat.zero_le _⟩ (fun v s hq => ?_)
  obtain ⟨rfl, rfl⟩ := hq
  refine x_if_eq (pc := 4) (tgt := 31) d185_4 (by decide) (fun c4 => ?_) (fun c4 => ?_)
  · skip
    refine x_lconst (pc := 31) (v := (0)) d185_31 (by decide) ?_
    exact y_lret (pc := 32) d185_32 rfl (⟨by unfold mlocV; rw [if_pos (Or.inl c4)], rfl⟩)
  · skip
    refine x_iload_n (pc := 7) d185_7 rfl ?_
    refine x_if_lt (pc := 8) (tgt := 31) d185_8 (by decide) (fun c8 => ?_) (fun c8 => ?_)
    · skip
      refine x_lconst (pc := 31) (v := (0)) d185_31 (by decide) ?_
      exact y_lret (pc := 32) d185_32 rfl (⟨by unfold mlocV; rw [if_pos (Or.inr (inW0a c8))], rfl⟩)
    · skip
      refine x_iload_n (pc := 11) d185_11 rfl ?_
      refine x_bipush (pc := 12) (v := (10)) d185_12 (by decide) ?_
      refine x_icmp_ge (pc := 14) (tgt := 31) d185_14 (by decide) (fun c14 => ?_) (fun c14 => ?_)
      · skip
        refine x_lconst (pc := 31) (v := (0)) d185_31 (by decide) ?_
        exact y_lret (pc := 32) d185_32 rfl (⟨by unfold mlocV; rw [if_pos (Or.inr (inW0b c8 c14))], rfl⟩)
      · skip
        refine x_aload_n (pc := 17) d185_17 rfl ?_
        refine y_getr (pc := 18) d185_18 fk9_104 shL280 rfl ?_
        refine x_bipush (pc := 21) (v := (10)) d185_21 (by decide) ?_
        refine x_iload_n (pc := 23) d185_23 rfl ?_
        refine x_imul (pc := 24) d185_24 ?_
        refine x_iload_n (pc := 25) d185_25 rfl ?_
        refine x_iadd (pc := 26) d185_26 ?_
        refine y_laldN (pc := 27) (q := 10 * x.toNatClampNeg + y.toNatClampNeg) d185_27 shL310 (by have h1 := (inW_c (n := 6) (by decide) c4).2; have h2 := (inW_c (n := 10) (by decide) (by rw [inW1 c8 (show ¬ nI 10 ≤ y from c14)]; decide)).2; omega) (by decide) (nmul 10 (inW_c (n := 6) (by decide) c4).1 (inW_c (n := 10) (by decide) (by rw [inW1 c8 (show ¬ nI 10 ≤ y from c14)]; decide)).1) ?_
        refine x_goto (pc := 28) (tgt := 32) d185_28 (by decide) ?_
        exact y_lret (pc := 32) d185_32 rfl (⟨by unfold mlocV; rw [if_neg (fun h => h.elim c4 (fun h => absurd h (by rw [inW1 c8 c14]; decide)))], rfl⟩)
def mrowV (s : St) (x y z : Int32) : Int32 := if mirV s x y = 0 ∨ z < 0 ∨ ¬ z ≤ 1 then -1 else if z = 0 then s.1 256 0 (32 * x.toNatClampNeg + y.toNatClampNeg) else if s.1 256 0 (32 * x.toNatClampNeg + y.toNatClampNeg) = 7 then s.1 258 0 (32 * x.toNatClampNeg + y.toNatClampNeg) + 1 else 0
def mvalV (s : St) (x y : Int32) : Int64 := if mirV s x y = 0 then 0 else s.2 257 0 (32 * x.toNatClampNeg + y.toNatClampNeg)
def mC (s : St) : Prop := ∀ t, t < 6 → okN 33 (s.1 255 0 t)
theorem mir_c {s : St} {x y : Int32} (hC : mC s) (h : ¬ mirV s x y = 0) : (x = nI x.toNatClampNeg ∧ x.toNatClampNeg < 6) ∧ (y = nI y.toNatClampNeg ∧ y.toNatClampNeg < 32) := by
  unfold mirV at h
  by_cases h1 : inW x 6 = 0
  · rw [if_pos h1] at h; exact absurd rfl h
  rw [if_neg h1] at h
  have hx := inW_c (n := 6) (by decide) h1
  obtain ⟨q, hq, e⟩ := hC x.toNatClampNeg (by omega)
  rw [e] at h
  have h2 := inW_c (by omega) h
  exact ⟨hx, h2.1, by omega⟩
set_option maxRecDepth 100000 in
theorem m_row (s : St) (x y z : Int32) (hC : mC s) : Ri 2 186 [.ref 280, .int x, .int y, .int z] s (fun v s1 => v = mrowV s x y z ∧ s1 = s) := by
  refine ct_of (by decide +kernel) (Nat.le_of_ble_eq_true rfl) ?_
  show Wp _ _ _ _ _ _ [(0, .ref 280), (1, .int x), (2, .int y), (3, .int z)] _ _ _
  refine x_aload_n (pc := 0) d186_0 rfl ?_
  refine x_iload_n (pc := 1) d186_1 rfl ?_
  refine x_iload_n (pc := 2) d186_2 rfl ?_
  refine y_cV2i (pc := 3) d186_3 ml9_432 mv187 shL280 (m_isInRow s _ _) (by decide) (Nat.le_of_ble_eq_true rfl) ⟨Nat.zero_le _, Nat.zero_le _⟩ (fun v s hq => ?_)
  obtain ⟨rfl, rfl⟩ := hq
  refine x_if_eq (pc := 6) (tgt := 18) d186_6 (by decide) (fun c6 => ?_) (fun c6 => ?_)
  · skip
    refine x_iconst (pc := 18) (v := (-1)) d186_18 (by decide) ?_
    exact y_iret (pc := 19) d186_19 rfl (⟨by unfold mrowV; rw [if_pos (Or.inl c6)], rfl⟩)
  · skip
    refine x_iload_n (pc := 9) d186_9 rfl ?_
    refine x_if_lt (pc := 10) (tgt := 18) d186_10 (by decide) (fun c10 => ?_) (fun c10 => ?_)
    · skip
      refine x_iconst (pc := 18) (v := (-1)) d186_18 (by decide) ?_
      exact y_iret (pc := 19) d186_19 rfl (⟨by unfold mrowV; rw [if_pos (Or.inr (Or.inl c10))], rfl⟩)
    · skip
      refine x_iload_n (pc := 13) d186_13 rfl ?_
      refine x_iconst (pc := 14) (v := (1)) d186_14 (by decide) ?_
      refine x_icmp_le (pc := 15) (tgt := 20) d186_15 (by decide) (fun c15 => ?_) (fun c15 => ?_)
      · skip
        refine x_bipush (pc := 20) (v := (32)) d186_20 (by decide) ?_
        refine x_iload_n (pc := 22) d186_22 rfl ?_
        refine x_imul (pc := 23) d186_23 ?_
        refine x_iload_n (pc := 24) d186_24 rfl ?_
        refine x_iadd (pc := 25) d186_25 ?_
        rw [show (32 : Int32) * x + y = nI (32 * x.toNatClampNeg + y.toNatClampNeg) from nmul 32 (mir_c hC c6).1.1 (mir_c hC c6).2.1]
        refine x_istore (pc := 26) d186_26 (by decide) ?_
        refine x_iload_n (pc := 28) d186_28 rfl ?_
        refine x_if_ne (pc := 29) (tgt := 42) d186_29 (by decide) (fun c29 => ?_) (fun c29 => ?_)
        · skip
          refine x_aload_n (pc := 42) d186_42 rfl ?_
          refine y_getr (pc := 43) d186_43 fk9_137 shL280 rfl ?_
          refine x_iload (pc := 46) d186_46 rfl ?_
          refine y_ialdN (pc := 48) (q := 32 * x.toNatClampNeg + y.toNatClampNeg) d186_48 shL321 (by have h1 := (mir_c hC c6).1.2; have h2 := (mir_c hC c6).2.2; omega) (by decide) (rfl) ?_
          refine x_bipush (pc := 49) (v := (7)) d186_49 (by decide) ?_
          refine x_icmp_ne (pc := 51) (tgt := 66) d186_51 (by decide) (fun c51 => ?_) (fun c51 => ?_)
          · skip
            refine x_iconst (pc := 66) (v := (0)) d186_66 (by decide) ?_
            exact y_iret (pc := 67) d186_67 rfl (⟨by unfold mrowV; rw [if_neg (fun h => h.elim c6 (fun h => h.elim c10 (fun h => h c15))), if_neg c29, if_neg c51], rfl⟩)
          · skip
            refine x_aload_n (pc := 54) d186_54 rfl ?_
            refine y_getr (pc := 55) d186_55 fk9_143 shL280 rfl ?_
            refine x_iload (pc := 58) d186_58 rfl ?_
            refine y_ialdN (pc := 60) (q := 32 * x.toNatClampNeg + y.toNatClampNeg) d186_60 shL323 (by have h1 := (mir_c hC c6).1.2; have h2 := (mir_c hC c6).2.2; omega) (by decide) (rfl) ?_
            refine x_iconst (pc := 61) (v := (1)) d186_61 (by decide) ?_
            refine x_iadd (pc := 62) d186_62 ?_
            refine x_goto (pc := 63) (tgt := 67) d186_63 (by decide) ?_
            exact y_iret (pc := 67) d186_67 rfl (⟨by unfold mrowV; rw [if_neg (fun h => h.elim c6 (fun h => h.elim c10 (fun h => h c15))), if_neg c29, if_pos c51], rfl⟩)
        · skip
          refine x_aload_n (pc := 32) d186_32 rfl ?_
          refine y_getr (pc := 33) d186_33 fk9_137 shL280 rfl ?_
          refine x_iload (pc := 36) d186_36 rfl ?_
          refine y_ialdN (pc := 38) (q := 32 * x.toNatClampNeg + y.toNatClampNeg) d186_38 shL321 (by have h1 := (mir_c hC c6).1.2; have h2 := (mir_c hC c6).2.2; omega) (by decide) (rfl) ?_
          refine x_goto (pc := 39) (tgt := 67) d186_39 (by decide) ?_
          exact y_iret (pc := 67) d186_67 rfl (⟨by unfold mrowV; rw [if_neg (fun h => h.elim c6 (fun h => h.elim c10 (fun h => h c15))), if_pos c29], rfl⟩)
      · skip
        refine x_iconst (pc := 18) (v := (-1)) d186_18 (by decide) ?_
        exact y_iret (pc := 19) d186_19 rfl (⟨by unfold mrowV; rw [if_pos (Or.inr (Or.inr c15))], rfl⟩)
set_option maxRecDepth 100000 in
theorem m_value (s : St) (x y : Int32) (hC : mC s) : Rj 2 188 [.ref 280, .int x, .int y] s (fun v s1 => v = mvalV s x y ∧ s1 = s) := by
  refine ct_of (by decide +kernel) (Nat.le_of_ble_eq_true rfl) ?_
  show Wp _ _ _ _ _ _ [(0, .ref 280), (1, .int x), (2, .int y)] _ _ _
  refine x_aload_n (pc := 0) d188_0 rfl ?_
  refine x_iload_n (pc := 1) d188_1 rfl ?_
  refine x_iload_n (pc := 2) d188_2 rfl ?_
  refine y_cV2i (pc := 3) d188_3 ml9_432 mv187 shL280 (m_isInRow s _ _) (by decide) (Nat.le_of_ble_eq_true rfl) ⟨Nat.zero_le _, Nat.zero_le _⟩ (fun v s hq => ?_)
  obtain ⟨rfl, rfl⟩ := hq
  refine x_if_eq (pc := 6) (tgt := 23) d188_6 (by decide) (fun c6 => ?_) (fun c6 => ?_)
  · skip
    refine x_lconst (pc := 23) (v := (0)) d188_23 (by decide) ?_
    exact y_lret (pc := 24) d188_24 rfl (⟨by unfold mvalV; rw [if_pos c6], rfl⟩)
  · skip
    refine x_aload_n (pc := 9) d188_9 rfl ?_
    refine y_getr (pc := 10) d188_10 fk9_140 shL280 rfl ?_
    refine x_bipush (pc := 13) (v := (32)) d188_13 (by decide) ?_
    refine x_iload_n (pc := 15) d188_15 rfl ?_
    refine x_imul (pc := 16) d188_16 ?_
    refine x_iload_n (pc := 17) d188_17 rfl ?_
    refine x_iadd (pc := 18) d188_18 ?_
    refine y_laldN (pc := 19) (q := 32 * x.toNatClampNeg + y.toNatClampNeg) d188_19 shL322 (by have h1 := (mir_c hC c6).1.2; have h2 := (mir_c hC c6).2.2; omega) (by decide) (nmul 32 (mir_c hC c6).1.1 (mir_c hC c6).2.1) ?_
    refine x_goto (pc := 20) (tgt := 24) d188_20 (by decide) ?_
    exact y_lret (pc := 24) d188_24 rfl (⟨by unfold mvalV; rw [if_neg c6], rfl⟩)
theorem mx_le {x y : Int32} (h : x ≤ y) : y = mx x y := by
  unfold mx
  by_cases h1 : x < y
  · rw [if_pos h1]
  · rw [if_neg h1]; exact Int32.le_antisymm (Int32.not_lt.mp h1) h
theorem mx_gt {x y : Int32} (h : ¬ x ≤ y) : x = mx x y := by
  unfold mx; rw [if_neg (Int32.not_lt.mpr (Int32.le_of_lt (Int32.not_le.mp h)))]
set_option maxRecDepth 100000 in
theorem m_atLeast (s : St) (x y : Int32) : Ri 0 168 [.int x, .int y] s (fun v s1 => v = mx x y ∧ s1 = s) := by
  refine ct_of (by decide +kernel) (Nat.le_of_ble_eq_true rfl) ?_
  show Wp _ _ _ _ _ _ [(0, .int x), (1, .int y)] _ _ _
  refine x_iload_n (pc := 0) d168_0 rfl ?_
  refine x_iload_n (pc := 1) d168_1 rfl ?_
  refine x_icmp_le (pc := 2) (tgt := 9) d168_2 (by decide) (fun c2 => ?_) (fun c2 => ?_)
  · skip
    refine x_iload_n (pc := 9) d168_9 rfl ?_
    exact y_iret (pc := 10) d168_10 rfl (⟨mx_le c2, rfl⟩)
  · skip
    refine x_iload_n (pc := 5) d168_5 rfl ?_
    refine x_goto (pc := 6) (tgt := 10) d168_6 (by decide) ?_
    exact y_iret (pc := 10) d168_10 rfl (⟨mx_gt c2, rfl⟩)
set_option maxRecDepth 100000 in
theorem m_thrown (s : St) (x : Int32) : Ri 0 171 [.ref 280, .int x] s (fun v s1 => v = (if x = 0 then 3 else 1) ∧ s1 = s) := by
  refine ct_of (by decide +kernel) (Nat.le_of_ble_eq_true rfl) ?_
  show Wp _ _ _ _ _ _ [(0, .ref 280), (1, .int x)] _ _ _
  refine x_iload_n (pc := 0) d171_0 rfl ?_
  refine x_if_eq (pc := 1) (tgt := 8) d171_1 (by decide) (fun c1 => ?_) (fun c1 => ?_)
  · skip
    refine x_iconst (pc := 8) (v := (3)) d171_8 (by decide) ?_
    exact y_iret (pc := 9) d171_9 rfl (⟨by rw [if_pos c1], rfl⟩)
  · skip
    refine x_iconst (pc := 4) (v := (1)) d171_4 (by decide) ?_
    refine x_goto (pc := 5) (tgt := 9) d171_5 (by decide) ?_
    exact y_iret (pc := 9) d171_9 rfl (⟨by rw [if_neg c1], rfl⟩)
