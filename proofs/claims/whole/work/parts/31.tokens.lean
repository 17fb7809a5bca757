/-! the class's tokens; text() -/
def k_isLetter_16 (s : St) : Option (Int32 × St) := some ((0 : Int32), s)
set_option maxRecDepth 100000 in
theorem t_k_isLetter_16 {r : Int32 × St} : ∀ (s : St), k_isLetter_16 s = some r → Wp (rmd 0 0 0) 16 (zi (fun v s1 => (v, s1) = r)) 0 0 16 [] [] (mk s) TT := by
  intro s h
  unfold k_isLetter_16 at h
  refine x_iconst (pc := 16) (v := (0)) d16_16 (by decide) ?_
  exact z_zretc (pc := 17) d16_17 rfl (Or.inl rfl) h
def k_isLetter (a0 : Int32) (s : St) : Option (Int32 × St) := if a0 < (97 : Int32) then (k_isLetter_16 s) else (if (122 : Int32) < a0 then (k_isLetter_16 s) else (some ((1 : Int32), s)))
set_option maxRecDepth 100000 in
theorem t_k_isLetter (a0 : Int32) (s : St) (r : Int32 × St) (h : k_isLetter a0 s = some r) : Ri 0 16 [.int a0] s (fun v s1 => (v, s1) = r) := by
  refine ct_of (by decide +kernel) (Nat.le_of_ble_eq_true rfl) ?_
  show Wp _ _ _ _ _ _ [(0, .int a0)] _ _ _
  unfold k_isLetter at h
  refine x_iload_n (pc := 0) d16_0 rfl ?_
  refine x_bipush (pc := 1) (v := (97)) d16_1 (by decide) ?_
  refine z_icmp_lt (pc := 3) (tgt := 16) d16_3 (by decide) h (fun h => ?_) (fun h => ?_)
  · skip
    refine wp_lv (lv' := []) trivial ?_
    exact t_k_isLetter_16 s h
  · skip
    refine x_iload_n (pc := 6) d16_6 rfl ?_
    refine x_bipush (pc := 7) (v := (122)) d16_7 (by decide) ?_
    refine z_icmp_gt (pc := 9) (tgt := 16) d16_9 (by decide) h (fun h => ?_) (fun h => ?_)
    · skip
      refine wp_lv (lv' := []) trivial ?_
      exact t_k_isLetter_16 s h
    · skip
      refine x_iconst (pc := 12) (v := (1)) d16_12 (by decide) ?_
      refine x_goto (pc := 13) (tgt := 17) d16_13 (by decide) ?_
      exact z_zretc (pc := 17) d16_17 rfl (Or.inr rfl) h
def k_isDigit_16 (s : St) : Option (Int32 × St) := some ((0 : Int32), s)
set_option maxRecDepth 100000 in
theorem t_k_isDigit_16 {r : Int32 × St} : ∀ (s : St), k_isDigit_16 s = some r → Wp (rmd 0 0 0) 30 (zi (fun v s1 => (v, s1) = r)) 0 0 16 [] [] (mk s) TT := by
  intro s h
  unfold k_isDigit_16 at h
  refine x_iconst (pc := 16) (v := (0)) d30_16 (by decide) ?_
  exact z_zretc (pc := 17) d30_17 rfl (Or.inl rfl) h
def k_isDigit (a0 : Int32) (s : St) : Option (Int32 × St) := if a0 < (48 : Int32) then (k_isDigit_16 s) else (if (57 : Int32) < a0 then (k_isDigit_16 s) else (some ((1 : Int32), s)))
set_option maxRecDepth 100000 in
theorem t_k_isDigit (a0 : Int32) (s : St) (r : Int32 × St) (h : k_isDigit a0 s = some r) : Ri 0 30 [.int a0] s (fun v s1 => (v, s1) = r) := by
  refine ct_of (by decide +kernel) (Nat.le_of_ble_eq_true rfl) ?_
  show Wp _ _ _ _ _ _ [(0, .int a0)] _ _ _
  unfold k_isDigit at h
  refine x_iload_n (pc := 0) d30_0 rfl ?_
  refine x_bipush (pc := 1) (v := (48)) d30_1 (by decide) ?_
  refine z_icmp_lt (pc := 3) (tgt := 16) d30_3 (by decide) h (fun h => ?_) (fun h => ?_)
  · skip
    refine wp_lv (lv' := []) trivial ?_
    exact t_k_isDigit_16 s h
  · skip
    refine x_iload_n (pc := 6) d30_6 rfl ?_
    refine x_bipush (pc := 7) (v := (57)) d30_7 (by decide) ?_
    refine z_icmp_gt (pc := 9) (tgt := 16) d30_9 (by decide) h (fun h => ?_) (fun h => ?_)
    · skip
      refine wp_lv (lv' := []) trivial ?_
      exact t_k_isDigit_16 s h
    · skip
      refine x_iconst (pc := 12) (v := (1)) d30_12 (by decide) ?_
      refine x_goto (pc := 13) (tgt := 17) d30_13 (by decide) ?_
      exact z_zretc (pc := 17) d30_17 rfl (Or.inr rfl) h
def k_isSign_2 : Nat → Int32 → Int32 → St → Option (Int32 × St)
  | 0, _, _, _ => none
  | n + 1, x0, x1, s => if (nI (sN 1)) ≤ x1 then (some ((0 : Int32), s)) else (grd (ib x1 (sN 1)) (sB 1 x1.toNatClampNeg) fun v1 => if v1 = x0 then (some ((1 : Int32), s)) else (k_isSign_2 n x0 (x1 + (1 : Int32)) s))
set_option maxRecDepth 100000 in
theorem t_k_isSign_2 {r : Int32 × St} : ∀ (n : Nat) (x0 : Int32) (x1 : Int32) (s : St), k_isSign_2 n x0 x1 s = some r → Wp (rmd 4 0 0) 32 (zi (fun v s1 => (v, s1) = r)) 0 0 2 [(0, .int x0), (1, .int x1)] [] (mk s) TT := by
  intro n
  induction n with
  | zero =>
    intro x0 x1 s h
    rw [k_isSign_2.eq_1] at h
    cases h
  | succ n ih =>
    intro x0 x1 s h
    rw [k_isSign_2.eq_2] at h
    refine x_iload_n (pc := 2) d32_2 rfl ?_
    refine x_ldcS (i := 1) (pc := 3) (by decide) rfl d32_3 ?_
    refine x_slen (i := 1) (pc := 5) (by decide) d32_5 ml6_64 (by decide) (Nat.le_of_ble_eq_true rfl) ⟨Nat.zero_le _, Nat.zero_le _⟩ ?_
    refine z_icmp_ge (pc := 8) (tgt := 29) d32_8 (by decide) h (fun h => ?_) (fun h => ?_)
    · skip
      refine x_iconst (pc := 29) (v := (0)) d32_29 (by decide) ?_
      exact z_zretc (pc := 30) d32_30 rfl (Or.inl rfl) h
    · skip
      refine x_ldcS (i := 1) (pc := 11) (by decide) rfl d32_11 ?_
      refine x_iload_n (pc := 13) d32_13 rfl ?_
      refine z_charAt (i := 1) (pc := 14) (by decide) d32_14 ml6_56 (by decide) (Nat.le_of_ble_eq_true rfl) ⟨Nat.zero_le _, Nat.zero_le _⟩ h (fun v1 h => ?_)
      refine x_iload_n (pc := 17) d32_17 rfl ?_
      refine z_icmp_ne (pc := 18) (tgt := 23) d32_18 (by decide) h (fun h => ?_) (fun h => ?_)
      · skip
        refine y_inc (pc := 23) (c := (1)) d32_23 (by decide) (by decide) rfl ?_
        refine x_goto (pc := 26) (tgt := 2) d32_26 (by decide) ?_
        refine wp_lv (lv' := [(0, .int x0), (1, .int (x1 + (1 : Int32)))]) ⟨rfl, rfl, trivial⟩ ?_
        exact ih x0 (x1 + (1 : Int32)) s h
      · skip
        refine x_iconst (pc := 21) (v := (1)) d32_21 (by decide) ?_
        exact z_zretc (pc := 22) d32_22 rfl (Or.inr rfl) h
def k_isSign (a0 : Int32) (s : St) : Option (Int32 × St) := k_isSign_2 20 a0 (0 : Int32) s
set_option maxRecDepth 100000 in
theorem t_k_isSign (a0 : Int32) (s : St) (r : Int32 × St) (h : k_isSign a0 s = some r) : Ri 4 32 [.int a0] s (fun v s1 => (v, s1) = r) := by
  refine ct_of (by decide +kernel) (Nat.le_of_ble_eq_true rfl) ?_
  show Wp _ _ _ _ _ _ [(0, .int a0)] _ _ _
  unfold k_isSign at h
  refine x_iconst (pc := 0) (v := (0)) d32_0 (by decide) ?_
  refine x_istore_n (pc := 1) d32_1 (by decide) ?_
  refine wp_lv (lv' := [(0, .int a0), (1, .int (0 : Int32))]) ⟨rfl, rfl, trivial⟩ ?_
  exact t_k_isSign_2 20 a0 (0 : Int32) s h
def k_isSpelled_29 (K3 : Int32 → Int32 → Int32 → Int32 → St → Option (Int32 × St)) (x0 : Int32) (x2 : Int32) (x3 : Int32) (x4 : Int32) (y0 : Int32) (s : St) : Option (Int32 × St) := grd (ib (x0 + x4) (sN 0)) (sB 0 (x0 + x4).toNatClampNeg) fun v1 => if v1 = y0 then (K3 x0 x2 x3 (x4 + (1 : Int32)) s) else (some ((0 : Int32), s))
set_option maxRecDepth 100000 in
theorem t_k_isSpelled_29 {r : Int32 × St} (K3 : Int32 → Int32 → Int32 → Int32 → St → Option (Int32 × St)) (hK3 : ∀ (x0 : Int32) (x2 : Int32) (x3 : Int32) (x4 : Int32) (s : St), K3 x0 x2 x3 x4 s = some r → Wp (rmd 4 0 0) 19 (zi (fun v s1 => (v, s1) = r)) 0 0 3 [(0, .int x0), (1, .ref 4), (2, .int x2), (3, .int x3), (4, .int x4)] [] (mk s) TT) : ∀ (x0 : Int32) (x2 : Int32) (x3 : Int32) (x4 : Int32) (y0 : Int32) (s : St), k_isSpelled_29 K3 x0 x2 x3 x4 y0 s = some r → Wp (rmd 4 0 0) 19 (zi (fun v s1 => (v, s1) = r)) 0 0 29 [(0, .int x0), (1, .ref 4), (2, .int x2), (3, .int x3), (4, .int x4)] [.int y0] (mk s) TT := by
  intro x0 x2 x3 x4 y0 s h
  unfold k_isSpelled_29 at h
  refine x_istore (pc := 29) d19_29 (by decide) ?_
  refine x_ldcS (i := 0) (pc := 31) (by decide) rfl d19_31 ?_
  refine x_iload_n (pc := 33) d19_33 rfl ?_
  refine x_iload (pc := 34) d19_34 rfl ?_
  refine x_iadd (pc := 36) d19_36 ?_
  refine z_charAt (i := 0) (pc := 37) (by decide) d19_37 ml6_56 (by decide) (Nat.le_of_ble_eq_true rfl) ⟨Nat.zero_le _, Nat.zero_le _⟩ h (fun v1 h => ?_)
  refine x_iload (pc := 40) d19_40 rfl ?_
  refine z_icmp_eq (pc := 42) (tgt := 47) d19_42 (by decide) h (fun h => ?_) (fun h => ?_)
  · skip
    refine y_inc (pc := 47) (c := (1)) d19_47 (by decide) (by decide) rfl ?_
    refine x_goto (pc := 50) (tgt := 3) d19_50 (by decide) ?_
    refine wp_lv (lv' := [(0, .int x0), (1, .ref 4), (2, .int x2), (3, .int x3), (4, .int (x4 + (1 : Int32)))]) ⟨rfl, rfl, rfl, rfl, rfl, trivial⟩ ?_
    exact hK3 x0 x2 x3 (x4 + (1 : Int32)) s h
  · skip
    refine x_iconst (pc := 45) (v := (0)) d19_45 (by decide) ?_
    exact z_zretc (pc := 46) d19_46 rfl (Or.inl rfl) h
def k_isSpelled_3 : Nat → Int32 → Int32 → Int32 → Int32 → St → Option (Int32 × St)
  | 0, _, _, _, _, _ => none
  | n + 1, x0, x2, x3, x4, s => if (6 : Int32) ≤ x4 then (some ((1 : Int32), s)) else (if x3 ≤ (x2 + x4) then (k_isSpelled_29 (k_isSpelled_3 n) x0 x2 x3 x4 (32 : Int32) s) else (grd (ib (x2 + x4) 800) (s.1 128 0 (x2 + x4).toNatClampNeg) fun v2 => k_isSpelled_29 (k_isSpelled_3 n) x0 x2 x3 x4 v2 s))
set_option maxRecDepth 100000 in
theorem t_k_isSpelled_3 {r : Int32 × St} : ∀ (n : Nat) (x0 : Int32) (x2 : Int32) (x3 : Int32) (x4 : Int32) (s : St), k_isSpelled_3 n x0 x2 x3 x4 s = some r → Wp (rmd 4 0 0) 19 (zi (fun v s1 => (v, s1) = r)) 0 0 3 [(0, .int x0), (1, .ref 4), (2, .int x2), (3, .int x3), (4, .int x4)] [] (mk s) TT := by
  intro n
  induction n with
  | zero =>
    intro x0 x2 x3 x4 s h
    rw [k_isSpelled_3.eq_1] at h
    cases h
  | succ n ih =>
    intro x0 x2 x3 x4 s h
    rw [k_isSpelled_3.eq_2] at h
    refine x_iload (pc := 3) d19_3 rfl ?_
    refine x_bipush (pc := 5) (v := (6)) d19_5 (by decide) ?_
    refine z_icmp_ge (pc := 7) (tgt := 53) d19_7 (by decide) h (fun h => ?_) (fun h => ?_)
    · skip
      refine x_iconst (pc := 53) (v := (1)) d19_53 (by decide) ?_
      exact z_zretc (pc := 54) d19_54 rfl (Or.inr rfl) h
    · skip
      refine x_iload_n (pc := 10) d19_10 rfl ?_
      refine x_iload (pc := 11) d19_11 rfl ?_
      refine x_iadd (pc := 13) d19_13 ?_
      refine x_iload_n (pc := 14) d19_14 rfl ?_
      refine z_icmp_ge (pc := 15) (tgt := 27) d19_15 (by decide) h (fun h => ?_) (fun h => ?_)
      · skip
        refine x_bipush (pc := 27) (v := (32)) d19_27 (by decide) ?_
        refine wp_lv (lv' := [(0, .int x0), (1, .ref 4), (2, .int x2), (3, .int x3), (4, .int x4)]) ⟨rfl, rfl, rfl, rfl, rfl, trivial⟩ ?_
        exact t_k_isSpelled_29 (k_isSpelled_3 n) ih x0 x2 x3 x4 (32 : Int32) s h
      · skip
        refine x_aload_n (pc := 18) d19_18 rfl ?_
        refine x_iload_n (pc := 19) d19_19 rfl ?_
        refine x_iload (pc := 20) d19_20 rfl ?_
        refine x_iadd (pc := 22) d19_22 ?_
        refine z_iald (pc := 23) d19_23 shL4 (by decide) h (fun v2 h => ?_)
        refine x_goto (pc := 24) (tgt := 29) d19_24 (by decide) ?_
        refine wp_lv (lv' := [(0, .int x0), (1, .ref 4), (2, .int x2), (3, .int x3), (4, .int x4)]) ⟨rfl, rfl, rfl, rfl, rfl, trivial⟩ ?_
        exact t_k_isSpelled_29 (k_isSpelled_3 n) ih x0 x2 x3 x4 v2 s h
def k_isSpelled (a0 : Int32) (a2 : Int32) (a3 : Int32) (s : St) : Option (Int32 × St) := k_isSpelled_3 20 a0 a2 a3 (0 : Int32) s
set_option maxRecDepth 100000 in
theorem t_k_isSpelled (a0 : Int32) (a2 : Int32) (a3 : Int32) (s : St) (r : Int32 × St) (h : k_isSpelled a0 a2 a3 s = some r) : Ri 4 19 [.int a0, .ref 4, .int a2, .int a3] s (fun v s1 => (v, s1) = r) := by
  refine ct_of (by decide +kernel) (Nat.le_of_ble_eq_true rfl) ?_
  show Wp _ _ _ _ _ _ [(0, .int a0), (1, .ref 4), (2, .int a2), (3, .int a3)] _ _ _
  unfold k_isSpelled at h
  refine x_iconst (pc := 0) (v := (0)) d19_0 (by decide) ?_
  refine x_istore (pc := 1) d19_1 (by decide) ?_
  refine wp_lv (lv' := [(0, .int a0), (1, .ref 4), (2, .int a2), (3, .int a3), (4, .int (0 : Int32))]) ⟨rfl, rfl, rfl, rfl, rfl, trivial⟩ ?_
  exact t_k_isSpelled_3 20 a0 a2 a3 (0 : Int32) s h
def k_wordKind_12 : Nat → Int32 → Int32 → Int32 → St → Option (Int32 × St)
  | 0, _, _, _, _ => none
  | n + 1, x1, x2, x3, s => if (19 : Int32) ≤ x3 then (some ((1 : Int32), s)) else (cal2 (k_isSpelled (x3 * (6 : Int32)) x1 x2 s) fun v2 s1 => if v2 = 0 then (k_wordKind_12 n x1 x2 (x3 + (1 : Int32)) s1) else (some (((5 : Int32) + x3), s1)))
set_option maxRecDepth 100000 in
theorem t_k_wordKind_12 {r : Int32 × St} : ∀ (n : Nat) (x1 : Int32) (x2 : Int32) (x3 : Int32) (s : St), k_wordKind_12 n x1 x2 x3 s = some r → Wp (rmd 5 0 0) 18 (zi (fun v s1 => (v, s1) = r)) 0 0 12 [(0, .ref 4), (1, .int x1), (2, .int x2), (3, .int x3)] [] (mk s) TT := by
  intro n
  induction n with
  | zero =>
    intro x1 x2 x3 s h
    rw [k_wordKind_12.eq_1] at h
    cases h
  | succ n ih =>
    intro x1 x2 x3 s h
    rw [k_wordKind_12.eq_2] at h
    refine x_iload_n (pc := 12) d18_12 rfl ?_
    refine x_bipush (pc := 13) (v := (19)) d18_13 (by decide) ?_
    refine z_icmp_ge (pc := 15) (tgt := 41) d18_15 (by decide) h (fun h => ?_) (fun h => ?_)
    · skip
      refine x_iconst (pc := 41) (v := (1)) d18_41 (by decide) ?_
      exact z_iret (pc := 42) d18_42 rfl h
    · skip
      refine x_iload_n (pc := 18) d18_18 rfl ?_
      refine x_bipush (pc := 19) (v := (6)) d18_19 (by decide) ?_
      refine x_imul (pc := 21) d18_21 ?_
      refine x_aload_n (pc := 22) d18_22 rfl ?_
      refine x_iload_n (pc := 23) d18_23 rfl ?_
      refine x_iload_n (pc := 24) d18_24 rfl ?_
      refine z_cS4i (pc := 25) d18_25 ml6_50 mv19 (t_k_isSpelled (x3 * (6 : Int32)) x1 x2 s) (by decide) (Nat.le_of_ble_eq_true rfl) ⟨Nat.zero_le _, Nat.zero_le _⟩ h (fun v2 s1 h => ?_)
      refine z_if_eq (pc := 28) (tgt := 35) d18_28 (by decide) h (fun h => ?_) (fun h => ?_)
      · skip
        refine y_inc (pc := 35) (c := (1)) d18_35 (by decide) (by decide) rfl ?_
        refine x_goto (pc := 38) (tgt := 12) d18_38 (by decide) ?_
        refine wp_lv (lv' := [(0, .ref 4), (1, .int x1), (2, .int x2), (3, .int (x3 + (1 : Int32)))]) ⟨rfl, rfl, rfl, rfl, trivial⟩ ?_
        exact ih x1 x2 (x3 + (1 : Int32)) s1 h
      · skip
        refine x_iconst (pc := 31) (v := (5)) d18_31 (by decide) ?_
        refine x_iload_n (pc := 32) d18_32 rfl ?_
        refine x_iadd (pc := 33) d18_33 ?_
        exact z_iret (pc := 34) d18_34 rfl h
def k_wordKind (a1 : Int32) (a2 : Int32) (s : St) : Option (Int32 × St) := if (a2 - a1) ≤ (6 : Int32) then (k_wordKind_12 30 a1 a2 (0 : Int32) s) else (some ((1 : Int32), s))
set_option maxRecDepth 100000 in
theorem t_k_wordKind (a1 : Int32) (a2 : Int32) (s : St) (r : Int32 × St) (h : k_wordKind a1 a2 s = some r) : Ri 5 18 [.ref 4, .int a1, .int a2] s (fun v s1 => (v, s1) = r) := by
  refine ct_of (by decide +kernel) (Nat.le_of_ble_eq_true rfl) ?_
  show Wp _ _ _ _ _ _ [(0, .ref 4), (1, .int a1), (2, .int a2)] _ _ _
  unfold k_wordKind at h
  refine x_iload_n (pc := 0) d18_0 rfl ?_
  refine x_iload_n (pc := 1) d18_1 rfl ?_
  refine x_isub (pc := 2) d18_2 ?_
  refine x_bipush (pc := 3) (v := (6)) d18_3 (by decide) ?_
  refine z_icmp_le (pc := 5) (tgt := 10) d18_5 (by decide) h (fun h => ?_) (fun h => ?_)
  · skip
    refine x_iconst (pc := 10) (v := (0)) d18_10 (by decide) ?_
    refine x_istore_n (pc := 11) d18_11 (by decide) ?_
    refine wp_lv (lv' := [(0, .ref 4), (1, .int a1), (2, .int a2), (3, .int (0 : Int32))]) ⟨rfl, rfl, rfl, rfl, trivial⟩ ?_
    exact t_k_wordKind_12 30 a1 a2 (0 : Int32) s h
  · skip
    refine x_iconst (pc := 8) (v := (1)) d18_8 (by decide) ?_
    exact z_iret (pc := 9) d18_9 rfl h
def k_addToken (a0 : Int32) (a1 : Int32) (a2 : Int32) (s : St) : Option (St) := bnd (s.1 99 0 0) fun v1 => grd (ib v1 801) (si s 96 0 v1.toNatClampNeg a0) fun s2 => bnd (s2.1 99 0 0) fun v3 => grd (ib v3 801) (si s2 97 0 v3.toNatClampNeg a1) fun s4 => bnd (s4.1 99 0 0) fun v5 => grd (ib v5 801) (si s4 98 0 v5.toNatClampNeg a2) fun s6 => bnd (s6.1 99 0 0) fun v7 => bnd (si s6 99 0 0 (v7 + (1 : Int32))) fun s8 => some s8
set_option maxRecDepth 100000 in
theorem t_k_addToken (a0 : Int32) (a1 : Int32) (a2 : Int32) (s : St) (r : St) (h : k_addToken a0 a1 a2 s = some r) : Rv 0 29 [.ref 6, .int a0, .int a1, .int a2] s (fun s1 => s1 = r) := by
  refine ct_of (by decide +kernel) (Nat.le_of_ble_eq_true rfl) ?_
  show Wp _ _ _ _ _ _ [(0, .ref 6), (1, .int a0), (2, .int a1), (3, .int a2)] _ _ _
  unfold k_addToken at h
  refine x_aload_n (pc := 0) d29_0 rfl ?_
  refine y_getr (pc := 1) d29_1 fk6_9 shL6 rfl ?_
  refine x_aload_n (pc := 4) d29_4 rfl ?_
  refine z_geti (pc := 5) d29_5 fk6_21 shL6 rfl h (fun v1 h => ?_)
  refine x_iload_n (pc := 8) d29_8 rfl ?_
  refine z_iast (pc := 9) d29_9 shL7 (by decide) h (fun s2 h => ?_)
  refine x_aload_n (pc := 10) d29_10 rfl ?_
  refine y_getr (pc := 11) d29_11 fk6_15 shL6 rfl ?_
  refine x_aload_n (pc := 14) d29_14 rfl ?_
  refine z_geti (pc := 15) d29_15 fk6_21 shL6 rfl h (fun v3 h => ?_)
  refine x_iload_n (pc := 18) d29_18 rfl ?_
  refine z_iast (pc := 19) d29_19 shL8 (by decide) h (fun s4 h => ?_)
  refine x_aload_n (pc := 20) d29_20 rfl ?_
  refine y_getr (pc := 21) d29_21 fk6_18 shL6 rfl ?_
  refine x_aload_n (pc := 24) d29_24 rfl ?_
  refine z_geti (pc := 25) d29_25 fk6_21 shL6 rfl h (fun v5 h => ?_)
  refine x_iload_n (pc := 28) d29_28 rfl ?_
  refine z_iast (pc := 29) d29_29 shL9 (by decide) h (fun s6 h => ?_)
  refine x_aload_n (pc := 30) d29_30 rfl ?_
  refine x_dup (pc := 31) d29_31 rfl ?_
  refine z_geti (pc := 32) d29_32 fk6_21 shL6 rfl h (fun v7 h => ?_)
  refine x_iconst (pc := 35) (v := (1)) d29_35 (by decide) ?_
  refine x_iadd (pc := 36) d29_36 ?_
  refine z_puti (pc := 37) d29_37 fk6_21 shL6 rfl rfl ⟨rfl, rfl⟩ h (fun s8 h => ?_)
  exact z_vret (pc := 40) d29_40 rfl h
def k_addLetters (a1 : Int32) (a2 : Int32) (s : St) : Option (St) := grd (ib a1 800) (s.1 128 0 a1.toNatClampNeg) fun v1 => if (a2 - a1) ≤ (1 : Int32) then (if (104 : Int32) < v1 then (if v1 < (113 : Int32) then (cal (k_addToken (1 : Int32) (0 : Int32) a1 s) fun s2 => some s2) else (cal (k_addToken (2 : Int32) (v1 - (113 : Int32)) a1 s) fun s4 => some s4)) else (cal (k_addToken (3 : Int32) (v1 - (97 : Int32)) a1 s) fun s6 => some s6)) else (cal2 (k_wordKind a1 a2 s) fun v9 s8 => cal (k_addToken v9 (0 : Int32) a1 s8) fun s10 => some s10)
set_option maxRecDepth 100000 in
theorem t_k_addLetters (a1 : Int32) (a2 : Int32) (s : St) (r : St) (h : k_addLetters a1 a2 s = some r) : Rv 6 17 [.ref 6, .ref 4, .int a1, .int a2] s (fun s1 => s1 = r) := by
  refine ct_of (by decide +kernel) (Nat.le_of_ble_eq_true rfl) ?_
  show Wp _ _ _ _ _ _ [(0, .ref 6), (1, .ref 4), (2, .int a1), (3, .int a2)] _ _ _
  unfold k_addLetters at h
  refine x_aload_n (pc := 0) d17_0 rfl ?_
  refine x_iload_n (pc := 1) d17_1 rfl ?_
  refine z_iald (pc := 2) d17_2 shL4 (by decide) h (fun v1 h => ?_)
  refine x_istore (pc := 3) d17_3 (by decide) ?_
  refine x_iload_n (pc := 5) d17_5 rfl ?_
  refine x_iload_n (pc := 6) d17_6 rfl ?_
  refine x_isub (pc := 7) d17_7 ?_
  refine x_iconst (pc := 8) (v := (1)) d17_8 (by decide) ?_
  refine z_icmp_le (pc := 9) (tgt := 27) d17_9 (by decide) h (fun h => ?_) (fun h => ?_)
  · skip
    refine x_iload (pc := 27) d17_27 rfl ?_
    refine x_bipush (pc := 29) (v := (104)) d17_29 (by decide) ?_
    refine z_icmp_gt (pc := 31) (tgt := 48) d17_31 (by decide) h (fun h => ?_) (fun h => ?_)
    · skip
      refine x_iload (pc := 48) d17_48 rfl ?_
      refine x_bipush (pc := 50) (v := (113)) d17_50 (by decide) ?_
      refine z_icmp_lt (pc := 52) (tgt := 69) d17_52 (by decide) h (fun h => ?_) (fun h => ?_)
      · skip
        refine x_aload_n (pc := 69) d17_69 rfl ?_
        refine x_iconst (pc := 70) (v := (1)) d17_70 (by decide) ?_
        refine x_iconst (pc := 71) (v := (0)) d17_71 (by decide) ?_
        refine x_iload_n (pc := 72) d17_72 rfl ?_
        refine z_cV3v (pc := 73) d17_73 ml6_42 mv29 shL6 (t_k_addToken (1 : Int32) (0 : Int32) a1 s) (by decide) (Nat.le_of_ble_eq_true rfl) ⟨Nat.zero_le _, Nat.zero_le _⟩ h (fun s2 h => ?_)
        exact z_vret (pc := 76) d17_76 rfl h
      · skip
        refine x_aload_n (pc := 55) d17_55 rfl ?_
        refine x_iconst (pc := 56) (v := (2)) d17_56 (by decide) ?_
        refine x_iload (pc := 57) d17_57 rfl ?_
        refine x_bipush (pc := 59) (v := (113)) d17_59 (by decide) ?_
        refine x_isub (pc := 61) d17_61 ?_
        refine x_iload_n (pc := 62) d17_62 rfl ?_
        refine z_cV3v (pc := 63) d17_63 ml6_42 mv29 shL6 (t_k_addToken (2 : Int32) (v1 - (113 : Int32)) a1 s) (by decide) (Nat.le_of_ble_eq_true rfl) ⟨Nat.zero_le _, Nat.zero_le _⟩ h (fun s4 h => ?_)
        refine x_goto (pc := 66) (tgt := 76) d17_66 (by decide) ?_
        exact z_vret (pc := 76) d17_76 rfl h
    · skip
      refine x_aload_n (pc := 34) d17_34 rfl ?_
      refine x_iconst (pc := 35) (v := (3)) d17_35 (by decide) ?_
      refine x_iload (pc := 36) d17_36 rfl ?_
      refine x_bipush (pc := 38) (v := (97)) d17_38 (by decide) ?_
      refine x_isub (pc := 40) d17_40 ?_
      refine x_iload_n (pc := 41) d17_41 rfl ?_
      refine z_cV3v (pc := 42) d17_42 ml6_42 mv29 shL6 (t_k_addToken (3 : Int32) (v1 - (97 : Int32)) a1 s) (by decide) (Nat.le_of_ble_eq_true rfl) ⟨Nat.zero_le _, Nat.zero_le _⟩ h (fun s6 h => ?_)
      refine x_goto (pc := 45) (tgt := 76) d17_45 (by decide) ?_
      exact z_vret (pc := 76) d17_76 rfl h
  · skip
    refine x_aload_n (pc := 12) d17_12 rfl ?_
    refine x_aload_n (pc := 13) d17_13 rfl ?_
    refine x_iload_n (pc := 14) d17_14 rfl ?_
    refine x_iload_n (pc := 15) d17_15 rfl ?_
    refine z_cS3i (pc := 16) d17_16 ml6_46 mv18 (t_k_wordKind a1 a2 s) (by decide) (Nat.le_of_ble_eq_true rfl) ⟨Nat.zero_le _, Nat.zero_le _⟩ h (fun v9 s8 h => ?_)
    refine x_iconst (pc := 19) (v := (0)) d17_19 (by decide) ?_
    refine x_iload_n (pc := 20) d17_20 rfl ?_
    refine z_cV3v (pc := 21) d17_21 ml6_42 mv29 shL6 (t_k_addToken v9 (0 : Int32) a1 s8) (by decide) (Nat.le_of_ble_eq_true rfl) ⟨Nat.zero_le _, Nat.zero_le _⟩ h (fun s10 h => ?_)
    refine x_goto (pc := 24) (tgt := 76) d17_24 (by decide) ?_
    exact z_vret (pc := 76) d17_76 rfl h
def k_addDigits_22 : Nat → Int32 → Int32 → Int32 → Int32 → St → Option (St)
  | 0, _, _, _, _, _ => none
  | n + 1, x2, x3, x4, x5, s => if x3 ≤ x5 then (cal (k_addToken (4 : Int32) x4 x2 s) fun s1 => some s1) else (grd (ib x5 800) (s.1 128 0 x5.toNatClampNeg) fun v3 => k_addDigits_22 n x2 x3 ((((10 : Int32) * x4) + v3) - (48 : Int32)) (x5 + (1 : Int32)) s)
set_option maxRecDepth 100000 in
theorem t_k_addDigits_22 {r : St} : ∀ (n : Nat) (x2 : Int32) (x3 : Int32) (x4 : Int32) (x5 : Int32) (s : St), k_addDigits_22 n x2 x3 x4 x5 s = some r → Wp (rmd 1 0 0) 31 (zv (fun s1 => s1 = r)) 0 0 22 [(0, .ref 6), (1, .ref 4), (2, .int x2), (3, .int x3), (4, .int x4), (5, .int x5)] [] (mk s) TT := by
  intro n
  induction n with
  | zero =>
    intro x2 x3 x4 x5 s h
    rw [k_addDigits_22.eq_1] at h
    cases h
  | succ n ih =>
    intro x2 x3 x4 x5 s h
    rw [k_addDigits_22.eq_2] at h
    refine x_iload (pc := 22) d31_22 rfl ?_
    refine x_iload_n (pc := 24) d31_24 rfl ?_
    refine z_icmp_ge (pc := 25) (tgt := 49) d31_25 (by decide) h (fun h => ?_) (fun h => ?_)
    · skip
      refine x_aload_n (pc := 49) d31_49 rfl ?_
      refine x_iconst (pc := 50) (v := (4)) d31_50 (by decide) ?_
      refine x_iload (pc := 51) d31_51 rfl ?_
      refine x_iload_n (pc := 53) d31_53 rfl ?_
      refine z_cV3v (pc := 54) d31_54 ml6_42 mv29 shL6 (t_k_addToken (4 : Int32) x4 x2 s) (by decide) (Nat.le_of_ble_eq_true rfl) ⟨Nat.zero_le _, Nat.zero_le _⟩ h (fun s1 h => ?_)
      exact z_vret (pc := 57) d31_57 rfl h
    · skip
      refine x_bipush (pc := 28) (v := (10)) d31_28 (by decide) ?_
      refine x_iload (pc := 30) d31_30 rfl ?_
      refine x_imul (pc := 32) d31_32 ?_
      refine x_aload_n (pc := 33) d31_33 rfl ?_
      refine x_iload (pc := 34) d31_34 rfl ?_
      refine z_iald (pc := 36) d31_36 shL4 (by decide) h (fun v3 h => ?_)
      refine x_iadd (pc := 37) d31_37 ?_
      refine x_bipush (pc := 38) (v := (48)) d31_38 (by decide) ?_
      refine x_isub (pc := 40) d31_40 ?_
      refine x_istore (pc := 41) d31_41 (by decide) ?_
      refine y_inc (pc := 43) (c := (1)) d31_43 (by decide) (by decide) rfl ?_
      refine x_goto (pc := 46) (tgt := 22) d31_46 (by decide) ?_
      refine wp_lv (lv' := [(0, .ref 6), (1, .ref 4), (2, .int x2), (3, .int x3), (4, .int ((((10 : Int32) * x4) + v3) - (48 : Int32))), (5, .int (x5 + (1 : Int32)))]) ⟨rfl, rfl, rfl, rfl, rfl, rfl, trivial⟩ ?_
      exact ih x2 x3 ((((10 : Int32) * x4) + v3) - (48 : Int32)) (x5 + (1 : Int32)) s h
def k_addDigits (a1 : Int32) (a2 : Int32) (s : St) : Option (St) := if (a2 - a1) ≤ (9 : Int32) then (k_addDigits_22 20 a1 a2 (0 : Int32) a1 s) else (cal (k_addToken (1 : Int32) (0 : Int32) a1 s) fun s4 => some s4)
set_option maxRecDepth 100000 in
theorem t_k_addDigits (a1 : Int32) (a2 : Int32) (s : St) (r : St) (h : k_addDigits a1 a2 s = some r) : Rv 1 31 [.ref 6, .ref 4, .int a1, .int a2] s (fun s1 => s1 = r) := by
  refine ct_of (by decide +kernel) (Nat.le_of_ble_eq_true rfl) ?_
  show Wp _ _ _ _ _ _ [(0, .ref 6), (1, .ref 4), (2, .int a1), (3, .int a2)] _ _ _
  unfold k_addDigits at h
  refine x_iload_n (pc := 0) d31_0 rfl ?_
  refine x_iload_n (pc := 1) d31_1 rfl ?_
  refine x_isub (pc := 2) d31_2 ?_
  refine x_bipush (pc := 3) (v := (9)) d31_3 (by decide) ?_
  refine z_icmp_le (pc := 5) (tgt := 16) d31_5 (by decide) h (fun h => ?_) (fun h => ?_)
  · skip
    refine x_iconst (pc := 16) (v := (0)) d31_16 (by decide) ?_
    refine x_istore (pc := 17) d31_17 (by decide) ?_
    refine x_iload_n (pc := 19) d31_19 rfl ?_
    refine x_istore (pc := 20) d31_20 (by decide) ?_
    refine wp_lv (lv' := [(0, .ref 6), (1, .ref 4), (2, .int a1), (3, .int a2), (4, .int (0 : Int32)), (5, .int a1)]) ⟨rfl, rfl, rfl, rfl, rfl, rfl, trivial⟩ ?_
    exact t_k_addDigits_22 20 a1 a2 (0 : Int32) a1 s h
  · skip
    refine x_aload_n (pc := 8) d31_8 rfl ?_
    refine x_iconst (pc := 9) (v := (1)) d31_9 (by decide) ?_
    refine x_iconst (pc := 10) (v := (0)) d31_10 (by decide) ?_
    refine x_iload_n (pc := 11) d31_11 rfl ?_
    refine z_cV3v (pc := 12) d31_12 ml6_42 mv29 shL6 (t_k_addToken (1 : Int32) (0 : Int32) a1 s) (by decide) (Nat.le_of_ble_eq_true rfl) ⟨Nat.zero_le _, Nat.zero_le _⟩ h (fun s4 h => ?_)
    exact z_vret (pc := 15) d31_15 rfl h
def k_scan_138 (K7 : Int32 → Int32 → St → Option (St)) (x2 : Int32) (x4 : Int32) (s : St) : Option (St) := K7 x2 x4 s
set_option maxRecDepth 100000 in
theorem t_k_scan_138 {r : St} (K7 : Int32 → Int32 → St → Option (St)) (hK7 : ∀ (x2 : Int32) (x3 : Int32) (s : St), K7 x2 x3 s = some r → Wp (rmd 7 0 0) 15 (zv (fun s1 => s1 = r)) 0 0 7 [(0, .ref 6), (1, .ref 4), (2, .int x2), (3, .int x3)] [] (mk s) TT) : ∀ (x2 : Int32) (x4 : Int32) (s : St), k_scan_138 K7 x2 x4 s = some r → Wp (rmd 7 0 0) 15 (zv (fun s1 => s1 = r)) 0 0 138 [(0, .ref 6), (1, .ref 4), (2, .int x2), (4, .int x4)] [] (mk s) TT := by
  intro x2 x4 s h
  unfold k_scan_138 at h
  refine x_iload (pc := 138) d15_138 rfl ?_
  refine x_istore_n (pc := 140) d15_140 (by decide) ?_
  refine x_goto (pc := 141) (tgt := 7) d15_141 (by decide) ?_
  refine wp_lv (lv' := [(0, .ref 6), (1, .ref 4), (2, .int x2), (3, .int x4)]) ⟨rfl, rfl, rfl, rfl, trivial⟩ ?_
  exact hK7 x2 x4 s h
def k_scan_133 (K7 : Int32 → Int32 → St → Option (St)) (x2 : Int32) (x3 : Int32) (x4 : Int32) (y0 : Int32) (s : St) : Option (St) := cal (k_addToken y0 (0 : Int32) x3 s) fun s11 => k_scan_138 K7 x2 x4 s11
set_option maxRecDepth 100000 in
theorem t_k_scan_133 {r : St} (K7 : Int32 → Int32 → St → Option (St)) (hK7 : ∀ (x2 : Int32) (x3 : Int32) (s : St), K7 x2 x3 s = some r → Wp (rmd 7 0 0) 15 (zv (fun s1 => s1 = r)) 0 0 7 [(0, .ref 6), (1, .ref 4), (2, .int x2), (3, .int x3)] [] (mk s) TT) : ∀ (x2 : Int32) (x3 : Int32) (x4 : Int32) (y0 : Int32) (s : St), k_scan_133 K7 x2 x3 x4 y0 s = some r → Wp (rmd 7 0 0) 15 (zv (fun s1 => s1 = r)) 0 0 133 [(0, .ref 6), (1, .ref 4), (2, .int x2), (3, .int x3), (4, .int x4)] [.int y0, .ref 6] (mk s) TT := by
  intro x2 x3 x4 y0 s h
  unfold k_scan_133 at h
  refine x_iconst (pc := 133) (v := (0)) d15_133 (by decide) ?_
  refine x_iload_n (pc := 134) d15_134 rfl ?_
  refine z_cV3v (pc := 135) d15_135 ml6_42 mv29 shL6 (t_k_addToken y0 (0 : Int32) x3 s) (by decide) (Nat.le_of_ble_eq_true rfl) ⟨Nat.zero_le _, Nat.zero_le _⟩ h (fun s11 h => ?_)
  refine wp_lv (lv' := [(0, .ref 6), (1, .ref 4), (2, .int x2), (4, .int x4)]) ⟨rfl, rfl, rfl, rfl, trivial⟩ ?_
  exact t_k_scan_138 K7 hK7 x2 x4 s11 h
def k_scan_93 (K7 : Int32 → Int32 → St → Option (St)) (x2 : Int32) (x3 : Int32) (x4 : Int32) (s : St) : Option (St) := cal (k_addDigits x3 x4 s) fun s13 => k_scan_138 K7 x2 x4 s13
set_option maxRecDepth 100000 in
theorem t_k_scan_93 {r : St} (K7 : Int32 → Int32 → St → Option (St)) (hK7 : ∀ (x2 : Int32) (x3 : Int32) (s : St), K7 x2 x3 s = some r → Wp (rmd 7 0 0) 15 (zv (fun s1 => s1 = r)) 0 0 7 [(0, .ref 6), (1, .ref 4), (2, .int x2), (3, .int x3)] [] (mk s) TT) : ∀ (x2 : Int32) (x3 : Int32) (x4 : Int32) (s : St), k_scan_93 K7 x2 x3 x4 s = some r → Wp (rmd 7 0 0) 15 (zv (fun s1 => s1 = r)) 0 0 93 [(0, .ref 6), (1, .ref 4), (2, .int x2), (3, .int x3), (4, .int x4)] [] (mk s) TT := by
  intro x2 x3 x4 s h
  unfold k_scan_93 at h
  refine x_aload_n (pc := 93) d15_93 rfl ?_
  refine x_aload_n (pc := 94) d15_94 rfl ?_
  refine x_iload_n (pc := 95) d15_95 rfl ?_
  refine x_iload (pc := 96) d15_96 rfl ?_
  refine z_cV3v (pc := 98) d15_98 ml6_36 mv31 shL6 (t_k_addDigits x3 x4 s) (by decide) (Nat.le_of_ble_eq_true rfl) ⟨Nat.zero_le _, Nat.zero_le _⟩ h (fun s13 h => ?_)
  refine x_goto (pc := 101) (tgt := 138) d15_101 (by decide) ?_
  refine wp_lv (lv' := [(0, .ref 6), (1, .ref 4), (2, .int x2), (4, .int x4)]) ⟨rfl, rfl, rfl, rfl, trivial⟩ ?_
  exact t_k_scan_138 K7 hK7 x2 x4 s13 h
def k_scan_71 (K7 : Int32 → Int32 → St → Option (St)) : Nat → Int32 → Int32 → Int32 → St → Option (St)
  | 0, _, _, _, _ => none
  | n + 1, x2, x3, x4, s => if x2 ≤ x4 then (k_scan_93 K7 x2 x3 x4 s) else (grd (ib x4 800) (s.1 128 0 x4.toNatClampNeg) fun v15 => cal2 (k_isDigit v15 s) fun v17 s16 => if v17 = 0 then (k_scan_93 K7 x2 x3 x4 s16) else (k_scan_71 K7 n x2 x3 (x4 + (1 : Int32)) s16))
set_option maxRecDepth 100000 in
theorem t_k_scan_71 {r : St} (K7 : Int32 → Int32 → St → Option (St)) (hK7 : ∀ (x2 : Int32) (x3 : Int32) (s : St), K7 x2 x3 s = some r → Wp (rmd 7 0 0) 15 (zv (fun s1 => s1 = r)) 0 0 7 [(0, .ref 6), (1, .ref 4), (2, .int x2), (3, .int x3)] [] (mk s) TT) : ∀ (n : Nat) (x2 : Int32) (x3 : Int32) (x4 : Int32) (s : St), k_scan_71 K7 n x2 x3 x4 s = some r → Wp (rmd 7 0 0) 15 (zv (fun s1 => s1 = r)) 0 0 71 [(0, .ref 6), (1, .ref 4), (2, .int x2), (3, .int x3), (4, .int x4)] [] (mk s) TT := by
  intro n
  induction n with
  | zero =>
    intro x2 x3 x4 s h
    rw [k_scan_71.eq_1] at h
    cases h
  | succ n ih =>
    intro x2 x3 x4 s h
    rw [k_scan_71.eq_2] at h
    refine x_iload (pc := 71) d15_71 rfl ?_
    refine x_iload_n (pc := 73) d15_73 rfl ?_
    refine z_icmp_ge (pc := 74) (tgt := 93) d15_74 (by decide) h (fun h => ?_) (fun h => ?_)
    · skip
      refine wp_lv (lv' := [(0, .ref 6), (1, .ref 4), (2, .int x2), (3, .int x3), (4, .int x4)]) ⟨rfl, rfl, rfl, rfl, rfl, trivial⟩ ?_
      exact t_k_scan_93 K7 hK7 x2 x3 x4 s h
    · skip
      refine x_aload_n (pc := 77) d15_77 rfl ?_
      refine x_iload (pc := 78) d15_78 rfl ?_
      refine z_iald (pc := 80) d15_80 shL4 (by decide) h (fun v15 h => ?_)
      refine z_cS1i (pc := 81) d15_81 ml6_33 mv30 (t_k_isDigit v15 s) (by decide) (Nat.le_of_ble_eq_true rfl) ⟨Nat.zero_le _, Nat.zero_le _⟩ h (fun v17 s16 h => ?_)
      refine z_if_eq (pc := 84) (tgt := 93) d15_84 (by decide) h (fun h => ?_) (fun h => ?_)
      · skip
        refine wp_lv (lv' := [(0, .ref 6), (1, .ref 4), (2, .int x2), (3, .int x3), (4, .int x4)]) ⟨rfl, rfl, rfl, rfl, rfl, trivial⟩ ?_
        exact t_k_scan_93 K7 hK7 x2 x3 x4 s16 h
      · skip
        refine y_inc (pc := 87) (c := (1)) d15_87 (by decide) (by decide) rfl ?_
        refine x_goto (pc := 90) (tgt := 71) d15_90 (by decide) ?_
        refine wp_lv (lv' := [(0, .ref 6), (1, .ref 4), (2, .int x2), (3, .int x3), (4, .int (x4 + (1 : Int32)))]) ⟨rfl, rfl, rfl, rfl, rfl, trivial⟩ ?_
        exact ih x2 x3 (x4 + (1 : Int32)) s16 h
def k_scan_52 (K7 : Int32 → Int32 → St → Option (St)) (x2 : Int32) (x3 : Int32) (x4 : Int32) (s : St) : Option (St) := cal (k_addLetters x3 x4 s) fun s18 => k_scan_138 K7 x2 x4 s18
set_option maxRecDepth 100000 in
theorem t_k_scan_52 {r : St} (K7 : Int32 → Int32 → St → Option (St)) (hK7 : ∀ (x2 : Int32) (x3 : Int32) (s : St), K7 x2 x3 s = some r → Wp (rmd 7 0 0) 15 (zv (fun s1 => s1 = r)) 0 0 7 [(0, .ref 6), (1, .ref 4), (2, .int x2), (3, .int x3)] [] (mk s) TT) : ∀ (x2 : Int32) (x3 : Int32) (x4 : Int32) (s : St), k_scan_52 K7 x2 x3 x4 s = some r → Wp (rmd 7 0 0) 15 (zv (fun s1 => s1 = r)) 0 0 52 [(0, .ref 6), (1, .ref 4), (2, .int x2), (3, .int x3), (4, .int x4)] [] (mk s) TT := by
  intro x2 x3 x4 s h
  unfold k_scan_52 at h
  refine x_aload_n (pc := 52) d15_52 rfl ?_
  refine x_aload_n (pc := 53) d15_53 rfl ?_
  refine x_iload_n (pc := 54) d15_54 rfl ?_
  refine x_iload (pc := 55) d15_55 rfl ?_
  refine z_cV3v (pc := 57) d15_57 ml6_29 mv17 shL6 (t_k_addLetters x3 x4 s) (by decide) (Nat.le_of_ble_eq_true rfl) ⟨Nat.zero_le _, Nat.zero_le _⟩ h (fun s18 h => ?_)
  refine x_goto (pc := 60) (tgt := 138) d15_60 (by decide) ?_
  refine wp_lv (lv' := [(0, .ref 6), (1, .ref 4), (2, .int x2), (4, .int x4)]) ⟨rfl, rfl, rfl, rfl, trivial⟩ ?_
  exact t_k_scan_138 K7 hK7 x2 x4 s18 h
def k_scan_30 (K7 : Int32 → Int32 → St → Option (St)) : Nat → Int32 → Int32 → Int32 → St → Option (St)
  | 0, _, _, _, _ => none
  | n + 1, x2, x3, x4, s => if x2 ≤ x4 then (k_scan_52 K7 x2 x3 x4 s) else (grd (ib x4 800) (s.1 128 0 x4.toNatClampNeg) fun v20 => cal2 (k_isLetter v20 s) fun v22 s21 => if v22 = 0 then (k_scan_52 K7 x2 x3 x4 s21) else (k_scan_30 K7 n x2 x3 (x4 + (1 : Int32)) s21))
set_option maxRecDepth 100000 in
theorem t_k_scan_30 {r : St} (K7 : Int32 → Int32 → St → Option (St)) (hK7 : ∀ (x2 : Int32) (x3 : Int32) (s : St), K7 x2 x3 s = some r → Wp (rmd 7 0 0) 15 (zv (fun s1 => s1 = r)) 0 0 7 [(0, .ref 6), (1, .ref 4), (2, .int x2), (3, .int x3)] [] (mk s) TT) : ∀ (n : Nat) (x2 : Int32) (x3 : Int32) (x4 : Int32) (s : St), k_scan_30 K7 n x2 x3 x4 s = some r → Wp (rmd 7 0 0) 15 (zv (fun s1 => s1 = r)) 0 0 30 [(0, .ref 6), (1, .ref 4), (2, .int x2), (3, .int x3), (4, .int x4)] [] (mk s) TT := by
  intro n
  induction n with
  | zero =>
    intro x2 x3 x4 s h
    rw [k_scan_30.eq_1] at h
    cases h
  | succ n ih =>
    intro x2 x3 x4 s h
    rw [k_scan_30.eq_2] at h
    refine x_iload (pc := 30) d15_30 rfl ?_
    refine x_iload_n (pc := 32) d15_32 rfl ?_
    refine z_icmp_ge (pc := 33) (tgt := 52) d15_33 (by decide) h (fun h => ?_) (fun h => ?_)
    · skip
      refine wp_lv (lv' := [(0, .ref 6), (1, .ref 4), (2, .int x2), (3, .int x3), (4, .int x4)]) ⟨rfl, rfl, rfl, rfl, rfl, trivial⟩ ?_
      exact t_k_scan_52 K7 hK7 x2 x3 x4 s h
    · skip
      refine x_aload_n (pc := 36) d15_36 rfl ?_
      refine x_iload (pc := 37) d15_37 rfl ?_
      refine z_iald (pc := 39) d15_39 shL4 (by decide) h (fun v20 h => ?_)
      refine z_cS1i (pc := 40) d15_40 ml6_25 mv16 (t_k_isLetter v20 s) (by decide) (Nat.le_of_ble_eq_true rfl) ⟨Nat.zero_le _, Nat.zero_le _⟩ h (fun v22 s21 h => ?_)
      refine z_if_eq (pc := 43) (tgt := 52) d15_43 (by decide) h (fun h => ?_) (fun h => ?_)
      · skip
        refine wp_lv (lv' := [(0, .ref 6), (1, .ref 4), (2, .int x2), (3, .int x3), (4, .int x4)]) ⟨rfl, rfl, rfl, rfl, rfl, trivial⟩ ?_
        exact t_k_scan_52 K7 hK7 x2 x3 x4 s21 h
      · skip
        refine y_inc (pc := 46) (c := (1)) d15_46 (by decide) (by decide) rfl ?_
        refine x_goto (pc := 49) (tgt := 30) d15_49 (by decide) ?_
        refine wp_lv (lv' := [(0, .ref 6), (1, .ref 4), (2, .int x2), (3, .int x3), (4, .int (x4 + (1 : Int32)))]) ⟨rfl, rfl, rfl, rfl, rfl, trivial⟩ ?_
        exact ih x2 x3 (x4 + (1 : Int32)) s21 h
def k_scan_7 : Nat → Int32 → Int32 → St → Option (St)
  | 0, _, _, _ => none
  | n + 1, x2, x3, s => if x2 ≤ x3 then (cal (k_addToken (0 : Int32) (0 : Int32) x2 s) fun s2 => some s2) else (grd (ib x3 800) (s.1 128 0 x3.toNatClampNeg) fun v4 => cal2 (k_isLetter v4 s) fun v6 s5 => if v6 = 0 then (cal2 (k_isDigit v4 s5) fun v8 s7 => if v8 = 0 then (if v4 = (32 : Int32) then (k_scan_138 (k_scan_7 n) x2 (x3 + (1 : Int32)) s7) else (if v4 = (10 : Int32) then (k_scan_138 (k_scan_7 n) x2 (x3 + (1 : Int32)) s7) else (cal2 (k_isSign v4 s7) fun v10 s9 => if v10 = 0 then (k_scan_133 (k_scan_7 n) x2 x3 (x3 + (1 : Int32)) (1 : Int32) s9) else (k_scan_133 (k_scan_7 n) x2 x3 (x3 + (1 : Int32)) v4 s9)))) else (k_scan_71 (k_scan_7 n) 900 x2 x3 (x3 + (1 : Int32)) s7)) else (k_scan_30 (k_scan_7 n) 900 x2 x3 (x3 + (1 : Int32)) s5))
set_option maxRecDepth 100000 in
theorem t_k_scan_7 {r : St} : ∀ (n : Nat) (x2 : Int32) (x3 : Int32) (s : St), k_scan_7 n x2 x3 s = some r → Wp (rmd 7 0 0) 15 (zv (fun s1 => s1 = r)) 0 0 7 [(0, .ref 6), (1, .ref 4), (2, .int x2), (3, .int x3)] [] (mk s) TT := by
  intro n
  induction n with
  | zero =>
    intro x2 x3 s h
    rw [k_scan_7.eq_1] at h
    cases h
  | succ n ih =>
    intro x2 x3 s h
    rw [k_scan_7.eq_2] at h
    refine x_iload_n (pc := 7) d15_7 rfl ?_
    refine x_iload_n (pc := 8) d15_8 rfl ?_
    refine z_icmp_ge (pc := 9) (tgt := 144) d15_9 (by decide) h (fun h => ?_) (fun h => ?_)
    · skip
      refine x_aload_n (pc := 144) d15_144 rfl ?_
      refine x_iconst (pc := 145) (v := (0)) d15_145 (by decide) ?_
      refine x_iconst (pc := 146) (v := (0)) d15_146 (by decide) ?_
      refine x_iload_n (pc := 147) d15_147 rfl ?_
      refine z_cV3v (pc := 148) d15_148 ml6_42 mv29 shL6 (t_k_addToken (0 : Int32) (0 : Int32) x2 s) (by decide) (Nat.le_of_ble_eq_true rfl) ⟨Nat.zero_le _, Nat.zero_le _⟩ h (fun s2 h => ?_)
      exact z_vret (pc := 151) d15_151 rfl h
    · skip
      refine x_iload_n (pc := 12) d15_12 rfl ?_
      refine x_iconst (pc := 13) (v := (1)) d15_13 (by decide) ?_
      refine x_iadd (pc := 14) d15_14 ?_
      refine x_istore (pc := 15) d15_15 (by decide) ?_
      refine x_aload_n (pc := 17) d15_17 rfl ?_
      refine x_iload_n (pc := 18) d15_18 rfl ?_
      refine z_iald (pc := 19) d15_19 shL4 (by decide) h (fun v4 h => ?_)
      refine x_istore (pc := 20) d15_20 (by decide) ?_
      refine x_iload (pc := 22) d15_22 rfl ?_
      refine z_cS1i (pc := 24) d15_24 ml6_25 mv16 (t_k_isLetter v4 s) (by decide) (Nat.le_of_ble_eq_true rfl) ⟨Nat.zero_le _, Nat.zero_le _⟩ h (fun v6 s5 h => ?_)
      refine z_if_eq (pc := 27) (tgt := 63) d15_27 (by decide) h (fun h => ?_) (fun h => ?_)
      · skip
        refine x_iload (pc := 63) d15_63 rfl ?_
        refine z_cS1i (pc := 65) d15_65 ml6_33 mv30 (t_k_isDigit v4 s5) (by decide) (Nat.le_of_ble_eq_true rfl) ⟨Nat.zero_le _, Nat.zero_le _⟩ h (fun v8 s7 h => ?_)
        refine z_if_eq (pc := 68) (tgt := 104) d15_68 (by decide) h (fun h => ?_) (fun h => ?_)
        · skip
          refine x_iload (pc := 104) d15_104 rfl ?_
          refine x_bipush (pc := 106) (v := (32)) d15_106 (by decide) ?_
          refine z_icmp_eq (pc := 108) (tgt := 138) d15_108 (by decide) h (fun h => ?_) (fun h => ?_)
          · skip
            refine wp_lv (lv' := [(0, .ref 6), (1, .ref 4), (2, .int x2), (4, .int (x3 + (1 : Int32)))]) ⟨rfl, rfl, rfl, rfl, trivial⟩ ?_
            exact t_k_scan_138 (k_scan_7 n) ih x2 (x3 + (1 : Int32)) s7 h
          · skip
            refine x_iload (pc := 111) d15_111 rfl ?_
            refine x_bipush (pc := 113) (v := (10)) d15_113 (by decide) ?_
            refine z_icmp_eq (pc := 115) (tgt := 138) d15_115 (by decide) h (fun h => ?_) (fun h => ?_)
            · skip
              refine wp_lv (lv' := [(0, .ref 6), (1, .ref 4), (2, .int x2), (4, .int (x3 + (1 : Int32)))]) ⟨rfl, rfl, rfl, rfl, trivial⟩ ?_
              exact t_k_scan_138 (k_scan_7 n) ih x2 (x3 + (1 : Int32)) s7 h
            · skip
              refine x_aload_n (pc := 118) d15_118 rfl ?_
              refine x_iload (pc := 119) d15_119 rfl ?_
              refine z_cS1i (pc := 121) d15_121 ml6_39 mv32 (t_k_isSign v4 s7) (by decide) (Nat.le_of_ble_eq_true rfl) ⟨Nat.zero_le _, Nat.zero_le _⟩ h (fun v10 s9 h => ?_)
              refine z_if_eq (pc := 124) (tgt := 132) d15_124 (by decide) h (fun h => ?_) (fun h => ?_)
              · skip
                refine x_iconst (pc := 132) (v := (1)) d15_132 (by decide) ?_
                refine wp_lv (lv' := [(0, .ref 6), (1, .ref 4), (2, .int x2), (3, .int x3), (4, .int (x3 + (1 : Int32)))]) ⟨rfl, rfl, rfl, rfl, rfl, trivial⟩ ?_
                exact t_k_scan_133 (k_scan_7 n) ih x2 x3 (x3 + (1 : Int32)) (1 : Int32) s9 h
              · skip
                refine x_iload (pc := 127) d15_127 rfl ?_
                refine x_goto (pc := 129) (tgt := 133) d15_129 (by decide) ?_
                refine wp_lv (lv' := [(0, .ref 6), (1, .ref 4), (2, .int x2), (3, .int x3), (4, .int (x3 + (1 : Int32)))]) ⟨rfl, rfl, rfl, rfl, rfl, trivial⟩ ?_
                exact t_k_scan_133 (k_scan_7 n) ih x2 x3 (x3 + (1 : Int32)) v4 s9 h
        · skip
          refine wp_lv (lv' := [(0, .ref 6), (1, .ref 4), (2, .int x2), (3, .int x3), (4, .int (x3 + (1 : Int32)))]) ⟨rfl, rfl, rfl, rfl, rfl, trivial⟩ ?_
          exact t_k_scan_71 (k_scan_7 n) ih 900 x2 x3 (x3 + (1 : Int32)) s7 h
      · skip
        refine wp_lv (lv' := [(0, .ref 6), (1, .ref 4), (2, .int x2), (3, .int x3), (4, .int (x3 + (1 : Int32)))]) ⟨rfl, rfl, rfl, rfl, rfl, trivial⟩ ?_
        exact t_k_scan_30 (k_scan_7 n) ih 900 x2 x3 (x3 + (1 : Int32)) s5 h
def k_scan (a1 : Int32) (s : St) : Option (St) := bnd (si s 99 0 0 (0 : Int32)) fun s1 => k_scan_7 900 a1 (0 : Int32) s1
set_option maxRecDepth 100000 in
theorem t_k_scan (a1 : Int32) (s : St) (r : St) (h : k_scan a1 s = some r) : Rv 7 15 [.ref 6, .ref 4, .int a1] s (fun s1 => s1 = r) := by
  refine ct_of (by decide +kernel) (Nat.le_of_ble_eq_true rfl) ?_
  show Wp _ _ _ _ _ _ [(0, .ref 6), (1, .ref 4), (2, .int a1)] _ _ _
  unfold k_scan at h
  refine x_aload_n (pc := 0) d15_0 rfl ?_
  refine x_iconst (pc := 1) (v := (0)) d15_1 (by decide) ?_
  refine z_puti (pc := 2) d15_2 fk6_21 shL6 rfl rfl ⟨rfl, rfl⟩ h (fun s1 h => ?_)
  refine x_iconst (pc := 5) (v := (0)) d15_5 (by decide) ?_
  refine x_istore_n (pc := 6) d15_6 (by decide) ?_
  refine wp_lv (lv' := [(0, .ref 6), (1, .ref 4), (2, .int a1), (3, .int (0 : Int32))]) ⟨rfl, rfl, rfl, rfl, trivial⟩ ?_
  exact t_k_scan_7 900 a1 (0 : Int32) s1 h
def k_parse (p : Nat) (a1 : Int32) (s : St) : Option (Int32 × St) := cal (k_scan a1 s) fun s1 => cal (k_reset p  s1) fun s3 => bnd (si s3 49 0 0 (nI p)) fun s5 => bnd (si s5 50 0 0 (0 : Int32)) fun s6 => cal2 ((SF 50).1 (120 : Int32) (0 : Int32) (0 : Int32) s6) fun v8 s7 => if v8 = 0 then (bnd (s7.1 50 0 0) fun v9 => grd (ib v9 801) (s7.1 98 0 v9.toNatClampNeg) fun v10 => some (v10, s7)) else (some ((-1 : Int32), s7))
set_option maxRecDepth 100000 in
theorem t_k_parse (p : Nat) (hp : p < 13) (a1 : Int32) (s : St) (r : Int32 × St) (h : k_parse p a1 s = some r) : Ri 96 14 [.ref 5, .ref 4, .int a1, .ref (PA p)] s (fun v s1 => (v, s1) = r) := by
  refine ct_of (by decide +kernel) (Nat.le_of_ble_eq_true rfl) ?_
  show Wp _ _ _ _ _ _ [(0, .ref 5), (1, .ref 4), (2, .int a1), (3, .ref (PA p))] _ _ _
  unfold k_parse at h
  refine x_aload_n (pc := 0) d14_0 rfl ?_
  refine y_getr (pc := 1) d14_1 fk3_12 shL5 rfl ?_
  refine x_aload_n (pc := 4) d14_4 rfl ?_
  refine x_iload_n (pc := 5) d14_5 rfl ?_
  refine z_cV2v (pc := 6) d14_6 ml3_18 mv15 shL6 (t_k_scan a1 s) (by decide) (Nat.le_of_ble_eq_true rfl) ⟨Nat.zero_le _, Nat.zero_le _⟩ h (fun s1 h => ?_)
  refine x_aload_n (pc := 9) d14_9 rfl ?_
  refine z_cV0v (pc := 10) d14_10 ml3_22 mv35 (shP p hp) (t_k_reset p hp  s1) (by decide) (Nat.le_of_ble_eq_true rfl) ⟨Nat.zero_le _, Nat.zero_le _⟩ h (fun s3 h => ?_)
  refine x_aload_n (pc := 13) d14_13 rfl ?_
  refine x_aload_n (pc := 14) d14_14 rfl ?_
  refine z_putp (pc := 15) d14_15 fk3_27 shL5 rfl rfl rfl hp h (fun s5 h => ?_)
  refine x_aload_n (pc := 18) d14_18 rfl ?_
  refine x_iconst (pc := 19) (v := (0)) d14_19 (by decide) ?_
  refine z_puti (pc := 20) d14_20 fk3_31 shL5 rfl rfl ⟨rfl, rfl⟩ h (fun s6 h => ?_)
  refine x_aload_n (pc := 23) d14_23 rfl ?_
  refine x_bipush (pc := 24) (v := (120)) d14_24 (by decide) ?_
  refine x_iconst (pc := 26) (v := (0)) d14_26 (by decide) ?_
  refine x_iconst (pc := 27) (v := (0)) d14_27 (by decide) ?_
  refine z_cV3i (pc := 28) d14_28 ml3_35 mv36 shL5 ((SF_ok 50).1 (120 : Int32) (0 : Int32) (0 : Int32) s6) (by decide) (Nat.le_of_ble_eq_true rfl) ⟨Nat.zero_le _, Nat.zero_le _⟩ h (fun v8 s7 h => ?_)
  refine x_istore (pc := 31) d14_31 (by decide) ?_
  refine x_iload (pc := 33) d14_33 rfl ?_
  refine z_if_eq (pc := 35) (tgt := 42) d14_35 (by decide) h (fun h => ?_) (fun h => ?_)
  · skip
    refine x_aload_n (pc := 42) d14_42 rfl ?_
    refine y_getr (pc := 43) d14_43 fk3_12 shL5 rfl ?_
    refine y_getr (pc := 46) d14_46 fk3_39 shL6 rfl ?_
    refine x_aload_n (pc := 49) d14_49 rfl ?_
    refine z_geti (pc := 50) d14_50 fk3_31 shL5 rfl h (fun v9 h => ?_)
    refine z_iald (pc := 53) d14_53 shL9 (by decide) h (fun v10 h => ?_)
    exact z_iret (pc := 54) d14_54 rfl h
  · skip
    refine x_iconst (pc := 38) (v := (-1)) d14_38 (by decide) ?_
    refine x_goto (pc := 39) (tgt := 54) d14_39 (by decide) ?_
    exact z_iret (pc := 54) d14_54 rfl h
def k_text (s : St) : Option (Int32 × St) := bnd (s.1 132 0 0) fun v1 => if v1 < (12 : Int32) then (bnd (s.1 129 0 0) fun v2 => bnd (s.1 132 0 0) fun v3 => grd (ib v3 12) v3.toNatClampNeg fun p4 => cal2 (k_parse p4 v2 s) fun v6 s5 => bnd (si s5 133 0 0 v6) fun s7 => bnd (si s7 129 0 0 (0 : Int32)) fun s8 => bnd (s8.1 133 0 0) fun v9 => if v9 = (-1 : Int32) then (bnd (s8.1 132 0 0) fun v10 => bnd (si s8 132 0 0 (v10 + (1 : Int32))) fun s11 => bnd (s11.1 132 0 0) fun v12 => some ((v12 - (1 : Int32)), s11)) else (some ((-2 : Int32), s8))) else (some ((-1 : Int32), s))
set_option maxRecDepth 100000 in
theorem t_k_text (s : St) (r : Int32 × St) (h : k_text s = some r) : Ri 97 13 [.ref 3] s (fun v s1 => (v, s1) = r) := by
  refine ct_of (by decide +kernel) (Nat.le_of_ble_eq_true rfl) ?_
  show Wp _ _ _ _ _ _ [(0, .ref 3)] _ _ _
  unfold k_text at h
  refine x_aload_n (pc := 0) d13_0 rfl ?_
  refine z_geti (pc := 1) d13_1 fk8_45 shL3 rfl h (fun v1 h => ?_)
  refine x_bipush (pc := 4) (v := (12)) d13_4 (by decide) ?_
  refine z_icmp_lt (pc := 6) (tgt := 11) d13_6 (by decide) h (fun h => ?_) (fun h => ?_)
  · skip
    refine x_aload_n (pc := 11) d13_11 rfl ?_
    refine x_aload_n (pc := 12) d13_12 rfl ?_
    refine y_getr (pc := 13) d13_13 fk8_16 shL3 rfl ?_
    refine x_aload_n (pc := 16) d13_16 rfl ?_
    refine y_getr (pc := 17) d13_17 fk8_9 shL3 rfl ?_
    refine x_aload_n (pc := 20) d13_20 rfl ?_
    refine z_geti (pc := 21) d13_21 fk8_38 shL3 rfl h (fun v2 h => ?_)
    refine x_aload_n (pc := 24) d13_24 rfl ?_
    refine y_getr (pc := 25) d13_25 fk8_22 shL3 rfl ?_
    refine x_aload_n (pc := 28) d13_28 rfl ?_
    refine z_geti (pc := 29) d13_29 fk8_45 shL3 rfl h (fun v3 h => ?_)
    refine z_aaldP (pc := 32) d13_32 h (fun p4 hp4 h => ?_)
    refine z_cV3i (pc := 33) d13_33 ml8_48 mv14 shL5 (t_k_parse p4 hp4 v2 s) (by decide) (Nat.le_of_ble_eq_true rfl) ⟨Nat.zero_le _, Nat.zero_le _⟩ h (fun v6 s5 h => ?_)
    refine z_puti (pc := 36) d13_36 fk8_27 shL3 rfl rfl ⟨rfl, rfl⟩ h (fun s7 h => ?_)
    refine x_aload_n (pc := 39) d13_39 rfl ?_
    refine x_iconst (pc := 40) (v := (0)) d13_40 (by decide) ?_
    refine z_puti (pc := 41) d13_41 fk8_38 shL3 rfl rfl ⟨rfl, rfl⟩ h (fun s8 h => ?_)
    refine x_aload_n (pc := 44) d13_44 rfl ?_
    refine z_geti (pc := 45) d13_45 fk8_27 shL3 rfl h (fun v9 h => ?_)
    refine x_iconst (pc := 48) (v := (-1)) d13_48 (by decide) ?_
    refine z_icmp_eq (pc := 49) (tgt := 55) d13_49 (by decide) h (fun h => ?_) (fun h => ?_)
    · skip
      refine x_aload_n (pc := 55) d13_55 rfl ?_
      refine x_dup (pc := 56) d13_56 rfl ?_
      refine z_geti (pc := 57) d13_57 fk8_45 shL3 rfl h (fun v10 h => ?_)
      refine x_iconst (pc := 60) (v := (1)) d13_60 (by decide) ?_
      refine x_iadd (pc := 61) d13_61 ?_
      refine z_puti (pc := 62) d13_62 fk8_45 shL3 rfl rfl ⟨rfl, rfl⟩ h (fun s11 h => ?_)
      refine x_aload_n (pc := 65) d13_65 rfl ?_
      refine z_geti (pc := 66) d13_66 fk8_45 shL3 rfl h (fun v12 h => ?_)
      refine x_iconst (pc := 69) (v := (1)) d13_69 (by decide) ?_
      refine x_isub (pc := 70) d13_70 ?_
      exact z_iret (pc := 71) d13_71 rfl h
    · skip
      refine x_bipush (pc := 52) (v := (-2)) d13_52 (by decide) ?_
      exact z_iret (pc := 54) d13_54 rfl h
  · skip
    refine x_iconst (pc := 9) (v := (-1)) d13_9 (by decide) ?_
    exact z_iret (pc := 10) d13_10 rfl h
