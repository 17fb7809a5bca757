/-! the class's PROGRAM rows and reading by descent -/
theorem rd1 {d L : Nat} (h : L ≤ 21) : d + 1 ≤ (rmd (d + 1) 0 0).frames ∧ 8 + (L + 11) + 40 * d ≤ (rmd (d + 1) 0 0).locals := ⟨Nat.le_refl _, by show _ ≤ 40 * (d + 1); omega⟩
theorem rdk {d k L e : Nat} (h : L ≤ 21) (hk : k ≤ e) : k + 1 ≤ (rmd (d + (e + 1)) 0 0).frames ∧ 8 + (L + 11) + 40 * k ≤ (rmd (d + (e + 1)) 0 0).locals := ⟨by show _ ≤ d + (e + 1); omega, by show _ ≤ 40 * (d + (e + 1)); omega⟩
abbrev Fx1 : Type := Int32 → St → Option (Int32 × St)
abbrev Fx2 : Type := Int32 → Int32 → St → Option (Int32 × St)
abbrev Fx3 : Type := Int32 → Int32 → Int32 → St → Option (Int32 × St)
def k_reset (p : Nat) (s : St) : Option (St) := bnd (si s 64 p 0 (0 : Int32)) fun s1 => bnd (si s1 65 p 0 (0 : Int32)) fun s2 => bnd (si s2 66 p 0 (0 : Int32)) fun s3 => bnd (si s3 67 p 0 (0 : Int32)) fun s4 => grd (ib (120 : Int32) 121) (si s4 74 p (120 : Int32).toNatClampNeg (-1 : Int32)) fun s5 => some s5
set_option maxRecDepth 100000 in
theorem t_k_reset (p : Nat) (hp : p < 13) (s : St) (r : St) (h : k_reset p s = some r) : Rv 0 35 [.ref (PA p)] s (fun s1 => s1 = r) := by
  refine ct_of (by decide +kernel) (Nat.le_of_ble_eq_true rfl) ?_
  show Wp _ _ _ _ _ _ [(0, .ref (PA p))] _ _ _
  unfold k_reset at h
  refine x_aload_n (pc := 0) d35_0 rfl ?_
  refine x_iconst (pc := 1) (v := (0)) d35_1 (by decide) ?_
  refine z_puti (pc := 2) d35_2 fk4_43 (shP p hp) rfl rfl ⟨rfl, rfl⟩ h (fun s1 h => ?_)
  refine x_aload_n (pc := 5) d35_5 rfl ?_
  refine x_iconst (pc := 6) (v := (0)) d35_6 (by decide) ?_
  refine z_puti (pc := 7) d35_7 fk4_47 (shP p hp) rfl rfl ⟨rfl, rfl⟩ h (fun s2 h => ?_)
  refine x_aload_n (pc := 10) d35_10 rfl ?_
  refine x_iconst (pc := 11) (v := (0)) d35_11 (by decide) ?_
  refine z_puti (pc := 12) d35_12 fk4_50 (shP p hp) rfl rfl ⟨rfl, rfl⟩ h (fun s3 h => ?_)
  refine x_aload_n (pc := 15) d35_15 rfl ?_
  refine x_iconst (pc := 16) (v := (0)) d35_16 (by decide) ?_
  refine z_puti (pc := 17) d35_17 fk4_53 (shP p hp) rfl rfl ⟨rfl, rfl⟩ h (fun s4 h => ?_)
  refine x_aload_n (pc := 20) d35_20 rfl ?_
  refine y_getr (pc := 21) d35_21 fk4_30 (shP p hp) rfl ?_
  refine x_bipush (pc := 24) (v := (120)) d35_24 (by decide) ?_
  refine x_iconst (pc := 26) (v := (-1)) d35_26 (by decide) ?_
  refine z_iast (pc := 27) d35_27 (shP7 p hp) (by decide) h (fun s5 h => ?_)
  exact z_vret (pc := 28) d35_28 rfl h
def k_addCode (p : Nat) (a0 : Int32) (a1 : Int32) (s : St) : Option (Int32 × St) := bnd (s.1 67 p 0) fun v1 => if v1 < (120 : Int32) then (bnd (s.1 67 p 0) fun v2 => grd (ib v2 120) (si s 75 p v2.toNatClampNeg a0) fun s3 => bnd (s3.1 67 p 0) fun v4 => grd (ib v4 120) (si s3 76 p v4.toNatClampNeg a1) fun s5 => bnd (s5.1 67 p 0) fun v6 => bnd (si s5 67 p 0 (v6 + (1 : Int32))) fun s7 => some ((1 : Int32), s7)) else (some ((0 : Int32), s))
set_option maxRecDepth 100000 in
theorem t_k_addCode (p : Nat) (hp : p < 13) (a0 : Int32) (a1 : Int32) (s : St) (r : Int32 × St) (h : k_addCode p a0 a1 s = some r) : Ri 0 47 [.ref (PA p), .int a0, .int a1] s (fun v s1 => (v, s1) = r) := by
  refine ct_of (by decide +kernel) (Nat.le_of_ble_eq_true rfl) ?_
  show Wp _ _ _ _ _ _ [(0, .ref (PA p)), (1, .int a0), (2, .int a1)] _ _ _
  unfold k_addCode at h
  refine x_aload_n (pc := 0) d47_0 rfl ?_
  refine z_geti (pc := 1) d47_1 fk4_53 (shP p hp) rfl h (fun v1 h => ?_)
  refine x_bipush (pc := 4) (v := (120)) d47_4 (by decide) ?_
  refine z_icmp_lt (pc := 6) (tgt := 11) d47_6 (by decide) h (fun h => ?_) (fun h => ?_)
  · skip
    refine x_aload_n (pc := 11) d47_11 rfl ?_
    refine y_getr (pc := 12) d47_12 fk4_33 (shP p hp) rfl ?_
    refine x_aload_n (pc := 15) d47_15 rfl ?_
    refine z_geti (pc := 16) d47_16 fk4_53 (shP p hp) rfl h (fun v2 h => ?_)
    refine x_iload_n (pc := 19) d47_19 rfl ?_
    refine z_iast (pc := 20) d47_20 (shP8 p hp) (by decide) h (fun s3 h => ?_)
    refine x_aload_n (pc := 21) d47_21 rfl ?_
    refine y_getr (pc := 22) d47_22 fk4_36 (shP p hp) rfl ?_
    refine x_aload_n (pc := 25) d47_25 rfl ?_
    refine z_geti (pc := 26) d47_26 fk4_53 (shP p hp) rfl h (fun v4 h => ?_)
    refine x_iload_n (pc := 29) d47_29 rfl ?_
    refine z_iast (pc := 30) d47_30 (shP9 p hp) (by decide) h (fun s5 h => ?_)
    refine x_aload_n (pc := 31) d47_31 rfl ?_
    refine x_dup (pc := 32) d47_32 rfl ?_
    refine z_geti (pc := 33) d47_33 fk4_53 (shP p hp) rfl h (fun v6 h => ?_)
    refine x_iconst (pc := 36) (v := (1)) d47_36 (by decide) ?_
    refine x_iadd (pc := 37) d47_37 ?_
    refine z_puti (pc := 38) d47_38 fk4_53 (shP p hp) rfl rfl ⟨rfl, rfl⟩ h (fun s7 h => ?_)
    refine x_iconst (pc := 41) (v := (1)) d47_41 (by decide) ?_
    exact z_zretc (pc := 42) d47_42 rfl (Or.inr rfl) h
  · skip
    refine x_iconst (pc := 9) (v := (0)) d47_9 (by decide) ?_
    exact z_zretc (pc := 10) d47_10 rfl (Or.inl rfl) h
def k_addStatement_21 (p : Nat) : Nat → Int32 → Int32 → St → Option (Int32 × St)
  | 0, _, _, _ => none
  | n + 1, x2, x3, s => if (3 : Int32) ≤ x3 then (bnd (s.1 64 p 0) fun v4 => bnd (si s 64 p 0 (v4 + (1 : Int32))) fun s5 => some (x2, s5)) else (grd (ib (((3 : Int32) * x2) + x3) 121) (si s 74 p (((3 : Int32) * x2) + x3).toNatClampNeg (-2 : Int32)) fun s6 => k_addStatement_21 p n x2 (x3 + (1 : Int32)) s6)
set_option maxRecDepth 100000 in
theorem t_k_addStatement_21 (p : Nat) (hp : p < 13) {r : Int32 × St} : ∀ (n : Nat) (x2 : Int32) (x3 : Int32) (s : St), k_addStatement_21 p n x2 x3 s = some r → Wp (rmd 0 0 0) 39 (zi (fun v s1 => (v, s1) = r)) 0 0 21 [(0, .ref (PA p)), (2, .int x2), (3, .int x3)] [] (mk s) TT := by
  intro n
  induction n with
  | zero =>
    intro x2 x3 s h
    rw [k_addStatement_21.eq_1] at h
    cases h
  | succ n ih =>
    intro x2 x3 s h
    rw [k_addStatement_21.eq_2] at h
    refine x_iload_n (pc := 21) d39_21 rfl ?_
    refine x_iconst (pc := 22) (v := (3)) d39_22 (by decide) ?_
    refine z_icmp_ge (pc := 23) (tgt := 44) d39_23 (by decide) h (fun h => ?_) (fun h => ?_)
    · skip
      refine x_aload_n (pc := 44) d39_44 rfl ?_
      refine x_dup (pc := 45) d39_45 rfl ?_
      refine z_geti (pc := 46) d39_46 fk4_43 (shP p hp) rfl h (fun v4 h => ?_)
      refine x_iconst (pc := 49) (v := (1)) d39_49 (by decide) ?_
      refine x_iadd (pc := 50) d39_50 ?_
      refine z_puti (pc := 51) d39_51 fk4_43 (shP p hp) rfl rfl ⟨rfl, rfl⟩ h (fun s5 h => ?_)
      refine x_iload_n (pc := 54) d39_54 rfl ?_
      exact z_iret (pc := 55) d39_55 rfl h
    · skip
      refine x_aload_n (pc := 26) d39_26 rfl ?_
      refine y_getr (pc := 27) d39_27 fk4_30 (shP p hp) rfl ?_
      refine x_iconst (pc := 30) (v := (3)) d39_30 (by decide) ?_
      refine x_iload_n (pc := 31) d39_31 rfl ?_
      refine x_imul (pc := 32) d39_32 ?_
      refine x_iload_n (pc := 33) d39_33 rfl ?_
      refine x_iadd (pc := 34) d39_34 ?_
      refine x_bipush (pc := 35) (v := (-2)) d39_35 (by decide) ?_
      refine z_iast (pc := 37) d39_37 (shP7 p hp) (by decide) h (fun s6 h => ?_)
      refine y_inc (pc := 38) (c := (1)) d39_38 (by decide) (by decide) rfl ?_
      refine x_goto (pc := 41) (tgt := 21) d39_41 (by decide) ?_
      refine wp_lv (lv' := [(0, .ref (PA p)), (2, .int x2), (3, .int (x3 + (1 : Int32)))]) ⟨rfl, rfl, rfl, trivial⟩ ?_
      exact ih x2 (x3 + (1 : Int32)) s6 h
def k_addStatement (p : Nat) (a0 : Int32) (s : St) : Option (Int32 × St) := bnd (s.1 64 p 0) fun v1 => grd (ib v1 40) (si s 68 p v1.toNatClampNeg a0) fun s2 => grd (ib v1 40) (si s2 73 p v1.toNatClampNeg (-1 : Int32)) fun s3 => k_addStatement_21 p 5 v1 (0 : Int32) s3
set_option maxRecDepth 100000 in
theorem t_k_addStatement (p : Nat) (hp : p < 13) (a0 : Int32) (s : St) (r : Int32 × St) (h : k_addStatement p a0 s = some r) : Ri 0 39 [.ref (PA p), .int a0] s (fun v s1 => (v, s1) = r) := by
  refine ct_of (by decide +kernel) (Nat.le_of_ble_eq_true rfl) ?_
  show Wp _ _ _ _ _ _ [(0, .ref (PA p)), (1, .int a0)] _ _ _
  unfold k_addStatement at h
  refine x_aload_n (pc := 0) d39_0 rfl ?_
  refine z_geti (pc := 1) d39_1 fk4_43 (shP p hp) rfl h (fun v1 h => ?_)
  refine x_istore_n (pc := 4) d39_4 (by decide) ?_
  refine x_aload_n (pc := 5) d39_5 rfl ?_
  refine y_getr (pc := 6) d39_6 fk4_9 (shP p hp) rfl ?_
  refine x_iload_n (pc := 9) d39_9 rfl ?_
  refine x_iload_n (pc := 10) d39_10 rfl ?_
  refine z_iast (pc := 11) d39_11 (shP1 p hp) (by decide) h (fun s2 h => ?_)
  refine x_aload_n (pc := 12) d39_12 rfl ?_
  refine y_getr (pc := 13) d39_13 fk4_27 (shP p hp) rfl ?_
  refine x_iload_n (pc := 16) d39_16 rfl ?_
  refine x_iconst (pc := 17) (v := (-1)) d39_17 (by decide) ?_
  refine z_iast (pc := 18) d39_18 (shP6 p hp) (by decide) h (fun s3 h => ?_)
  refine x_iconst (pc := 19) (v := (0)) d39_19 (by decide) ?_
  refine x_istore_n (pc := 20) d39_20 (by decide) ?_
  refine wp_lv (lv' := [(0, .ref (PA p)), (2, .int v1), (3, .int (0 : Int32))]) ⟨rfl, rfl, rfl, trivial⟩ ?_
  exact t_k_addStatement_21 p hp 5 v1 (0 : Int32) s3 h
def k_is (a0 : Int32) (s : St) : Option (Int32 × St) := bnd (s.1 50 0 0) fun v1 => grd (ib v1 801) (s.1 96 0 v1.toNatClampNeg) fun v2 => if v2 = a0 then (bnd (s.1 50 0 0) fun v3 => bnd (si s 50 0 0 (v3 + (1 : Int32))) fun s4 => some ((1 : Int32), s4)) else (some ((0 : Int32), s))
set_option maxRecDepth 100000 in
theorem t_k_is (a0 : Int32) (s : St) (r : Int32 × St) (h : k_is a0 s = some r) : Ri 0 41 [.ref 5, .int a0] s (fun v s1 => (v, s1) = r) := by
  refine ct_of (by decide +kernel) (Nat.le_of_ble_eq_true rfl) ?_
  show Wp _ _ _ _ _ _ [(0, .ref 5), (1, .int a0)] _ _ _
  unfold k_is at h
  refine x_aload_n (pc := 0) d41_0 rfl ?_
  refine y_getr (pc := 1) d41_1 fk3_12 shL5 rfl ?_
  refine y_getr (pc := 4) d41_4 fk3_46 shL6 rfl ?_
  refine x_aload_n (pc := 7) d41_7 rfl ?_
  refine z_geti (pc := 8) d41_8 fk3_31 shL5 rfl h (fun v1 h => ?_)
  refine z_iald (pc := 11) d41_11 shL7 (by decide) h (fun v2 h => ?_)
  refine x_iload_n (pc := 12) d41_12 rfl ?_
  refine z_icmp_eq (pc := 13) (tgt := 18) d41_13 (by decide) h (fun h => ?_) (fun h => ?_)
  · skip
    refine x_aload_n (pc := 18) d41_18 rfl ?_
    refine x_dup (pc := 19) d41_19 rfl ?_
    refine z_geti (pc := 20) d41_20 fk3_31 shL5 rfl h (fun v3 h => ?_)
    refine x_iconst (pc := 23) (v := (1)) d41_23 (by decide) ?_
    refine x_iadd (pc := 24) d41_24 ?_
    refine z_puti (pc := 25) d41_25 fk3_31 shL5 rfl rfl ⟨rfl, rfl⟩ h (fun s4 h => ?_)
    refine x_iconst (pc := 28) (v := (1)) d41_28 (by decide) ?_
    exact z_zretc (pc := 29) d41_29 rfl (Or.inr rfl) h
  · skip
    refine x_iconst (pc := 16) (v := (0)) d41_16 (by decide) ?_
    exact z_zretc (pc := 17) d41_17 rfl (Or.inl rfl) h
def k_isLocal (a0 : Int32) (s : St) : Option (Int32 × St) := grd (ib (s.1 49 0 0) 13) (s.1 49 0 0).toNatClampNeg fun p1 => bnd (s.1 50 0 0) fun v2 => grd (ib v2 801) (s.1 97 0 v2.toNatClampNeg) fun v3 => grd (ib a0 40) (si s 69 p1 a0.toNatClampNeg v3) fun s4 => cal2 (k_is (2 : Int32) s4) fun v6 s5 => grd (zo v6) (v6, s5) some
set_option maxRecDepth 100000 in
theorem t_k_isLocal (a0 : Int32) (s : St) (r : Int32 × St) (h : k_isLocal a0 s = some r) : Ri 1 40 [.ref 5, .int a0] s (fun v s1 => (v, s1) = r) := by
  refine ct_of (by decide +kernel) (Nat.le_of_ble_eq_true rfl) ?_
  show Wp _ _ _ _ _ _ [(0, .ref 5), (1, .int a0)] _ _ _
  unfold k_isLocal at h
  refine x_aload_n (pc := 0) d40_0 rfl ?_
  refine z_getp (pc := 1) d40_1 fk3_27 shL5 rfl h (fun p1 hp1 h => ?_)
  refine y_getr (pc := 4) d40_4 fk3_89 (shP p1 hp1) rfl ?_
  refine x_iload_n (pc := 7) d40_7 rfl ?_
  refine x_aload_n (pc := 8) d40_8 rfl ?_
  refine y_getr (pc := 9) d40_9 fk3_12 shL5 rfl ?_
  refine y_getr (pc := 12) d40_12 fk3_92 shL6 rfl ?_
  refine x_aload_n (pc := 15) d40_15 rfl ?_
  refine z_geti (pc := 16) d40_16 fk3_31 shL5 rfl h (fun v2 h => ?_)
  refine z_iald (pc := 19) d40_19 shL8 (by decide) h (fun v3 h => ?_)
  refine z_iast (pc := 20) d40_20 (shP2 p1 hp1) (by decide) h (fun s4 h => ?_)
  refine x_aload_n (pc := 21) d40_21 rfl ?_
  refine x_iconst (pc := 22) (v := (2)) d40_22 (by decide) ?_
  refine z_cV1i (pc := 23) d40_23 ml3_69 mv41 shL5 (t_k_is (2 : Int32) s4) (by decide) (Nat.le_of_ble_eq_true rfl) ⟨Nat.zero_le _, Nat.zero_le _⟩ h (fun v6 s5 h => ?_)
  exact z_zret (pc := 26) d40_26 rfl h
def k_isNumberOf_49 (s : St) : Option (Int32 × St) := some ((0 : Int32), s)
set_option maxRecDepth 100000 in
theorem t_k_isNumberOf_49 {r : Int32 × St} : ∀ (s : St), k_isNumberOf_49 s = some r → Wp (rmd 1 0 0) 52 (zi (fun v s1 => (v, s1) = r)) 0 0 49 [] [] (mk s) TT := by
  intro s h
  unfold k_isNumberOf_49 at h
  refine x_iconst (pc := 49) (v := (0)) d52_49 (by decide) ?_
  exact z_zretc (pc := 50) d52_50 rfl (Or.inl rfl) h
def k_isNumberOf (a0 : Int32) (a1 : Int32) (a2 : Int32) (s : St) : Option (Int32 × St) := grd (ib (s.1 49 0 0) 13) (s.1 49 0 0).toNatClampNeg fun p1 => bnd (s.1 50 0 0) fun v2 => grd (ib v2 801) (s.1 97 0 v2.toNatClampNeg) fun v3 => grd (ib a0 40) (si s 70 p1 a0.toNatClampNeg v3) fun s4 => bnd (s4.1 50 0 0) fun v5 => grd (ib v5 801) (s4.1 97 0 v5.toNatClampNeg) fun v6 => if a2 ≤ v6 then (k_isNumberOf_49 s4) else (cal2 (k_is a1 s4) fun v8 s7 => if v8 = 0 then (k_isNumberOf_49 s7) else (some ((1 : Int32), s7)))
set_option maxRecDepth 100000 in
theorem t_k_isNumberOf (a0 : Int32) (a1 : Int32) (a2 : Int32) (s : St) (r : Int32 × St) (h : k_isNumberOf a0 a1 a2 s = some r) : Ri 1 52 [.ref 5, .int a0, .int a1, .int a2] s (fun v s1 => (v, s1) = r) := by
  refine ct_of (by decide +kernel) (Nat.le_of_ble_eq_true rfl) ?_
  show Wp _ _ _ _ _ _ [(0, .ref 5), (1, .int a0), (2, .int a1), (3, .int a2)] _ _ _
  unfold k_isNumberOf at h
  refine x_aload_n (pc := 0) d52_0 rfl ?_
  refine z_getp (pc := 1) d52_1 fk3_27 shL5 rfl h (fun p1 hp1 h => ?_)
  refine y_getr (pc := 4) d52_4 fk3_95 (shP p1 hp1) rfl ?_
  refine x_iload_n (pc := 7) d52_7 rfl ?_
  refine x_aload_n (pc := 8) d52_8 rfl ?_
  refine y_getr (pc := 9) d52_9 fk3_12 shL5 rfl ?_
  refine y_getr (pc := 12) d52_12 fk3_92 shL6 rfl ?_
  refine x_aload_n (pc := 15) d52_15 rfl ?_
  refine z_geti (pc := 16) d52_16 fk3_31 shL5 rfl h (fun v2 h => ?_)
  refine z_iald (pc := 19) d52_19 shL8 (by decide) h (fun v3 h => ?_)
  refine z_iast (pc := 20) d52_20 (shP3 p1 hp1) (by decide) h (fun s4 h => ?_)
  refine x_aload_n (pc := 21) d52_21 rfl ?_
  refine y_getr (pc := 22) d52_22 fk3_12 shL5 rfl ?_
  refine y_getr (pc := 25) d52_25 fk3_92 shL6 rfl ?_
  refine x_aload_n (pc := 28) d52_28 rfl ?_
  refine z_geti (pc := 29) d52_29 fk3_31 shL5 rfl h (fun v5 h => ?_)
  refine z_iald (pc := 32) d52_32 shL8 (by decide) h (fun v6 h => ?_)
  refine x_iload_n (pc := 33) d52_33 rfl ?_
  refine z_icmp_ge (pc := 34) (tgt := 49) d52_34 (by decide) h (fun h => ?_) (fun h => ?_)
  · skip
    refine wp_lv (lv' := []) trivial ?_
    exact t_k_isNumberOf_49 s4 h
  · skip
    refine x_aload_n (pc := 37) d52_37 rfl ?_
    refine x_iload_n (pc := 38) d52_38 rfl ?_
    refine z_cV1i (pc := 39) d52_39 ml3_69 mv41 shL5 (t_k_is a1 s4) (by decide) (Nat.le_of_ble_eq_true rfl) ⟨Nat.zero_le _, Nat.zero_le _⟩ h (fun v8 s7 h => ?_)
    refine z_if_eq (pc := 42) (tgt := 49) d52_42 (by decide) h (fun h => ?_) (fun h => ?_)
    · skip
      refine wp_lv (lv' := []) trivial ?_
      exact t_k_isNumberOf_49 s7 h
    · skip
      refine x_iconst (pc := 45) (v := (1)) d52_45 (by decide) ?_
      refine x_goto (pc := 46) (tgt := 50) d52_46 (by decide) ?_
      exact z_zretc (pc := 50) d52_50 rfl (Or.inr rfl) h
def k_beginsStatement (a0 : Int32) (s : St) : Option (Int32 × St) := if a0 = 2 then (some ((1 : Int32), s)) else if a0 = 5 then (some ((1 : Int32), s)) else if a0 = 6 then (some ((1 : Int32), s)) else if a0 = 8 then (some ((1 : Int32), s)) else if a0 = 9 then (some ((1 : Int32), s)) else if a0 = 11 then (some ((1 : Int32), s)) else if a0 = 13 then (some ((1 : Int32), s)) else if a0 = 14 then (some ((1 : Int32), s)) else if a0 = 15 then (some ((1 : Int32), s)) else if a0 = 16 then (some ((1 : Int32), s)) else if a0 = 17 then (some ((1 : Int32), s)) else if a0 = 18 then (some ((1 : Int32), s)) else if a0 = 20 then (some ((1 : Int32), s)) else if a0 = 23 then (some ((1 : Int32), s)) else (some ((0 : Int32), s))
set_option maxRecDepth 100000 in
theorem t_k_beginsStatement (a0 : Int32) (s : St) (r : Int32 × St) (h : k_beginsStatement a0 s = some r) : Ri 0 38 [.int a0] s (fun v s1 => (v, s1) = r) := by
  refine ct_of (by decide +kernel) (Nat.le_of_ble_eq_true rfl) ?_
  show Wp _ _ _ _ _ _ [(0, .int a0)] _ _ _
  unfold k_beginsStatement at h
  refine x_iload_n (pc := 0) d38_0 rfl ?_
  by_cases hk2 : a0 = 2
  · replace h := ip hk2 h
    refine x_tableIn (pc := 1) (tgt := 104) (off := 103) d38_1 (by rw [hk2]; decide) (by rw [hk2]; decide) (by rw [hk2]; decide) (by decide) ?_
    refine x_iconst (pc := 104) (v := (1)) d38_104 (by decide) ?_
    exact z_zretc (pc := 105) d38_105 rfl (Or.inr rfl) h
  replace h := im hk2 h
  by_cases hk5 : a0 = 5
  · replace h := ip hk5 h
    refine x_tableIn (pc := 1) (tgt := 104) (off := 103) d38_1 (by rw [hk5]; decide) (by rw [hk5]; decide) (by rw [hk5]; decide) (by decide) ?_
    refine x_iconst (pc := 104) (v := (1)) d38_104 (by decide) ?_
    exact z_zretc (pc := 105) d38_105 rfl (Or.inr rfl) h
  replace h := im hk5 h
  by_cases hk6 : a0 = 6
  · replace h := ip hk6 h
    refine x_tableIn (pc := 1) (tgt := 104) (off := 103) d38_1 (by rw [hk6]; decide) (by rw [hk6]; decide) (by rw [hk6]; decide) (by decide) ?_
    refine x_iconst (pc := 104) (v := (1)) d38_104 (by decide) ?_
    exact z_zretc (pc := 105) d38_105 rfl (Or.inr rfl) h
  replace h := im hk6 h
  by_cases hk8 : a0 = 8
  · replace h := ip hk8 h
    refine x_tableIn (pc := 1) (tgt := 104) (off := 103) d38_1 (by rw [hk8]; decide) (by rw [hk8]; decide) (by rw [hk8]; decide) (by decide) ?_
    refine x_iconst (pc := 104) (v := (1)) d38_104 (by decide) ?_
    exact z_zretc (pc := 105) d38_105 rfl (Or.inr rfl) h
  replace h := im hk8 h
  by_cases hk9 : a0 = 9
  · replace h := ip hk9 h
    refine x_tableIn (pc := 1) (tgt := 104) (off := 103) d38_1 (by rw [hk9]; decide) (by rw [hk9]; decide) (by rw [hk9]; decide) (by decide) ?_
    refine x_iconst (pc := 104) (v := (1)) d38_104 (by decide) ?_
    exact z_zretc (pc := 105) d38_105 rfl (Or.inr rfl) h
  replace h := im hk9 h
  by_cases hk11 : a0 = 11
  · replace h := ip hk11 h
    refine x_tableIn (pc := 1) (tgt := 104) (off := 103) d38_1 (by rw [hk11]; decide) (by rw [hk11]; decide) (by rw [hk11]; decide) (by decide) ?_
    refine x_iconst (pc := 104) (v := (1)) d38_104 (by decide) ?_
    exact z_zretc (pc := 105) d38_105 rfl (Or.inr rfl) h
  replace h := im hk11 h
  by_cases hk13 : a0 = 13
  · replace h := ip hk13 h
    refine x_tableIn (pc := 1) (tgt := 104) (off := 103) d38_1 (by rw [hk13]; decide) (by rw [hk13]; decide) (by rw [hk13]; decide) (by decide) ?_
    refine x_iconst (pc := 104) (v := (1)) d38_104 (by decide) ?_
    exact z_zretc (pc := 105) d38_105 rfl (Or.inr rfl) h
  replace h := im hk13 h
  by_cases hk14 : a0 = 14
  · replace h := ip hk14 h
    refine x_tableIn (pc := 1) (tgt := 104) (off := 103) d38_1 (by rw [hk14]; decide) (by rw [hk14]; decide) (by rw [hk14]; decide) (by decide) ?_
    refine x_iconst (pc := 104) (v := (1)) d38_104 (by decide) ?_
    exact z_zretc (pc := 105) d38_105 rfl (Or.inr rfl) h
  replace h := im hk14 h
  by_cases hk15 : a0 = 15
  · replace h := ip hk15 h
    refine x_tableIn (pc := 1) (tgt := 104) (off := 103) d38_1 (by rw [hk15]; decide) (by rw [hk15]; decide) (by rw [hk15]; decide) (by decide) ?_
    refine x_iconst (pc := 104) (v := (1)) d38_104 (by decide) ?_
    exact z_zretc (pc := 105) d38_105 rfl (Or.inr rfl) h
  replace h := im hk15 h
  by_cases hk16 : a0 = 16
  · replace h := ip hk16 h
    refine x_tableIn (pc := 1) (tgt := 104) (off := 103) d38_1 (by rw [hk16]; decide) (by rw [hk16]; decide) (by rw [hk16]; decide) (by decide) ?_
    refine x_iconst (pc := 104) (v := (1)) d38_104 (by decide) ?_
    exact z_zretc (pc := 105) d38_105 rfl (Or.inr rfl) h
  replace h := im hk16 h
  by_cases hk17 : a0 = 17
  · replace h := ip hk17 h
    refine x_tableIn (pc := 1) (tgt := 104) (off := 103) d38_1 (by rw [hk17]; decide) (by rw [hk17]; decide) (by rw [hk17]; decide) (by decide) ?_
    refine x_iconst (pc := 104) (v := (1)) d38_104 (by decide) ?_
    exact z_zretc (pc := 105) d38_105 rfl (Or.inr rfl) h
  replace h := im hk17 h
  by_cases hk18 : a0 = 18
  · replace h := ip hk18 h
    refine x_tableIn (pc := 1) (tgt := 104) (off := 103) d38_1 (by rw [hk18]; decide) (by rw [hk18]; decide) (by rw [hk18]; decide) (by decide) ?_
    refine x_iconst (pc := 104) (v := (1)) d38_104 (by decide) ?_
    exact z_zretc (pc := 105) d38_105 rfl (Or.inr rfl) h
  replace h := im hk18 h
  by_cases hk20 : a0 = 20
  · replace h := ip hk20 h
    refine x_tableIn (pc := 1) (tgt := 104) (off := 103) d38_1 (by rw [hk20]; decide) (by rw [hk20]; decide) (by rw [hk20]; decide) (by decide) ?_
    refine x_iconst (pc := 104) (v := (1)) d38_104 (by decide) ?_
    exact z_zretc (pc := 105) d38_105 rfl (Or.inr rfl) h
  replace h := im hk20 h
  by_cases hk23 : a0 = 23
  · replace h := ip hk23 h
    refine x_tableIn (pc := 1) (tgt := 104) (off := 103) d38_1 (by rw [hk23]; decide) (by rw [hk23]; decide) (by rw [hk23]; decide) (by decide) ?_
    refine x_iconst (pc := 104) (v := (1)) d38_104 (by decide) ?_
    exact z_zretc (pc := 105) d38_105 rfl (Or.inr rfl) h
  replace h := im hk23 h
  have z2 : ¬ (a0).toInt = 2 := lv_neT hk2 (by decide)
  have z5 : ¬ (a0).toInt = 5 := lv_neT hk5 (by decide)
  have z6 : ¬ (a0).toInt = 6 := lv_neT hk6 (by decide)
  have z8 : ¬ (a0).toInt = 8 := lv_neT hk8 (by decide)
  have z9 : ¬ (a0).toInt = 9 := lv_neT hk9 (by decide)
  have z11 : ¬ (a0).toInt = 11 := lv_neT hk11 (by decide)
  have z13 : ¬ (a0).toInt = 13 := lv_neT hk13 (by decide)
  have z14 : ¬ (a0).toInt = 14 := lv_neT hk14 (by decide)
  have z15 : ¬ (a0).toInt = 15 := lv_neT hk15 (by decide)
  have z16 : ¬ (a0).toInt = 16 := lv_neT hk16 (by decide)
  have z17 : ¬ (a0).toInt = 17 := lv_neT hk17 (by decide)
  have z18 : ¬ (a0).toInt = 18 := lv_neT hk18 (by decide)
  have z20 : ¬ (a0).toInt = 20 := lv_neT hk20 (by decide)
  have z23 : ¬ (a0).toInt = 23 := lv_neT hk23 (by decide)
  have hD : Wp (rmd 0 0 0) 38 (zi (fun v s1 => (v, s1) = r)) 0 0 106 [] [] (mk s) TT := by
    refine x_iconst (pc := 106) (v := (0)) d38_106 (by decide) ?_
    exact z_zretc (pc := 107) d38_107 rfl (Or.inl rfl) h
  rcases (by omega : (a0).toInt < 2 ∨ 23 < (a0).toInt ∨ (a0).toInt = 3 ∨ (a0).toInt = 4 ∨ (a0).toInt = 7 ∨ (a0).toInt = 10 ∨ (a0).toInt = 12 ∨ (a0).toInt = 19 ∨ (a0).toInt = 21 ∨ (a0).toInt = 22) with zz | zz | zz | zz | zz | zz | zz | zz | zz | zz
  · exact x_tableOut (pc := 1) (tgt := 106) d38_1 (Or.inl zz) (by decide) (wp_lv (lv' := []) trivial hD)
  · exact x_tableOut (pc := 1) (tgt := 106) d38_1 (Or.inr zz) (by decide) (wp_lv (lv' := []) trivial hD)
  · exact x_tableIn (pc := 1) (tgt := 106) (off := 105) d38_1 (by rw [zz]; decide) (by rw [zz]; decide) (by rw [zz]; rfl) (by decide) (wp_lv (lv' := []) trivial hD)
  · exact x_tableIn (pc := 1) (tgt := 106) (off := 105) d38_1 (by rw [zz]; decide) (by rw [zz]; decide) (by rw [zz]; rfl) (by decide) (wp_lv (lv' := []) trivial hD)
  · exact x_tableIn (pc := 1) (tgt := 106) (off := 105) d38_1 (by rw [zz]; decide) (by rw [zz]; decide) (by rw [zz]; rfl) (by decide) (wp_lv (lv' := []) trivial hD)
  · exact x_tableIn (pc := 1) (tgt := 106) (off := 105) d38_1 (by rw [zz]; decide) (by rw [zz]; decide) (by rw [zz]; rfl) (by decide) (wp_lv (lv' := []) trivial hD)
  · exact x_tableIn (pc := 1) (tgt := 106) (off := 105) d38_1 (by rw [zz]; decide) (by rw [zz]; decide) (by rw [zz]; rfl) (by decide) (wp_lv (lv' := []) trivial hD)
  · exact x_tableIn (pc := 1) (tgt := 106) (off := 105) d38_1 (by rw [zz]; decide) (by rw [zz]; decide) (by rw [zz]; rfl) (by decide) (wp_lv (lv' := []) trivial hD)
  · exact x_tableIn (pc := 1) (tgt := 106) (off := 105) d38_1 (by rw [zz]; decide) (by rw [zz]; decide) (by rw [zz]; rfl) (by decide) (wp_lv (lv' := []) trivial hD)
  · exact x_tableIn (pc := 1) (tgt := 106) (off := 105) d38_1 (by rw [zz]; decide) (by rw [zz]; decide) (by rw [zz]; rfl) (by decide) (wp_lv (lv' := []) trivial hD)
def k_isExp_77 (fE fS fP fU : Fx1) (s : St) : Option (Int32 × St) := some ((0 : Int32), s)
set_option maxRecDepth 100000 in
theorem t_k_isExp_77 (fE fS fP fU : Fx1) (d : Nat) (hE : ∀ (a0 : Int32) (s : St) (r : Int32 × St), fE a0 s = some r → Ri (d) 43 [.ref 5, .int a0] s (fun v s1 => (v, s1) = r)) (hS : ∀ (a0 : Int32) (s : St) (r : Int32 × St), fS a0 s = some r → Ri (d) 44 [.ref 5, .int a0] s (fun v s1 => (v, s1) = r)) (hP : ∀ (a0 : Int32) (s : St) (r : Int32 × St), fP a0 s = some r → Ri (d) 45 [.ref 5, .int a0] s (fun v s1 => (v, s1) = r)) (hU : ∀ (a0 : Int32) (s : St) (r : Int32 × St), fU a0 s = some r → Ri (d) 46 [.ref 5, .int a0] s (fun v s1 => (v, s1) = r)) {r : Int32 × St} : ∀ (s : St), k_isExp_77 fE fS fP fU s = some r → Wp (rmd (d + 1) 0 0) 43 (zi (fun v s1 => (v, s1) = r)) 0 0 77 [] [] (mk s) TT := by
  intro s h
  unfold k_isExp_77 at h
  refine x_iconst (pc := 77) (v := (0)) d43_77 (by decide) ?_
  exact z_zretc (pc := 78) d43_78 rfl (Or.inl rfl) h
def k_isExp_43 (fE fS fP fU : Fx1) (x1 : Int32) (x2 : Int32) (s : St) : Option (Int32 × St) := bnd (s.1 50 0 0) fun v5 => bnd (si s 50 0 0 (v5 + (1 : Int32))) fun s6 => cal2 (fS x1 s6) fun v8 s7 => if v8 = 0 then (k_isExp_77 fE fS fP fU s7) else (grd (ib (s7.1 49 0 0) 13) (s7.1 49 0 0).toNatClampNeg fun p9 => cal2 (k_addCode p9 x2 (0 : Int32) s7) fun v11 s10 => if v11 = 0 then (k_isExp_77 fE fS fP fU s10) else (some ((1 : Int32), s10)))
set_option maxRecDepth 100000 in
theorem t_k_isExp_43 (fE fS fP fU : Fx1) (d : Nat) (hE : ∀ (a0 : Int32) (s : St) (r : Int32 × St), fE a0 s = some r → Ri (d) 43 [.ref 5, .int a0] s (fun v s1 => (v, s1) = r)) (hS : ∀ (a0 : Int32) (s : St) (r : Int32 × St), fS a0 s = some r → Ri (d) 44 [.ref 5, .int a0] s (fun v s1 => (v, s1) = r)) (hP : ∀ (a0 : Int32) (s : St) (r : Int32 × St), fP a0 s = some r → Ri (d) 45 [.ref 5, .int a0] s (fun v s1 => (v, s1) = r)) (hU : ∀ (a0 : Int32) (s : St) (r : Int32 × St), fU a0 s = some r → Ri (d) 46 [.ref 5, .int a0] s (fun v s1 => (v, s1) = r)) {r : Int32 × St} : ∀ (x1 : Int32) (x2 : Int32) (s : St), k_isExp_43 fE fS fP fU x1 x2 s = some r → Wp (rmd (d + 1) 0 0) 43 (zi (fun v s1 => (v, s1) = r)) 0 0 43 [(0, .ref 5), (1, .int x1), (2, .int x2)] [] (mk s) TT := by
  intro x1 x2 s h
  unfold k_isExp_43 at h
  refine x_aload_n (pc := 43) d43_43 rfl ?_
  refine x_dup (pc := 44) d43_44 rfl ?_
  refine z_geti (pc := 45) d43_45 fk3_31 shL5 rfl h (fun v5 h => ?_)
  refine x_iconst (pc := 48) (v := (1)) d43_48 (by decide) ?_
  refine x_iadd (pc := 49) d43_49 ?_
  refine z_puti (pc := 50) d43_50 fk3_31 shL5 rfl rfl ⟨rfl, rfl⟩ h (fun s6 h => ?_)
  refine x_aload_n (pc := 53) d43_53 rfl ?_
  refine x_iload_n (pc := 54) d43_54 rfl ?_
  refine z_cV1i (pc := 55) d43_55 ml3_119 mv44 shL5 (hS x1 s6) (rd1 (by decide)) (Nat.le_of_ble_eq_true rfl) ⟨Nat.zero_le _, Nat.zero_le _⟩ h (fun v8 s7 h => ?_)
  refine z_if_eq (pc := 58) (tgt := 77) d43_58 (by decide) h (fun h => ?_) (fun h => ?_)
  · skip
    refine wp_lv (lv' := []) trivial ?_
    exact t_k_isExp_77 fE fS fP fU d hE hS hP hU s7 h
  · skip
    refine x_aload_n (pc := 61) d43_61 rfl ?_
    refine z_getp (pc := 62) d43_62 fk3_27 shL5 rfl h (fun p9 hp9 h => ?_)
    refine x_iload_n (pc := 65) d43_65 rfl ?_
    refine x_iconst (pc := 66) (v := (0)) d43_66 (by decide) ?_
    refine z_cV2i (pc := 67) d43_67 ml3_122 mv47 (shP p9 hp9) (t_k_addCode p9 hp9 x2 (0 : Int32) s7) (rdk (k := 0) (e := 0) (by decide) (by decide)) (Nat.le_of_ble_eq_true rfl) ⟨Nat.zero_le _, Nat.zero_le _⟩ h (fun v11 s10 h => ?_)
    refine z_if_eq (pc := 70) (tgt := 77) d43_70 (by decide) h (fun h => ?_) (fun h => ?_)
    · skip
      refine wp_lv (lv' := []) trivial ?_
      exact t_k_isExp_77 fE fS fP fU d hE hS hP hU s10 h
    · skip
      refine x_iconst (pc := 73) (v := (1)) d43_73 (by decide) ?_
      refine x_goto (pc := 74) (tgt := 78) d43_74 (by decide) ?_
      exact z_zretc (pc := 78) d43_78 rfl (Or.inr rfl) h
def k_isExp (fE fS fP fU : Fx1) (a0 : Int32) (s : St) : Option (Int32 × St) := cal2 (fS a0 s) fun v2 s1 => if v2 = 0 then (some ((0 : Int32), s1)) else (bnd (s1.1 50 0 0) fun v3 => grd (ib v3 801) (s1.1 96 0 v3.toNatClampNeg) fun v4 => if v4 = (60 : Int32) then (k_isExp_43 fE fS fP fU a0 v4 s1) else (if v4 = (61 : Int32) then (k_isExp_43 fE fS fP fU a0 v4 s1) else (if v4 = (35 : Int32) then (k_isExp_43 fE fS fP fU a0 v4 s1) else (some ((1 : Int32), s1)))))
set_option maxRecDepth 100000 in
theorem t_k_isExp (fE fS fP fU : Fx1) (d : Nat) (hE : ∀ (a0 : Int32) (s : St) (r : Int32 × St), fE a0 s = some r → Ri (d) 43 [.ref 5, .int a0] s (fun v s1 => (v, s1) = r)) (hS : ∀ (a0 : Int32) (s : St) (r : Int32 × St), fS a0 s = some r → Ri (d) 44 [.ref 5, .int a0] s (fun v s1 => (v, s1) = r)) (hP : ∀ (a0 : Int32) (s : St) (r : Int32 × St), fP a0 s = some r → Ri (d) 45 [.ref 5, .int a0] s (fun v s1 => (v, s1) = r)) (hU : ∀ (a0 : Int32) (s : St) (r : Int32 × St), fU a0 s = some r → Ri (d) 46 [.ref 5, .int a0] s (fun v s1 => (v, s1) = r)) (a0 : Int32) (s : St) (r : Int32 × St) (h : k_isExp fE fS fP fU a0 s = some r) : Ri (d + 1) 43 [.ref 5, .int a0] s (fun v s1 => (v, s1) = r) := by
  refine ct_of (by decide +kernel) (Nat.le_of_ble_eq_true rfl) ?_
  show Wp _ _ _ _ _ _ [(0, .ref 5), (1, .int a0)] _ _ _
  unfold k_isExp at h
  refine x_aload_n (pc := 0) d43_0 rfl ?_
  refine x_iload_n (pc := 1) d43_1 rfl ?_
  refine z_cV1i (pc := 2) d43_2 ml3_119 mv44 shL5 (hS a0 s) (rd1 (by decide)) (Nat.le_of_ble_eq_true rfl) ⟨Nat.zero_le _, Nat.zero_le _⟩ h (fun v2 s1 h => ?_)
  refine z_if_ne (pc := 5) (tgt := 10) d43_5 (by decide) h (fun h => ?_) (fun h => ?_)
  · skip
    refine x_aload_n (pc := 10) d43_10 rfl ?_
    refine y_getr (pc := 11) d43_11 fk3_12 shL5 rfl ?_
    refine y_getr (pc := 14) d43_14 fk3_46 shL6 rfl ?_
    refine x_aload_n (pc := 17) d43_17 rfl ?_
    refine z_geti (pc := 18) d43_18 fk3_31 shL5 rfl h (fun v3 h => ?_)
    refine z_iald (pc := 21) d43_21 shL7 (by decide) h (fun v4 h => ?_)
    refine x_istore_n (pc := 22) d43_22 (by decide) ?_
    refine x_iload_n (pc := 23) d43_23 rfl ?_
    refine x_bipush (pc := 24) (v := (60)) d43_24 (by decide) ?_
    refine z_icmp_eq (pc := 26) (tgt := 43) d43_26 (by decide) h (fun h => ?_) (fun h => ?_)
    · skip
      refine wp_lv (lv' := [(0, .ref 5), (1, .int a0), (2, .int v4)]) ⟨rfl, rfl, rfl, trivial⟩ ?_
      exact t_k_isExp_43 fE fS fP fU d hE hS hP hU a0 v4 s1 h
    · skip
      refine x_iload_n (pc := 29) d43_29 rfl ?_
      refine x_bipush (pc := 30) (v := (61)) d43_30 (by decide) ?_
      refine z_icmp_eq (pc := 32) (tgt := 43) d43_32 (by decide) h (fun h => ?_) (fun h => ?_)
      · skip
        refine wp_lv (lv' := [(0, .ref 5), (1, .int a0), (2, .int v4)]) ⟨rfl, rfl, rfl, trivial⟩ ?_
        exact t_k_isExp_43 fE fS fP fU d hE hS hP hU a0 v4 s1 h
      · skip
        refine x_iload_n (pc := 35) d43_35 rfl ?_
        refine x_bipush (pc := 36) (v := (35)) d43_36 (by decide) ?_
        refine z_icmp_eq (pc := 38) (tgt := 43) d43_38 (by decide) h (fun h => ?_) (fun h => ?_)
        · skip
          refine wp_lv (lv' := [(0, .ref 5), (1, .int a0), (2, .int v4)]) ⟨rfl, rfl, rfl, trivial⟩ ?_
          exact t_k_isExp_43 fE fS fP fU d hE hS hP hU a0 v4 s1 h
        · skip
          refine x_iconst (pc := 41) (v := (1)) d43_41 (by decide) ?_
          exact z_zretc (pc := 42) d43_42 rfl (Or.inr rfl) h
  · skip
    refine x_iconst (pc := 8) (v := (0)) d43_8 (by decide) ?_
    exact z_zretc (pc := 9) d43_9 rfl (Or.inl rfl) h
def k_isSum_84 (fE fS fP fU : Fx1) (K8 : Int32 → Int32 → Int32 → St → Option (Int32 × St)) (x1 : Int32) (x3 : Int32) (y0 : Int32) (s : St) : Option (Int32 × St) := K8 x1 y0 (x3 + (1 : Int32)) s
set_option maxRecDepth 100000 in
theorem t_k_isSum_84 (fE fS fP fU : Fx1) (d : Nat) (hE : ∀ (a0 : Int32) (s : St) (r : Int32 × St), fE a0 s = some r → Ri (d) 43 [.ref 5, .int a0] s (fun v s1 => (v, s1) = r)) (hS : ∀ (a0 : Int32) (s : St) (r : Int32 × St), fS a0 s = some r → Ri (d) 44 [.ref 5, .int a0] s (fun v s1 => (v, s1) = r)) (hP : ∀ (a0 : Int32) (s : St) (r : Int32 × St), fP a0 s = some r → Ri (d) 45 [.ref 5, .int a0] s (fun v s1 => (v, s1) = r)) (hU : ∀ (a0 : Int32) (s : St) (r : Int32 × St), fU a0 s = some r → Ri (d) 46 [.ref 5, .int a0] s (fun v s1 => (v, s1) = r)) {r : Int32 × St} (K8 : Int32 → Int32 → Int32 → St → Option (Int32 × St)) (hK8 : ∀ (x1 : Int32) (x2 : Int32) (x3 : Int32) (s : St), K8 x1 x2 x3 s = some r → Wp (rmd (d + 1) 0 0) 44 (zi (fun v s1 => (v, s1) = r)) 0 0 8 [(0, .ref 5), (1, .int x1), (2, .int x2), (3, .int x3)] [] (mk s) TT) : ∀ (x1 : Int32) (x3 : Int32) (y0 : Int32) (s : St), k_isSum_84 fE fS fP fU K8 x1 x3 y0 s = some r → Wp (rmd (d + 1) 0 0) 44 (zi (fun v s1 => (v, s1) = r)) 0 0 84 [(0, .ref 5), (1, .int x1), (3, .int x3)] [.int y0] (mk s) TT := by
  intro x1 x3 y0 s h
  unfold k_isSum_84 at h
  refine x_istore_n (pc := 84) d44_84 (by decide) ?_
  refine y_inc (pc := 85) (c := (1)) d44_85 (by decide) (by decide) rfl ?_
  refine x_goto (pc := 88) (tgt := 8) d44_88 (by decide) ?_
  refine wp_lv (lv' := [(0, .ref 5), (1, .int x1), (2, .int y0), (3, .int (x3 + (1 : Int32)))]) ⟨rfl, rfl, rfl, rfl, trivial⟩ ?_
  exact hK8 x1 y0 (x3 + (1 : Int32)) s h
def k_isSum_83 (fE fS fP fU : Fx1) (K8 : Int32 → Int32 → Int32 → St → Option (Int32 × St)) (x1 : Int32) (x3 : Int32) (s : St) : Option (Int32 × St) := k_isSum_84 fE fS fP fU K8 x1 x3 (0 : Int32) s
set_option maxRecDepth 100000 in
theorem t_k_isSum_83 (fE fS fP fU : Fx1) (d : Nat) (hE : ∀ (a0 : Int32) (s : St) (r : Int32 × St), fE a0 s = some r → Ri (d) 43 [.ref 5, .int a0] s (fun v s1 => (v, s1) = r)) (hS : ∀ (a0 : Int32) (s : St) (r : Int32 × St), fS a0 s = some r → Ri (d) 44 [.ref 5, .int a0] s (fun v s1 => (v, s1) = r)) (hP : ∀ (a0 : Int32) (s : St) (r : Int32 × St), fP a0 s = some r → Ri (d) 45 [.ref 5, .int a0] s (fun v s1 => (v, s1) = r)) (hU : ∀ (a0 : Int32) (s : St) (r : Int32 × St), fU a0 s = some r → Ri (d) 46 [.ref 5, .int a0] s (fun v s1 => (v, s1) = r)) {r : Int32 × St} (K8 : Int32 → Int32 → Int32 → St → Option (Int32 × St)) (hK8 : ∀ (x1 : Int32) (x2 : Int32) (x3 : Int32) (s : St), K8 x1 x2 x3 s = some r → Wp (rmd (d + 1) 0 0) 44 (zi (fun v s1 => (v, s1) = r)) 0 0 8 [(0, .ref 5), (1, .int x1), (2, .int x2), (3, .int x3)] [] (mk s) TT) : ∀ (x1 : Int32) (x3 : Int32) (s : St), k_isSum_83 fE fS fP fU K8 x1 x3 s = some r → Wp (rmd (d + 1) 0 0) 44 (zi (fun v s1 => (v, s1) = r)) 0 0 83 [(0, .ref 5), (1, .int x1), (3, .int x3)] [] (mk s) TT := by
  intro x1 x3 s h
  unfold k_isSum_83 at h
  refine x_iconst (pc := 83) (v := (0)) d44_83 (by decide) ?_
  refine wp_lv (lv' := [(0, .ref 5), (1, .int x1), (3, .int x3)]) ⟨rfl, rfl, rfl, trivial⟩ ?_
  exact t_k_isSum_84 fE fS fP fU d hE hS hP hU K8 hK8 x1 x3 (0 : Int32) s h
def k_isSum_48 (fE fS fP fU : Fx1) (K8 : Int32 → Int32 → Int32 → St → Option (Int32 × St)) (x1 : Int32) (x3 : Int32) (x4 : Int32) (s : St) : Option (Int32 × St) := bnd (s.1 50 0 0) fun v5 => bnd (si s 50 0 0 (v5 + (1 : Int32))) fun s6 => cal2 (fP x1 s6) fun v8 s7 => if v8 = 0 then (k_isSum_83 fE fS fP fU K8 x1 x3 s7) else (grd (ib (s7.1 49 0 0) 13) (s7.1 49 0 0).toNatClampNeg fun p9 => cal2 (k_addCode p9 x4 (0 : Int32) s7) fun v11 s10 => if v11 = 0 then (k_isSum_83 fE fS fP fU K8 x1 x3 s10) else (k_isSum_84 fE fS fP fU K8 x1 x3 (1 : Int32) s10))
set_option maxRecDepth 100000 in
theorem t_k_isSum_48 (fE fS fP fU : Fx1) (d : Nat) (hE : ∀ (a0 : Int32) (s : St) (r : Int32 × St), fE a0 s = some r → Ri (d) 43 [.ref 5, .int a0] s (fun v s1 => (v, s1) = r)) (hS : ∀ (a0 : Int32) (s : St) (r : Int32 × St), fS a0 s = some r → Ri (d) 44 [.ref 5, .int a0] s (fun v s1 => (v, s1) = r)) (hP : ∀ (a0 : Int32) (s : St) (r : Int32 × St), fP a0 s = some r → Ri (d) 45 [.ref 5, .int a0] s (fun v s1 => (v, s1) = r)) (hU : ∀ (a0 : Int32) (s : St) (r : Int32 × St), fU a0 s = some r → Ri (d) 46 [.ref 5, .int a0] s (fun v s1 => (v, s1) = r)) {r : Int32 × St} (K8 : Int32 → Int32 → Int32 → St → Option (Int32 × St)) (hK8 : ∀ (x1 : Int32) (x2 : Int32) (x3 : Int32) (s : St), K8 x1 x2 x3 s = some r → Wp (rmd (d + 1) 0 0) 44 (zi (fun v s1 => (v, s1) = r)) 0 0 8 [(0, .ref 5), (1, .int x1), (2, .int x2), (3, .int x3)] [] (mk s) TT) : ∀ (x1 : Int32) (x3 : Int32) (x4 : Int32) (s : St), k_isSum_48 fE fS fP fU K8 x1 x3 x4 s = some r → Wp (rmd (d + 1) 0 0) 44 (zi (fun v s1 => (v, s1) = r)) 0 0 48 [(0, .ref 5), (1, .int x1), (3, .int x3), (4, .int x4)] [] (mk s) TT := by
  intro x1 x3 x4 s h
  unfold k_isSum_48 at h
  refine x_aload_n (pc := 48) d44_48 rfl ?_
  refine x_dup (pc := 49) d44_49 rfl ?_
  refine z_geti (pc := 50) d44_50 fk3_31 shL5 rfl h (fun v5 h => ?_)
  refine x_iconst (pc := 53) (v := (1)) d44_53 (by decide) ?_
  refine x_iadd (pc := 54) d44_54 ?_
  refine z_puti (pc := 55) d44_55 fk3_31 shL5 rfl rfl ⟨rfl, rfl⟩ h (fun s6 h => ?_)
  refine x_aload_n (pc := 58) d44_58 rfl ?_
  refine x_iload_n (pc := 59) d44_59 rfl ?_
  refine z_cV1i (pc := 60) d44_60 ml3_125 mv45 shL5 (hP x1 s6) (rd1 (by decide)) (Nat.le_of_ble_eq_true rfl) ⟨Nat.zero_le _, Nat.zero_le _⟩ h (fun v8 s7 h => ?_)
  refine z_if_eq (pc := 63) (tgt := 83) d44_63 (by decide) h (fun h => ?_) (fun h => ?_)
  · skip
    refine wp_lv (lv' := [(0, .ref 5), (1, .int x1), (3, .int x3)]) ⟨rfl, rfl, rfl, trivial⟩ ?_
    exact t_k_isSum_83 fE fS fP fU d hE hS hP hU K8 hK8 x1 x3 s7 h
  · skip
    refine x_aload_n (pc := 66) d44_66 rfl ?_
    refine z_getp (pc := 67) d44_67 fk3_27 shL5 rfl h (fun p9 hp9 h => ?_)
    refine x_iload (pc := 70) d44_70 rfl ?_
    refine x_iconst (pc := 72) (v := (0)) d44_72 (by decide) ?_
    refine z_cV2i (pc := 73) d44_73 ml3_122 mv47 (shP p9 hp9) (t_k_addCode p9 hp9 x4 (0 : Int32) s7) (rdk (k := 0) (e := 0) (by decide) (by decide)) (Nat.le_of_ble_eq_true rfl) ⟨Nat.zero_le _, Nat.zero_le _⟩ h (fun v11 s10 h => ?_)
    refine z_if_eq (pc := 76) (tgt := 83) d44_76 (by decide) h (fun h => ?_) (fun h => ?_)
    · skip
      refine wp_lv (lv' := [(0, .ref 5), (1, .int x1), (3, .int x3)]) ⟨rfl, rfl, rfl, trivial⟩ ?_
      exact t_k_isSum_83 fE fS fP fU d hE hS hP hU K8 hK8 x1 x3 s10 h
    · skip
      refine x_iconst (pc := 79) (v := (1)) d44_79 (by decide) ?_
      refine x_goto (pc := 80) (tgt := 84) d44_80 (by decide) ?_
      refine wp_lv (lv' := [(0, .ref 5), (1, .int x1), (3, .int x3)]) ⟨rfl, rfl, rfl, trivial⟩ ?_
      exact t_k_isSum_84 fE fS fP fU d hE hS hP hU K8 hK8 x1 x3 (1 : Int32) s10 h
def k_isSum_8 (fE fS fP fU : Fx1) : Nat → Int32 → Int32 → Int32 → St → Option (Int32 × St)
  | 0, _, _, _, _ => none
  | n + 1, x1, x2, x3, s => if (60 : Int32) ≤ x3 then (grd (zo x2) (x2, s) some) else (if x2 = 0 then (grd (zo x2) (x2, s) some) else (bnd (s.1 50 0 0) fun v3 => grd (ib v3 801) (s.1 96 0 v3.toNatClampNeg) fun v4 => if v4 = (43 : Int32) then (k_isSum_48 fE fS fP fU (k_isSum_8 fE fS fP fU n) x1 x3 v4 s) else (if v4 = (45 : Int32) then (k_isSum_48 fE fS fP fU (k_isSum_8 fE fS fP fU n) x1 x3 v4 s) else (some ((1 : Int32), s)))))
set_option maxRecDepth 100000 in
theorem t_k_isSum_8 (fE fS fP fU : Fx1) (d : Nat) (hE : ∀ (a0 : Int32) (s : St) (r : Int32 × St), fE a0 s = some r → Ri (d) 43 [.ref 5, .int a0] s (fun v s1 => (v, s1) = r)) (hS : ∀ (a0 : Int32) (s : St) (r : Int32 × St), fS a0 s = some r → Ri (d) 44 [.ref 5, .int a0] s (fun v s1 => (v, s1) = r)) (hP : ∀ (a0 : Int32) (s : St) (r : Int32 × St), fP a0 s = some r → Ri (d) 45 [.ref 5, .int a0] s (fun v s1 => (v, s1) = r)) (hU : ∀ (a0 : Int32) (s : St) (r : Int32 × St), fU a0 s = some r → Ri (d) 46 [.ref 5, .int a0] s (fun v s1 => (v, s1) = r)) {r : Int32 × St} : ∀ (n : Nat) (x1 : Int32) (x2 : Int32) (x3 : Int32) (s : St), k_isSum_8 fE fS fP fU n x1 x2 x3 s = some r → Wp (rmd (d + 1) 0 0) 44 (zi (fun v s1 => (v, s1) = r)) 0 0 8 [(0, .ref 5), (1, .int x1), (2, .int x2), (3, .int x3)] [] (mk s) TT := by
  intro n
  induction n with
  | zero =>
    intro x1 x2 x3 s h
    rw [k_isSum_8.eq_1] at h
    cases h
  | succ n ih =>
    intro x1 x2 x3 s h
    rw [k_isSum_8.eq_2] at h
    refine x_iload_n (pc := 8) d44_8 rfl ?_
    refine x_bipush (pc := 9) (v := (60)) d44_9 (by decide) ?_
    refine z_icmp_ge (pc := 11) (tgt := 91) d44_11 (by decide) h (fun h => ?_) (fun h => ?_)
    · skip
      refine x_iload_n (pc := 91) d44_91 rfl ?_
      exact z_zret (pc := 92) d44_92 rfl h
    · skip
      refine x_iload_n (pc := 14) d44_14 rfl ?_
      refine z_if_eq (pc := 15) (tgt := 91) d44_15 (by decide) h (fun h => ?_) (fun h => ?_)
      · skip
        refine x_iload_n (pc := 91) d44_91 rfl ?_
        exact z_zret (pc := 92) d44_92 rfl h
      · skip
        refine x_aload_n (pc := 18) d44_18 rfl ?_
        refine y_getr (pc := 19) d44_19 fk3_12 shL5 rfl ?_
        refine y_getr (pc := 22) d44_22 fk3_46 shL6 rfl ?_
        refine x_aload_n (pc := 25) d44_25 rfl ?_
        refine z_geti (pc := 26) d44_26 fk3_31 shL5 rfl h (fun v3 h => ?_)
        refine z_iald (pc := 29) d44_29 shL7 (by decide) h (fun v4 h => ?_)
        refine x_istore (pc := 30) d44_30 (by decide) ?_
        refine x_iload (pc := 32) d44_32 rfl ?_
        refine x_bipush (pc := 34) (v := (43)) d44_34 (by decide) ?_
        refine z_icmp_eq (pc := 36) (tgt := 48) d44_36 (by decide) h (fun h => ?_) (fun h => ?_)
        · skip
          refine wp_lv (lv' := [(0, .ref 5), (1, .int x1), (3, .int x3), (4, .int v4)]) ⟨rfl, rfl, rfl, rfl, trivial⟩ ?_
          exact t_k_isSum_48 fE fS fP fU d hE hS hP hU (k_isSum_8 fE fS fP fU n) ih x1 x3 v4 s h
        · skip
          refine x_iload (pc := 39) d44_39 rfl ?_
          refine x_bipush (pc := 41) (v := (45)) d44_41 (by decide) ?_
          refine z_icmp_eq (pc := 43) (tgt := 48) d44_43 (by decide) h (fun h => ?_) (fun h => ?_)
          · skip
            refine wp_lv (lv' := [(0, .ref 5), (1, .int x1), (3, .int x3), (4, .int v4)]) ⟨rfl, rfl, rfl, rfl, trivial⟩ ?_
            exact t_k_isSum_48 fE fS fP fU d hE hS hP hU (k_isSum_8 fE fS fP fU n) ih x1 x3 v4 s h
          · skip
            refine x_iconst (pc := 46) (v := (1)) d44_46 (by decide) ?_
            exact z_zretc (pc := 47) d44_47 rfl (Or.inr rfl) h
def k_isSum (fE fS fP fU : Fx1) (a0 : Int32) (s : St) : Option (Int32 × St) := cal2 (fP a0 s) fun v2 s1 => k_isSum_8 fE fS fP fU 70 a0 v2 (0 : Int32) s1
set_option maxRecDepth 100000 in
theorem t_k_isSum (fE fS fP fU : Fx1) (d : Nat) (hE : ∀ (a0 : Int32) (s : St) (r : Int32 × St), fE a0 s = some r → Ri (d) 43 [.ref 5, .int a0] s (fun v s1 => (v, s1) = r)) (hS : ∀ (a0 : Int32) (s : St) (r : Int32 × St), fS a0 s = some r → Ri (d) 44 [.ref 5, .int a0] s (fun v s1 => (v, s1) = r)) (hP : ∀ (a0 : Int32) (s : St) (r : Int32 × St), fP a0 s = some r → Ri (d) 45 [.ref 5, .int a0] s (fun v s1 => (v, s1) = r)) (hU : ∀ (a0 : Int32) (s : St) (r : Int32 × St), fU a0 s = some r → Ri (d) 46 [.ref 5, .int a0] s (fun v s1 => (v, s1) = r)) (a0 : Int32) (s : St) (r : Int32 × St) (h : k_isSum fE fS fP fU a0 s = some r) : Ri (d + 1) 44 [.ref 5, .int a0] s (fun v s1 => (v, s1) = r) := by
  refine ct_of (by decide +kernel) (Nat.le_of_ble_eq_true rfl) ?_
  show Wp _ _ _ _ _ _ [(0, .ref 5), (1, .int a0)] _ _ _
  unfold k_isSum at h
  refine x_aload_n (pc := 0) d44_0 rfl ?_
  refine x_iload_n (pc := 1) d44_1 rfl ?_
  refine z_cV1i (pc := 2) d44_2 ml3_125 mv45 shL5 (hP a0 s) (rd1 (by decide)) (Nat.le_of_ble_eq_true rfl) ⟨Nat.zero_le _, Nat.zero_le _⟩ h (fun v2 s1 h => ?_)
  refine x_istore_n (pc := 5) d44_5 (by decide) ?_
  refine x_iconst (pc := 6) (v := (0)) d44_6 (by decide) ?_
  refine x_istore_n (pc := 7) d44_7 (by decide) ?_
  refine wp_lv (lv' := [(0, .ref 5), (1, .int a0), (2, .int v2), (3, .int (0 : Int32))]) ⟨rfl, rfl, rfl, rfl, trivial⟩ ?_
  exact t_k_isSum_8 fE fS fP fU d hE hS hP hU 70 a0 v2 (0 : Int32) s1 h
def k_isProduct_55 (fE fS fP fU : Fx1) (K8 : Int32 → Int32 → Int32 → St → Option (Int32 × St)) (x1 : Int32) (x3 : Int32) (y0 : Int32) (s : St) : Option (Int32 × St) := K8 x1 y0 (x3 + (1 : Int32)) s
set_option maxRecDepth 100000 in
theorem t_k_isProduct_55 (fE fS fP fU : Fx1) (d : Nat) (hE : ∀ (a0 : Int32) (s : St) (r : Int32 × St), fE a0 s = some r → Ri (d) 43 [.ref 5, .int a0] s (fun v s1 => (v, s1) = r)) (hS : ∀ (a0 : Int32) (s : St) (r : Int32 × St), fS a0 s = some r → Ri (d) 44 [.ref 5, .int a0] s (fun v s1 => (v, s1) = r)) (hP : ∀ (a0 : Int32) (s : St) (r : Int32 × St), fP a0 s = some r → Ri (d) 45 [.ref 5, .int a0] s (fun v s1 => (v, s1) = r)) (hU : ∀ (a0 : Int32) (s : St) (r : Int32 × St), fU a0 s = some r → Ri (d) 46 [.ref 5, .int a0] s (fun v s1 => (v, s1) = r)) {r : Int32 × St} (K8 : Int32 → Int32 → Int32 → St → Option (Int32 × St)) (hK8 : ∀ (x1 : Int32) (x2 : Int32) (x3 : Int32) (s : St), K8 x1 x2 x3 s = some r → Wp (rmd (d + 1) 0 0) 45 (zi (fun v s1 => (v, s1) = r)) 0 0 8 [(0, .ref 5), (1, .int x1), (2, .int x2), (3, .int x3)] [] (mk s) TT) : ∀ (x1 : Int32) (x3 : Int32) (y0 : Int32) (s : St), k_isProduct_55 fE fS fP fU K8 x1 x3 y0 s = some r → Wp (rmd (d + 1) 0 0) 45 (zi (fun v s1 => (v, s1) = r)) 0 0 55 [(0, .ref 5), (1, .int x1), (3, .int x3)] [.int y0] (mk s) TT := by
  intro x1 x3 y0 s h
  unfold k_isProduct_55 at h
  refine x_istore_n (pc := 55) d45_55 (by decide) ?_
  refine y_inc (pc := 56) (c := (1)) d45_56 (by decide) (by decide) rfl ?_
  refine x_goto (pc := 59) (tgt := 8) d45_59 (by decide) ?_
  refine wp_lv (lv' := [(0, .ref 5), (1, .int x1), (2, .int y0), (3, .int (x3 + (1 : Int32)))]) ⟨rfl, rfl, rfl, rfl, trivial⟩ ?_
  exact hK8 x1 y0 (x3 + (1 : Int32)) s h
def k_isProduct_54 (fE fS fP fU : Fx1) (K8 : Int32 → Int32 → Int32 → St → Option (Int32 × St)) (x1 : Int32) (x3 : Int32) (s : St) : Option (Int32 × St) := k_isProduct_55 fE fS fP fU K8 x1 x3 (0 : Int32) s
set_option maxRecDepth 100000 in
theorem t_k_isProduct_54 (fE fS fP fU : Fx1) (d : Nat) (hE : ∀ (a0 : Int32) (s : St) (r : Int32 × St), fE a0 s = some r → Ri (d) 43 [.ref 5, .int a0] s (fun v s1 => (v, s1) = r)) (hS : ∀ (a0 : Int32) (s : St) (r : Int32 × St), fS a0 s = some r → Ri (d) 44 [.ref 5, .int a0] s (fun v s1 => (v, s1) = r)) (hP : ∀ (a0 : Int32) (s : St) (r : Int32 × St), fP a0 s = some r → Ri (d) 45 [.ref 5, .int a0] s (fun v s1 => (v, s1) = r)) (hU : ∀ (a0 : Int32) (s : St) (r : Int32 × St), fU a0 s = some r → Ri (d) 46 [.ref 5, .int a0] s (fun v s1 => (v, s1) = r)) {r : Int32 × St} (K8 : Int32 → Int32 → Int32 → St → Option (Int32 × St)) (hK8 : ∀ (x1 : Int32) (x2 : Int32) (x3 : Int32) (s : St), K8 x1 x2 x3 s = some r → Wp (rmd (d + 1) 0 0) 45 (zi (fun v s1 => (v, s1) = r)) 0 0 8 [(0, .ref 5), (1, .int x1), (2, .int x2), (3, .int x3)] [] (mk s) TT) : ∀ (x1 : Int32) (x3 : Int32) (s : St), k_isProduct_54 fE fS fP fU K8 x1 x3 s = some r → Wp (rmd (d + 1) 0 0) 45 (zi (fun v s1 => (v, s1) = r)) 0 0 54 [(0, .ref 5), (1, .int x1), (3, .int x3)] [] (mk s) TT := by
  intro x1 x3 s h
  unfold k_isProduct_54 at h
  refine x_iconst (pc := 54) (v := (0)) d45_54 (by decide) ?_
  refine wp_lv (lv' := [(0, .ref 5), (1, .int x1), (3, .int x3)]) ⟨rfl, rfl, rfl, trivial⟩ ?_
  exact t_k_isProduct_55 fE fS fP fU d hE hS hP hU K8 hK8 x1 x3 (0 : Int32) s h
def k_isProduct_8 (fE fS fP fU : Fx1) : Nat → Int32 → Int32 → Int32 → St → Option (Int32 × St)
  | 0, _, _, _, _ => none
  | n + 1, x1, x2, x3, s => if (60 : Int32) ≤ x3 then (grd (zo x2) (x2, s) some) else (if x2 = 0 then (grd (zo x2) (x2, s) some) else (cal2 (k_is (42 : Int32) s) fun v4 s3 => if v4 = 0 then (some ((1 : Int32), s3)) else (cal2 (fU x1 s3) fun v6 s5 => if v6 = 0 then (k_isProduct_54 fE fS fP fU (k_isProduct_8 fE fS fP fU n) x1 x3 s5) else (grd (ib (s5.1 49 0 0) 13) (s5.1 49 0 0).toNatClampNeg fun p7 => cal2 (k_addCode p7 (42 : Int32) (0 : Int32) s5) fun v9 s8 => if v9 = 0 then (k_isProduct_54 fE fS fP fU (k_isProduct_8 fE fS fP fU n) x1 x3 s8) else (k_isProduct_55 fE fS fP fU (k_isProduct_8 fE fS fP fU n) x1 x3 (1 : Int32) s8)))))
set_option maxRecDepth 100000 in
theorem t_k_isProduct_8 (fE fS fP fU : Fx1) (d : Nat) (hE : ∀ (a0 : Int32) (s : St) (r : Int32 × St), fE a0 s = some r → Ri (d) 43 [.ref 5, .int a0] s (fun v s1 => (v, s1) = r)) (hS : ∀ (a0 : Int32) (s : St) (r : Int32 × St), fS a0 s = some r → Ri (d) 44 [.ref 5, .int a0] s (fun v s1 => (v, s1) = r)) (hP : ∀ (a0 : Int32) (s : St) (r : Int32 × St), fP a0 s = some r → Ri (d) 45 [.ref 5, .int a0] s (fun v s1 => (v, s1) = r)) (hU : ∀ (a0 : Int32) (s : St) (r : Int32 × St), fU a0 s = some r → Ri (d) 46 [.ref 5, .int a0] s (fun v s1 => (v, s1) = r)) {r : Int32 × St} : ∀ (n : Nat) (x1 : Int32) (x2 : Int32) (x3 : Int32) (s : St), k_isProduct_8 fE fS fP fU n x1 x2 x3 s = some r → Wp (rmd (d + 1) 0 0) 45 (zi (fun v s1 => (v, s1) = r)) 0 0 8 [(0, .ref 5), (1, .int x1), (2, .int x2), (3, .int x3)] [] (mk s) TT := by
  intro n
  induction n with
  | zero =>
    intro x1 x2 x3 s h
    rw [k_isProduct_8.eq_1] at h
    cases h
  | succ n ih =>
    intro x1 x2 x3 s h
    rw [k_isProduct_8.eq_2] at h
    refine x_iload_n (pc := 8) d45_8 rfl ?_
    refine x_bipush (pc := 9) (v := (60)) d45_9 (by decide) ?_
    refine z_icmp_ge (pc := 11) (tgt := 62) d45_11 (by decide) h (fun h => ?_) (fun h => ?_)
    · skip
      refine x_iload_n (pc := 62) d45_62 rfl ?_
      exact z_zret (pc := 63) d45_63 rfl h
    · skip
      refine x_iload_n (pc := 14) d45_14 rfl ?_
      refine z_if_eq (pc := 15) (tgt := 62) d45_15 (by decide) h (fun h => ?_) (fun h => ?_)
      · skip
        refine x_iload_n (pc := 62) d45_62 rfl ?_
        exact z_zret (pc := 63) d45_63 rfl h
      · skip
        refine x_aload_n (pc := 18) d45_18 rfl ?_
        refine x_bipush (pc := 19) (v := (42)) d45_19 (by decide) ?_
        refine z_cV1i (pc := 21) d45_21 ml3_69 mv41 shL5 (t_k_is (42 : Int32) s) (rdk (k := 0) (e := 0) (by decide) (by decide)) (Nat.le_of_ble_eq_true rfl) ⟨Nat.zero_le _, Nat.zero_le _⟩ h (fun v4 s3 h => ?_)
        refine z_if_ne (pc := 24) (tgt := 29) d45_24 (by decide) h (fun h => ?_) (fun h => ?_)
        · skip
          refine x_aload_n (pc := 29) d45_29 rfl ?_
          refine x_iload_n (pc := 30) d45_30 rfl ?_
          refine z_cV1i (pc := 31) d45_31 ml3_128 mv46 shL5 (hU x1 s3) (rd1 (by decide)) (Nat.le_of_ble_eq_true rfl) ⟨Nat.zero_le _, Nat.zero_le _⟩ h (fun v6 s5 h => ?_)
          refine z_if_eq (pc := 34) (tgt := 54) d45_34 (by decide) h (fun h => ?_) (fun h => ?_)
          · skip
            refine wp_lv (lv' := [(0, .ref 5), (1, .int x1), (3, .int x3)]) ⟨rfl, rfl, rfl, trivial⟩ ?_
            exact t_k_isProduct_54 fE fS fP fU d hE hS hP hU (k_isProduct_8 fE fS fP fU n) ih x1 x3 s5 h
          · skip
            refine x_aload_n (pc := 37) d45_37 rfl ?_
            refine z_getp (pc := 38) d45_38 fk3_27 shL5 rfl h (fun p7 hp7 h => ?_)
            refine x_bipush (pc := 41) (v := (42)) d45_41 (by decide) ?_
            refine x_iconst (pc := 43) (v := (0)) d45_43 (by decide) ?_
            refine z_cV2i (pc := 44) d45_44 ml3_122 mv47 (shP p7 hp7) (t_k_addCode p7 hp7 (42 : Int32) (0 : Int32) s5) (rdk (k := 0) (e := 0) (by decide) (by decide)) (Nat.le_of_ble_eq_true rfl) ⟨Nat.zero_le _, Nat.zero_le _⟩ h (fun v9 s8 h => ?_)
            refine z_if_eq (pc := 47) (tgt := 54) d45_47 (by decide) h (fun h => ?_) (fun h => ?_)
            · skip
              refine wp_lv (lv' := [(0, .ref 5), (1, .int x1), (3, .int x3)]) ⟨rfl, rfl, rfl, trivial⟩ ?_
              exact t_k_isProduct_54 fE fS fP fU d hE hS hP hU (k_isProduct_8 fE fS fP fU n) ih x1 x3 s8 h
            · skip
              refine x_iconst (pc := 50) (v := (1)) d45_50 (by decide) ?_
              refine x_goto (pc := 51) (tgt := 55) d45_51 (by decide) ?_
              refine wp_lv (lv' := [(0, .ref 5), (1, .int x1), (3, .int x3)]) ⟨rfl, rfl, rfl, trivial⟩ ?_
              exact t_k_isProduct_55 fE fS fP fU d hE hS hP hU (k_isProduct_8 fE fS fP fU n) ih x1 x3 (1 : Int32) s8 h
        · skip
          refine x_iconst (pc := 27) (v := (1)) d45_27 (by decide) ?_
          exact z_zretc (pc := 28) d45_28 rfl (Or.inr rfl) h
def k_isProduct (fE fS fP fU : Fx1) (a0 : Int32) (s : St) : Option (Int32 × St) := cal2 (fU a0 s) fun v2 s1 => k_isProduct_8 fE fS fP fU 70 a0 v2 (0 : Int32) s1
set_option maxRecDepth 100000 in
theorem t_k_isProduct (fE fS fP fU : Fx1) (d : Nat) (hE : ∀ (a0 : Int32) (s : St) (r : Int32 × St), fE a0 s = some r → Ri (d) 43 [.ref 5, .int a0] s (fun v s1 => (v, s1) = r)) (hS : ∀ (a0 : Int32) (s : St) (r : Int32 × St), fS a0 s = some r → Ri (d) 44 [.ref 5, .int a0] s (fun v s1 => (v, s1) = r)) (hP : ∀ (a0 : Int32) (s : St) (r : Int32 × St), fP a0 s = some r → Ri (d) 45 [.ref 5, .int a0] s (fun v s1 => (v, s1) = r)) (hU : ∀ (a0 : Int32) (s : St) (r : Int32 × St), fU a0 s = some r → Ri (d) 46 [.ref 5, .int a0] s (fun v s1 => (v, s1) = r)) (a0 : Int32) (s : St) (r : Int32 × St) (h : k_isProduct fE fS fP fU a0 s = some r) : Ri (d + 1) 45 [.ref 5, .int a0] s (fun v s1 => (v, s1) = r) := by
  refine ct_of (by decide +kernel) (Nat.le_of_ble_eq_true rfl) ?_
  show Wp _ _ _ _ _ _ [(0, .ref 5), (1, .int a0)] _ _ _
  unfold k_isProduct at h
  refine x_aload_n (pc := 0) d45_0 rfl ?_
  refine x_iload_n (pc := 1) d45_1 rfl ?_
  refine z_cV1i (pc := 2) d45_2 ml3_128 mv46 shL5 (hU a0 s) (rd1 (by decide)) (Nat.le_of_ble_eq_true rfl) ⟨Nat.zero_le _, Nat.zero_le _⟩ h (fun v2 s1 h => ?_)
  refine x_istore_n (pc := 5) d45_5 (by decide) ?_
  refine x_iconst (pc := 6) (v := (0)) d45_6 (by decide) ?_
  refine x_istore_n (pc := 7) d45_7 (by decide) ?_
  refine wp_lv (lv' := [(0, .ref 5), (1, .int a0), (2, .int v2), (3, .int (0 : Int32))]) ⟨rfl, rfl, rfl, rfl, trivial⟩ ?_
  exact t_k_isProduct_8 fE fS fP fU d hE hS hP hU 70 a0 v2 (0 : Int32) s1 h
def k_isUnary_37 (fE fS fP fU : Fx1) (x2 : Int32) (s : St) : Option (Int32 × St) := grd (ib (s.1 49 0 0) 13) (s.1 49 0 0).toNatClampNeg fun p5 => bnd (s.1 65 p5 0) fun v6 => bnd (si s 65 p5 0 (v6 + (1 : Int32))) fun s7 => bnd (s7.1 50 0 0) fun v8 => bnd (si s7 50 0 0 (v8 + (1 : Int32))) fun s9 => grd (ib (s9.1 49 0 0) 13) (s9.1 49 0 0).toNatClampNeg fun p10 => bnd (s9.1 50 0 0) fun v11 => grd (ib (v11 - (1 : Int32)) 801) (s9.1 97 0 (v11 - (1 : Int32)).toNatClampNeg) fun v12 => cal2 (k_addCode p10 x2 v12 s9) fun v14 s13 => grd (zo v14) (v14, s13) some
set_option maxRecDepth 100000 in
theorem t_k_isUnary_37 (fE fS fP fU : Fx1) (d : Nat) (hE : ∀ (a0 : Int32) (s : St) (r : Int32 × St), fE a0 s = some r → Ri (d) 43 [.ref 5, .int a0] s (fun v s1 => (v, s1) = r)) (hS : ∀ (a0 : Int32) (s : St) (r : Int32 × St), fS a0 s = some r → Ri (d) 44 [.ref 5, .int a0] s (fun v s1 => (v, s1) = r)) (hP : ∀ (a0 : Int32) (s : St) (r : Int32 × St), fP a0 s = some r → Ri (d) 45 [.ref 5, .int a0] s (fun v s1 => (v, s1) = r)) (hU : ∀ (a0 : Int32) (s : St) (r : Int32 × St), fU a0 s = some r → Ri (d) 46 [.ref 5, .int a0] s (fun v s1 => (v, s1) = r)) {r : Int32 × St} : ∀ (x2 : Int32) (s : St), k_isUnary_37 fE fS fP fU x2 s = some r → Wp (rmd (d + 1) 0 0) 46 (zi (fun v s1 => (v, s1) = r)) 0 0 37 [(0, .ref 5), (2, .int x2)] [] (mk s) TT := by
  intro x2 s h
  unfold k_isUnary_37 at h
  refine x_aload_n (pc := 37) d46_37 rfl ?_
  refine z_getp (pc := 38) d46_38 fk3_27 shL5 rfl h (fun p5 hp5 h => ?_)
  refine x_dup (pc := 41) d46_41 rfl ?_
  refine z_geti (pc := 42) d46_42 fk3_131 (shP p5 hp5) rfl h (fun v6 h => ?_)
  refine x_iconst (pc := 45) (v := (1)) d46_45 (by decide) ?_
  refine x_iadd (pc := 46) d46_46 ?_
  refine z_puti (pc := 47) d46_47 fk3_131 (shP p5 hp5) rfl rfl ⟨rfl, rfl⟩ h (fun s7 h => ?_)
  refine x_aload_n (pc := 50) d46_50 rfl ?_
  refine x_dup (pc := 51) d46_51 rfl ?_
  refine z_geti (pc := 52) d46_52 fk3_31 shL5 rfl h (fun v8 h => ?_)
  refine x_iconst (pc := 55) (v := (1)) d46_55 (by decide) ?_
  refine x_iadd (pc := 56) d46_56 ?_
  refine z_puti (pc := 57) d46_57 fk3_31 shL5 rfl rfl ⟨rfl, rfl⟩ h (fun s9 h => ?_)
  refine x_aload_n (pc := 60) d46_60 rfl ?_
  refine z_getp (pc := 61) d46_61 fk3_27 shL5 rfl h (fun p10 hp10 h => ?_)
  refine x_iload_n (pc := 64) d46_64 rfl ?_
  refine x_aload_n (pc := 65) d46_65 rfl ?_
  refine y_getr (pc := 66) d46_66 fk3_12 shL5 rfl ?_
  refine y_getr (pc := 69) d46_69 fk3_92 shL6 rfl ?_
  refine x_aload_n (pc := 72) d46_72 rfl ?_
  refine z_geti (pc := 73) d46_73 fk3_31 shL5 rfl h (fun v11 h => ?_)
  refine x_iconst (pc := 76) (v := (1)) d46_76 (by decide) ?_
  refine x_isub (pc := 77) d46_77 ?_
  refine z_iald (pc := 78) d46_78 shL8 (by decide) h (fun v12 h => ?_)
  refine z_cV2i (pc := 79) d46_79 ml3_122 mv47 (shP p10 hp10) (t_k_addCode p10 hp10 x2 v12 s9) (rdk (k := 0) (e := 0) (by decide) (by decide)) (Nat.le_of_ble_eq_true rfl) ⟨Nat.zero_le _, Nat.zero_le _⟩ h (fun v14 s13 h => ?_)
  exact z_zret (pc := 82) d46_82 rfl h
def k_isUnary_184 (fE fS fP fU : Fx1) (s : St) : Option (Int32 × St) := some ((0 : Int32), s)
set_option maxRecDepth 100000 in
theorem t_k_isUnary_184 (fE fS fP fU : Fx1) (d : Nat) (hE : ∀ (a0 : Int32) (s : St) (r : Int32 × St), fE a0 s = some r → Ri (d) 43 [.ref 5, .int a0] s (fun v s1 => (v, s1) = r)) (hS : ∀ (a0 : Int32) (s : St) (r : Int32 × St), fS a0 s = some r → Ri (d) 44 [.ref 5, .int a0] s (fun v s1 => (v, s1) = r)) (hP : ∀ (a0 : Int32) (s : St) (r : Int32 × St), fP a0 s = some r → Ri (d) 45 [.ref 5, .int a0] s (fun v s1 => (v, s1) = r)) (hU : ∀ (a0 : Int32) (s : St) (r : Int32 × St), fU a0 s = some r → Ri (d) 46 [.ref 5, .int a0] s (fun v s1 => (v, s1) = r)) {r : Int32 × St} : ∀ (s : St), k_isUnary_184 fE fS fP fU s = some r → Wp (rmd (d + 1) 0 0) 46 (zi (fun v s1 => (v, s1) = r)) 0 0 184 [] [] (mk s) TT := by
  intro s h
  unfold k_isUnary_184 at h
  refine x_iconst (pc := 184) (v := (0)) d46_184 (by decide) ?_
  exact z_zretc (pc := 185) d46_185 rfl (Or.inl rfl) h
def k_isUnary_159 (fE fS fP fU : Fx1) (s : St) : Option (Int32 × St) := some ((0 : Int32), s)
set_option maxRecDepth 100000 in
theorem t_k_isUnary_159 (fE fS fP fU : Fx1) (d : Nat) (hE : ∀ (a0 : Int32) (s : St) (r : Int32 × St), fE a0 s = some r → Ri (d) 43 [.ref 5, .int a0] s (fun v s1 => (v, s1) = r)) (hS : ∀ (a0 : Int32) (s : St) (r : Int32 × St), fS a0 s = some r → Ri (d) 44 [.ref 5, .int a0] s (fun v s1 => (v, s1) = r)) (hP : ∀ (a0 : Int32) (s : St) (r : Int32 × St), fP a0 s = some r → Ri (d) 45 [.ref 5, .int a0] s (fun v s1 => (v, s1) = r)) (hU : ∀ (a0 : Int32) (s : St) (r : Int32 × St), fU a0 s = some r → Ri (d) 46 [.ref 5, .int a0] s (fun v s1 => (v, s1) = r)) {r : Int32 × St} : ∀ (s : St), k_isUnary_159 fE fS fP fU s = some r → Wp (rmd (d + 1) 0 0) 46 (zi (fun v s1 => (v, s1) = r)) 0 0 159 [] [] (mk s) TT := by
  intro s h
  unfold k_isUnary_159 at h
  refine x_iconst (pc := 159) (v := (0)) d46_159 (by decide) ?_
  exact z_zretc (pc := 160) d46_160 rfl (Or.inl rfl) h
def k_isUnary_95 (fE fS fP fU : Fx1) (x1 : Int32) (x2 : Int32) (s : St) : Option (Int32 × St) := if x1 < (8 : Int32) then (grd (ib (s.1 49 0 0) 13) (s.1 49 0 0).toNatClampNeg fun p15 => bnd (s.1 65 p15 0) fun v16 => bnd (si s 65 p15 0 (v16 + (1 : Int32))) fun s17 => bnd (s17.1 50 0 0) fun v18 => bnd (si s17 50 0 0 (v18 + (1 : Int32))) fun s19 => if x2 = (45 : Int32) then (cal2 (fU (x1 + (1 : Int32)) s19) fun v25 s24 => if v25 = 0 then (k_isUnary_159 fE fS fP fU s24) else (grd (ib (s24.1 49 0 0) 13) (s24.1 49 0 0).toNatClampNeg fun p26 => cal2 (k_addCode p26 (24 : Int32) (0 : Int32) s24) fun v28 s27 => if v28 = 0 then (k_isUnary_159 fE fS fP fU s27) else (some ((1 : Int32), s27)))) else (cal2 (fE (x1 + (1 : Int32)) s19) fun v21 s20 => if v21 = 0 then (k_isUnary_184 fE fS fP fU s20) else (cal2 (k_is (41 : Int32) s20) fun v23 s22 => if v23 = 0 then (k_isUnary_184 fE fS fP fU s22) else (some ((1 : Int32), s22))))) else (some ((0 : Int32), s))
set_option maxRecDepth 100000 in
theorem t_k_isUnary_95 (fE fS fP fU : Fx1) (d : Nat) (hE : ∀ (a0 : Int32) (s : St) (r : Int32 × St), fE a0 s = some r → Ri (d) 43 [.ref 5, .int a0] s (fun v s1 => (v, s1) = r)) (hS : ∀ (a0 : Int32) (s : St) (r : Int32 × St), fS a0 s = some r → Ri (d) 44 [.ref 5, .int a0] s (fun v s1 => (v, s1) = r)) (hP : ∀ (a0 : Int32) (s : St) (r : Int32 × St), fP a0 s = some r → Ri (d) 45 [.ref 5, .int a0] s (fun v s1 => (v, s1) = r)) (hU : ∀ (a0 : Int32) (s : St) (r : Int32 × St), fU a0 s = some r → Ri (d) 46 [.ref 5, .int a0] s (fun v s1 => (v, s1) = r)) {r : Int32 × St} : ∀ (x1 : Int32) (x2 : Int32) (s : St), k_isUnary_95 fE fS fP fU x1 x2 s = some r → Wp (rmd (d + 1) 0 0) 46 (zi (fun v s1 => (v, s1) = r)) 0 0 95 [(0, .ref 5), (1, .int x1), (2, .int x2)] [] (mk s) TT := by
  intro x1 x2 s h
  unfold k_isUnary_95 at h
  refine x_iload_n (pc := 95) d46_95 rfl ?_
  refine x_bipush (pc := 96) (v := (8)) d46_96 (by decide) ?_
  refine z_icmp_lt (pc := 98) (tgt := 103) d46_98 (by decide) h (fun h => ?_) (fun h => ?_)
  · skip
    refine x_aload_n (pc := 103) d46_103 rfl ?_
    refine z_getp (pc := 104) d46_104 fk3_27 shL5 rfl h (fun p15 hp15 h => ?_)
    refine x_dup (pc := 107) d46_107 rfl ?_
    refine z_geti (pc := 108) d46_108 fk3_131 (shP p15 hp15) rfl h (fun v16 h => ?_)
    refine x_iconst (pc := 111) (v := (1)) d46_111 (by decide) ?_
    refine x_iadd (pc := 112) d46_112 ?_
    refine z_puti (pc := 113) d46_113 fk3_131 (shP p15 hp15) rfl rfl ⟨rfl, rfl⟩ h (fun s17 h => ?_)
    refine x_aload_n (pc := 116) d46_116 rfl ?_
    refine x_dup (pc := 117) d46_117 rfl ?_
    refine z_geti (pc := 118) d46_118 fk3_31 shL5 rfl h (fun v18 h => ?_)
    refine x_iconst (pc := 121) (v := (1)) d46_121 (by decide) ?_
    refine x_iadd (pc := 122) d46_122 ?_
    refine z_puti (pc := 123) d46_123 fk3_31 shL5 rfl rfl ⟨rfl, rfl⟩ h (fun s19 h => ?_)
    refine x_iload_n (pc := 126) d46_126 rfl ?_
    refine x_bipush (pc := 127) (v := (45)) d46_127 (by decide) ?_
    refine z_icmp_ne (pc := 129) (tgt := 161) d46_129 (by decide) h (fun h => ?_) (fun h => ?_)
    · skip
      refine x_aload_n (pc := 161) d46_161 rfl ?_
      refine x_iload_n (pc := 162) d46_162 rfl ?_
      refine x_iconst (pc := 163) (v := (1)) d46_163 (by decide) ?_
      refine x_iadd (pc := 164) d46_164 ?_
      refine z_cV1i (pc := 165) d46_165 ml3_113 mv43 shL5 (hE (x1 + (1 : Int32)) s19) (rd1 (by decide)) (Nat.le_of_ble_eq_true rfl) ⟨Nat.zero_le _, Nat.zero_le _⟩ h (fun v21 s20 h => ?_)
      refine z_if_eq (pc := 168) (tgt := 184) d46_168 (by decide) h (fun h => ?_) (fun h => ?_)
      · skip
        refine wp_lv (lv' := []) trivial ?_
        exact t_k_isUnary_184 fE fS fP fU d hE hS hP hU s20 h
      · skip
        refine x_aload_n (pc := 171) d46_171 rfl ?_
        refine x_bipush (pc := 172) (v := (41)) d46_172 (by decide) ?_
        refine z_cV1i (pc := 174) d46_174 ml3_69 mv41 shL5 (t_k_is (41 : Int32) s20) (rdk (k := 0) (e := 0) (by decide) (by decide)) (Nat.le_of_ble_eq_true rfl) ⟨Nat.zero_le _, Nat.zero_le _⟩ h (fun v23 s22 h => ?_)
        refine z_if_eq (pc := 177) (tgt := 184) d46_177 (by decide) h (fun h => ?_) (fun h => ?_)
        · skip
          refine wp_lv (lv' := []) trivial ?_
          exact t_k_isUnary_184 fE fS fP fU d hE hS hP hU s22 h
        · skip
          refine x_iconst (pc := 180) (v := (1)) d46_180 (by decide) ?_
          refine x_goto (pc := 181) (tgt := 185) d46_181 (by decide) ?_
          exact z_zretc (pc := 185) d46_185 rfl (Or.inr rfl) h
    · skip
      refine x_aload_n (pc := 132) d46_132 rfl ?_
      refine x_iload_n (pc := 133) d46_133 rfl ?_
      refine x_iconst (pc := 134) (v := (1)) d46_134 (by decide) ?_
      refine x_iadd (pc := 135) d46_135 ?_
      refine z_cV1i (pc := 136) d46_136 ml3_128 mv46 shL5 (hU (x1 + (1 : Int32)) s19) (rd1 (by decide)) (Nat.le_of_ble_eq_true rfl) ⟨Nat.zero_le _, Nat.zero_le _⟩ h (fun v25 s24 h => ?_)
      refine z_if_eq (pc := 139) (tgt := 159) d46_139 (by decide) h (fun h => ?_) (fun h => ?_)
      · skip
        refine wp_lv (lv' := []) trivial ?_
        exact t_k_isUnary_159 fE fS fP fU d hE hS hP hU s24 h
      · skip
        refine x_aload_n (pc := 142) d46_142 rfl ?_
        refine z_getp (pc := 143) d46_143 fk3_27 shL5 rfl h (fun p26 hp26 h => ?_)
        refine x_bipush (pc := 146) (v := (24)) d46_146 (by decide) ?_
        refine x_iconst (pc := 148) (v := (0)) d46_148 (by decide) ?_
        refine z_cV2i (pc := 149) d46_149 ml3_122 mv47 (shP p26 hp26) (t_k_addCode p26 hp26 (24 : Int32) (0 : Int32) s24) (rdk (k := 0) (e := 0) (by decide) (by decide)) (Nat.le_of_ble_eq_true rfl) ⟨Nat.zero_le _, Nat.zero_le _⟩ h (fun v28 s27 h => ?_)
        refine z_if_eq (pc := 152) (tgt := 159) d46_152 (by decide) h (fun h => ?_) (fun h => ?_)
        · skip
          refine wp_lv (lv' := []) trivial ?_
          exact t_k_isUnary_159 fE fS fP fU d hE hS hP hU s27 h
        · skip
          refine x_iconst (pc := 155) (v := (1)) d46_155 (by decide) ?_
          refine x_goto (pc := 156) (tgt := 160) d46_156 (by decide) ?_
          exact z_zretc (pc := 160) d46_160 rfl (Or.inr rfl) h
  · skip
    refine x_iconst (pc := 101) (v := (0)) d46_101 (by decide) ?_
    exact z_zretc (pc := 102) d46_102 rfl (Or.inl rfl) h
def k_isUnary (fE fS fP fU : Fx1) (a0 : Int32) (s : St) : Option (Int32 × St) := bnd (s.1 50 0 0) fun v1 => grd (ib v1 801) (s.1 96 0 v1.toNatClampNeg) fun v2 => grd (ib (s.1 49 0 0) 13) (s.1 49 0 0).toNatClampNeg fun p3 => bnd (s.1 65 p3 0) fun v4 => if v4 < (60 : Int32) then (if v2 = (4 : Int32) then (k_isUnary_37 fE fS fP fU v2 s) else (if v2 = (2 : Int32) then (k_isUnary_37 fE fS fP fU v2 s) else (if v2 = (45 : Int32) then (k_isUnary_95 fE fS fP fU a0 v2 s) else (if v2 = (40 : Int32) then (k_isUnary_95 fE fS fP fU a0 v2 s) else (some ((0 : Int32), s)))))) else (some ((0 : Int32), s))
set_option maxRecDepth 100000 in
theorem t_k_isUnary (fE fS fP fU : Fx1) (d : Nat) (hE : ∀ (a0 : Int32) (s : St) (r : Int32 × St), fE a0 s = some r → Ri (d) 43 [.ref 5, .int a0] s (fun v s1 => (v, s1) = r)) (hS : ∀ (a0 : Int32) (s : St) (r : Int32 × St), fS a0 s = some r → Ri (d) 44 [.ref 5, .int a0] s (fun v s1 => (v, s1) = r)) (hP : ∀ (a0 : Int32) (s : St) (r : Int32 × St), fP a0 s = some r → Ri (d) 45 [.ref 5, .int a0] s (fun v s1 => (v, s1) = r)) (hU : ∀ (a0 : Int32) (s : St) (r : Int32 × St), fU a0 s = some r → Ri (d) 46 [.ref 5, .int a0] s (fun v s1 => (v, s1) = r)) (a0 : Int32) (s : St) (r : Int32 × St) (h : k_isUnary fE fS fP fU a0 s = some r) : Ri (d + 1) 46 [.ref 5, .int a0] s (fun v s1 => (v, s1) = r) := by
  refine ct_of (by decide +kernel) (Nat.le_of_ble_eq_true rfl) ?_
  show Wp _ _ _ _ _ _ [(0, .ref 5), (1, .int a0)] _ _ _
  unfold k_isUnary at h
  refine x_aload_n (pc := 0) d46_0 rfl ?_
  refine y_getr (pc := 1) d46_1 fk3_12 shL5 rfl ?_
  refine y_getr (pc := 4) d46_4 fk3_46 shL6 rfl ?_
  refine x_aload_n (pc := 7) d46_7 rfl ?_
  refine z_geti (pc := 8) d46_8 fk3_31 shL5 rfl h (fun v1 h => ?_)
  refine z_iald (pc := 11) d46_11 shL7 (by decide) h (fun v2 h => ?_)
  refine x_istore_n (pc := 12) d46_12 (by decide) ?_
  refine x_aload_n (pc := 13) d46_13 rfl ?_
  refine z_getp (pc := 14) d46_14 fk3_27 shL5 rfl h (fun p3 hp3 h => ?_)
  refine z_geti (pc := 17) d46_17 fk3_131 (shP p3 hp3) rfl h (fun v4 h => ?_)
  refine x_bipush (pc := 20) (v := (60)) d46_20 (by decide) ?_
  refine z_icmp_lt (pc := 22) (tgt := 27) d46_22 (by decide) h (fun h => ?_) (fun h => ?_)
  · skip
    refine x_iload_n (pc := 27) d46_27 rfl ?_
    refine x_iconst (pc := 28) (v := (4)) d46_28 (by decide) ?_
    refine z_icmp_eq (pc := 29) (tgt := 37) d46_29 (by decide) h (fun h => ?_) (fun h => ?_)
    · skip
      refine wp_lv (lv' := [(0, .ref 5), (2, .int v2)]) ⟨rfl, rfl, trivial⟩ ?_
      exact t_k_isUnary_37 fE fS fP fU d hE hS hP hU v2 s h
    · skip
      refine x_iload_n (pc := 32) d46_32 rfl ?_
      refine x_iconst (pc := 33) (v := (2)) d46_33 (by decide) ?_
      refine z_icmp_ne (pc := 34) (tgt := 83) d46_34 (by decide) h (fun h => ?_) (fun h => ?_)
      · skip
        refine x_iload_n (pc := 83) d46_83 rfl ?_
        refine x_bipush (pc := 84) (v := (45)) d46_84 (by decide) ?_
        refine z_icmp_eq (pc := 86) (tgt := 95) d46_86 (by decide) h (fun h => ?_) (fun h => ?_)
        · skip
          refine wp_lv (lv' := [(0, .ref 5), (1, .int a0), (2, .int v2)]) ⟨rfl, rfl, rfl, trivial⟩ ?_
          exact t_k_isUnary_95 fE fS fP fU d hE hS hP hU a0 v2 s h
        · skip
          refine x_iload_n (pc := 89) d46_89 rfl ?_
          refine x_bipush (pc := 90) (v := (40)) d46_90 (by decide) ?_
          refine z_icmp_ne (pc := 92) (tgt := 101) d46_92 (by decide) h (fun h => ?_) (fun h => ?_)
          · skip
            refine x_iconst (pc := 101) (v := (0)) d46_101 (by decide) ?_
            exact z_zretc (pc := 102) d46_102 rfl (Or.inl rfl) h
          · skip
            refine wp_lv (lv' := [(0, .ref 5), (1, .int a0), (2, .int v2)]) ⟨rfl, rfl, rfl, trivial⟩ ?_
            exact t_k_isUnary_95 fE fS fP fU d hE hS hP hU a0 v2 s h
      · skip
        refine wp_lv (lv' := [(0, .ref 5), (2, .int v2)]) ⟨rfl, rfl, trivial⟩ ?_
        exact t_k_isUnary_37 fE fS fP fU d hE hS hP hU v2 s h
  · skip
    refine x_iconst (pc := 25) (v := (0)) d46_25 (by decide) ?_
    exact z_zretc (pc := 26) d46_26 rfl (Or.inl rfl) h
def XF : Nat → Fx1 × Fx1 × Fx1 × Fx1
  | 0 => (fun _ _ => none, fun _ _ => none, fun _ _ => none, fun _ _ => none)
  | n + 1 => (k_isExp (XF n).1 (XF n).2.1 (XF n).2.2.1 (XF n).2.2.2, k_isSum (XF n).1 (XF n).2.1 (XF n).2.2.1 (XF n).2.2.2, k_isProduct (XF n).1 (XF n).2.1 (XF n).2.2.1 (XF n).2.2.2, k_isUnary (XF n).1 (XF n).2.1 (XF n).2.2.1 (XF n).2.2.2)
theorem XF_ok : ∀ n, (∀ (a0 : Int32) (s : St) (r : Int32 × St), (XF n).1 a0 s = some r → Ri n 43 [.ref 5, .int a0] s (fun v s1 => (v, s1) = r)) ∧ (∀ (a0 : Int32) (s : St) (r : Int32 × St), (XF n).2.1 a0 s = some r → Ri n 44 [.ref 5, .int a0] s (fun v s1 => (v, s1) = r)) ∧ (∀ (a0 : Int32) (s : St) (r : Int32 × St), (XF n).2.2.1 a0 s = some r → Ri n 45 [.ref 5, .int a0] s (fun v s1 => (v, s1) = r)) ∧ (∀ (a0 : Int32) (s : St) (r : Int32 × St), (XF n).2.2.2 a0 s = some r → Ri n 46 [.ref 5, .int a0] s (fun v s1 => (v, s1) = r))
  | 0 => ⟨fun _ _ _ h => (by cases h), fun _ _ _ h => (by cases h), fun _ _ _ h => (by cases h), fun _ _ _ h => (by cases h)⟩
  | n + 1 => ⟨fun a s r h => t_k_isExp _ _ _ _ n (XF_ok n).1 (XF_ok n).2.1 (XF_ok n).2.2.1 (XF_ok n).2.2.2 a s r h, fun a s r h => t_k_isSum _ _ _ _ n (XF_ok n).1 (XF_ok n).2.1 (XF_ok n).2.2.1 (XF_ok n).2.2.2 a s r h, fun a s r h => t_k_isProduct _ _ _ _ n (XF_ok n).1 (XF_ok n).2.1 (XF_ok n).2.2.1 (XF_ok n).2.2.2 a s r h, fun a s r h => t_k_isUnary _ _ _ _ n (XF_ok n).1 (XF_ok n).2.1 (XF_ok n).2.2.1 (XF_ok n).2.2.2 a s r h⟩
def k_isExpOf (a0 : Int32) (s : St) : Option (Int32 × St) := grd (ib (s.1 49 0 0) 13) (s.1 49 0 0).toNatClampNeg fun p1 => grd (ib (s.1 49 0 0) 13) (s.1 49 0 0).toNatClampNeg fun p2 => bnd (s.1 67 p2 0) fun v3 => grd (ib a0 40) (si s 71 p1 a0.toNatClampNeg v3) fun s4 => cal2 ((XF 40).1 (0 : Int32) s4) fun v6 s5 => grd (ib (s5.1 49 0 0) 13) (s5.1 49 0 0).toNatClampNeg fun p7 => grd (ib (s5.1 49 0 0) 13) (s5.1 49 0 0).toNatClampNeg fun p8 => bnd (s5.1 67 p8 0) fun v9 => grd (ib a0 40) (si s5 72 p7 a0.toNatClampNeg v9) fun s10 => grd (zo v6) (v6, s10) some
set_option maxRecDepth 100000 in
theorem t_k_isExpOf (a0 : Int32) (s : St) (r : Int32 × St) (h : k_isExpOf a0 s = some r) : Ri 41 42 [.ref 5, .int a0] s (fun v s1 => (v, s1) = r) := by
  refine ct_of (by decide +kernel) (Nat.le_of_ble_eq_true rfl) ?_
  show Wp _ _ _ _ _ _ [(0, .ref 5), (1, .int a0)] _ _ _
  unfold k_isExpOf at h
  refine x_aload_n (pc := 0) d42_0 rfl ?_
  refine z_getp (pc := 1) d42_1 fk3_27 shL5 rfl h (fun p1 hp1 h => ?_)
  refine y_getr (pc := 4) d42_4 fk3_107 (shP p1 hp1) rfl ?_
  refine x_iload_n (pc := 7) d42_7 rfl ?_
  refine x_aload_n (pc := 8) d42_8 rfl ?_
  refine z_getp (pc := 9) d42_9 fk3_27 shL5 rfl h (fun p2 hp2 h => ?_)
  refine z_geti (pc := 12) d42_12 fk3_110 (shP p2 hp2) rfl h (fun v3 h => ?_)
  refine z_iast (pc := 15) d42_15 (shP4 p1 hp1) (by decide) h (fun s4 h => ?_)
  refine x_aload_n (pc := 16) d42_16 rfl ?_
  refine x_iconst (pc := 17) (v := (0)) d42_17 (by decide) ?_
  refine z_cV1i (pc := 18) d42_18 ml3_113 mv43 shL5 ((XF_ok 40).1 (0 : Int32) s4) (by decide) (Nat.le_of_ble_eq_true rfl) ⟨Nat.zero_le _, Nat.zero_le _⟩ h (fun v6 s5 h => ?_)
  refine x_istore_n (pc := 21) d42_21 (by decide) ?_
  refine x_aload_n (pc := 22) d42_22 rfl ?_
  refine z_getp (pc := 23) d42_23 fk3_27 shL5 rfl h (fun p7 hp7 h => ?_)
  refine y_getr (pc := 26) d42_26 fk3_116 (shP p7 hp7) rfl ?_
  refine x_iload_n (pc := 29) d42_29 rfl ?_
  refine x_aload_n (pc := 30) d42_30 rfl ?_
  refine z_getp (pc := 31) d42_31 fk3_27 shL5 rfl h (fun p8 hp8 h => ?_)
  refine z_geti (pc := 34) d42_34 fk3_110 (shP p8 hp8) rfl h (fun v9 h => ?_)
  refine z_iast (pc := 37) d42_37 (shP5 p7 hp7) (by decide) h (fun s10 h => ?_)
  refine x_iload_n (pc := 38) d42_38 rfl ?_
  exact z_zret (pc := 39) d42_39 rfl h
def k_isCondition_30 (s : St) : Option (Int32 × St) := some ((0 : Int32), s)
set_option maxRecDepth 100000 in
theorem t_k_isCondition_30 {r : Int32 × St} : ∀ (s : St), k_isCondition_30 s = some r → Wp (rmd 42 0 0) 48 (zi (fun v s1 => (v, s1) = r)) 0 0 30 [] [] (mk s) TT := by
  intro s h
  unfold k_isCondition_30 at h
  refine x_iconst (pc := 30) (v := (0)) d48_30 (by decide) ?_
  exact z_zretc (pc := 31) d48_31 rfl (Or.inl rfl) h
def k_isCondition (a0 : Int32) (s : St) : Option (Int32 × St) := cal2 (k_is (40 : Int32) s) fun v2 s1 => if v2 = 0 then (k_isCondition_30 s1) else (cal2 (k_isExpOf a0 s1) fun v4 s3 => if v4 = 0 then (k_isCondition_30 s3) else (cal2 (k_is (41 : Int32) s3) fun v6 s5 => if v6 = 0 then (k_isCondition_30 s5) else (some ((1 : Int32), s5))))
set_option maxRecDepth 100000 in
theorem t_k_isCondition (a0 : Int32) (s : St) (r : Int32 × St) (h : k_isCondition a0 s = some r) : Ri 42 48 [.ref 5, .int a0] s (fun v s1 => (v, s1) = r) := by
  refine ct_of (by decide +kernel) (Nat.le_of_ble_eq_true rfl) ?_
  show Wp _ _ _ _ _ _ [(0, .ref 5), (1, .int a0)] _ _ _
  unfold k_isCondition at h
  refine x_aload_n (pc := 0) d48_0 rfl ?_
  refine x_bipush (pc := 1) (v := (40)) d48_1 (by decide) ?_
  refine z_cV1i (pc := 3) d48_3 ml3_69 mv41 shL5 (t_k_is (40 : Int32) s) (by decide) (Nat.le_of_ble_eq_true rfl) ⟨Nat.zero_le _, Nat.zero_le _⟩ h (fun v2 s1 h => ?_)
  refine z_if_eq (pc := 6) (tgt := 30) d48_6 (by decide) h (fun h => ?_) (fun h => ?_)
  · skip
    refine wp_lv (lv' := []) trivial ?_
    exact t_k_isCondition_30 s1 h
  · skip
    refine x_aload_n (pc := 9) d48_9 rfl ?_
    refine x_iload_n (pc := 10) d48_10 rfl ?_
    refine z_cV1i (pc := 11) d48_11 ml3_72 mv42 shL5 (t_k_isExpOf a0 s1) (by decide) (Nat.le_of_ble_eq_true rfl) ⟨Nat.zero_le _, Nat.zero_le _⟩ h (fun v4 s3 h => ?_)
    refine z_if_eq (pc := 14) (tgt := 30) d48_14 (by decide) h (fun h => ?_) (fun h => ?_)
    · skip
      refine wp_lv (lv' := []) trivial ?_
      exact t_k_isCondition_30 s3 h
    · skip
      refine x_aload_n (pc := 17) d48_17 rfl ?_
      refine x_bipush (pc := 18) (v := (41)) d48_18 (by decide) ?_
      refine z_cV1i (pc := 20) d48_20 ml3_69 mv41 shL5 (t_k_is (41 : Int32) s3) (by decide) (Nat.le_of_ble_eq_true rfl) ⟨Nat.zero_le _, Nat.zero_le _⟩ h (fun v6 s5 h => ?_)
      refine z_if_eq (pc := 23) (tgt := 30) d48_23 (by decide) h (fun h => ?_) (fun h => ?_)
      · skip
        refine wp_lv (lv' := []) trivial ?_
        exact t_k_isCondition_30 s5 h
      · skip
        refine x_iconst (pc := 26) (v := (1)) d48_26 (by decide) ?_
        refine x_goto (pc := 27) (tgt := 31) d48_27 (by decide) ?_
        exact z_zretc (pc := 31) d48_31 rfl (Or.inr rfl) h
def k_statements_90 (fS : Fx3) (fT : Fx1) (fB : Fx3) (fM : Fx2) (K16 : Int32 → Int32 → Int32 → Int32 → Int32 → St → Option (Int32 × St)) (x1 : Int32) (x2 : Int32) (x3 : Int32) (x5 : Int32) (x6 : Int32) (s : St) : Option (Int32 × St) := K16 x1 x2 x3 x6 (x5 + (1 : Int32)) s
set_option maxRecDepth 100000 in
theorem t_k_statements_90 (fS : Fx3) (fT : Fx1) (fB : Fx3) (fM : Fx2) (d : Nat) (hS : ∀ (a0 : Int32) (a1 : Int32) (a2 : Int32) (s : St) (r : Int32 × St), fS a0 a1 a2 s = some r → Ri (d + 45) 36 [.ref 5, .int a0, .int a1, .int a2] s (fun v s1 => (v, s1) = r)) (hT : ∀ (a0 : Int32) (s : St) (r : Int32 × St), fT a0 s = some r → Ri (d + 45) 37 [.ref 5, .int a0] s (fun v s1 => (v, s1) = r)) (hB : ∀ (a0 : Int32) (a1 : Int32) (a2 : Int32) (s : St) (r : Int32 × St), fB a0 a1 a2 s = some r → Ri (d + 45) 49 [.ref 5, .int a0, .int a1, .int a2] s (fun v s1 => (v, s1) = r)) (hM : ∀ (a0 : Int32) (a1 : Int32) (s : St) (r : Int32 × St), fM a0 a1 s = some r → Ri (d + 45) 51 [.ref 5, .int a0, .int a1] s (fun v s1 => (v, s1) = r)) {r : Int32 × St} (K16 : Int32 → Int32 → Int32 → Int32 → Int32 → St → Option (Int32 × St)) (hK16 : ∀ (x1 : Int32) (x2 : Int32) (x3 : Int32) (x4 : Int32) (x5 : Int32) (s : St), K16 x1 x2 x3 x4 x5 s = some r → Wp (rmd (d + 46) 0 0) 36 (zi (fun v s1 => (v, s1) = r)) 0 0 16 [(0, .ref 5), (1, .int x1), (2, .int x2), (3, .int x3), (4, .int x4), (5, .int x5)] [] (mk s) TT) : ∀ (x1 : Int32) (x2 : Int32) (x3 : Int32) (x5 : Int32) (x6 : Int32) (s : St), k_statements_90 fS fT fB fM K16 x1 x2 x3 x5 x6 s = some r → Wp (rmd (d + 46) 0 0) 36 (zi (fun v s1 => (v, s1) = r)) 0 0 90 [(0, .ref 5), (1, .int x1), (2, .int x2), (3, .int x3), (5, .int x5), (6, .int x6)] [] (mk s) TT := by
  intro x1 x2 x3 x5 x6 s h
  unfold k_statements_90 at h
  refine x_iload (pc := 90) d36_90 rfl ?_
  refine x_istore (pc := 92) d36_92 (by decide) ?_
  refine y_inc (pc := 94) (c := (1)) d36_94 (by decide) (by decide) rfl ?_
  refine x_goto (pc := 97) (tgt := 16) d36_97 (by decide) ?_
  refine wp_lv (lv' := [(0, .ref 5), (1, .int x1), (2, .int x2), (3, .int x3), (4, .int x6), (5, .int (x5 + (1 : Int32)))]) ⟨rfl, rfl, rfl, rfl, rfl, rfl, trivial⟩ ?_
  exact hK16 x1 x2 x3 x6 (x5 + (1 : Int32)) s h
def k_statements_16 (fS : Fx3) (fT : Fx1) (fB : Fx3) (fM : Fx2) : Nat → Int32 → Int32 → Int32 → Int32 → Int32 → St → Option (Int32 × St)
  | 0, _, _, _, _, _, _ => none
  | n + 1, x1, x2, x3, x4, x5, s => if (40 : Int32) < x5 then (some ((1 : Int32), s)) else (bnd (s.1 50 0 0) fun v3 => grd (ib v3 801) (s.1 96 0 v3.toNatClampNeg) fun v4 => if v4 = x3 then (some ((1 : Int32), s)) else (grd (ib (s.1 49 0 0) 13) (s.1 49 0 0).toNatClampNeg fun p5 => bnd (s.1 64 p5 0) fun v6 => cal2 (fT x2 s) fun v8 s7 => if v8 = 0 then (some ((0 : Int32), s7)) else (if x4 = (-1 : Int32) then (grd (ib (s7.1 49 0 0) 13) (s7.1 49 0 0).toNatClampNeg fun p11 => grd (ib x1 121) (si s7 74 p11 x1.toNatClampNeg v6) fun s12 => k_statements_90 fS fT fB fM (k_statements_16 fS fT fB fM n) x1 x2 x3 x5 v6 s12) else (grd (ib (s7.1 49 0 0) 13) (s7.1 49 0 0).toNatClampNeg fun p9 => grd (ib x4 40) (si s7 73 p9 x4.toNatClampNeg v6) fun s10 => k_statements_90 fS fT fB fM (k_statements_16 fS fT fB fM n) x1 x2 x3 x5 v6 s10))))
set_option maxRecDepth 100000 in
theorem t_k_statements_16 (fS : Fx3) (fT : Fx1) (fB : Fx3) (fM : Fx2) (d : Nat) (hS : ∀ (a0 : Int32) (a1 : Int32) (a2 : Int32) (s : St) (r : Int32 × St), fS a0 a1 a2 s = some r → Ri (d + 45) 36 [.ref 5, .int a0, .int a1, .int a2] s (fun v s1 => (v, s1) = r)) (hT : ∀ (a0 : Int32) (s : St) (r : Int32 × St), fT a0 s = some r → Ri (d + 45) 37 [.ref 5, .int a0] s (fun v s1 => (v, s1) = r)) (hB : ∀ (a0 : Int32) (a1 : Int32) (a2 : Int32) (s : St) (r : Int32 × St), fB a0 a1 a2 s = some r → Ri (d + 45) 49 [.ref 5, .int a0, .int a1, .int a2] s (fun v s1 => (v, s1) = r)) (hM : ∀ (a0 : Int32) (a1 : Int32) (s : St) (r : Int32 × St), fM a0 a1 s = some r → Ri (d + 45) 51 [.ref 5, .int a0, .int a1] s (fun v s1 => (v, s1) = r)) {r : Int32 × St} : ∀ (n : Nat) (x1 : Int32) (x2 : Int32) (x3 : Int32) (x4 : Int32) (x5 : Int32) (s : St), k_statements_16 fS fT fB fM n x1 x2 x3 x4 x5 s = some r → Wp (rmd (d + 46) 0 0) 36 (zi (fun v s1 => (v, s1) = r)) 0 0 16 [(0, .ref 5), (1, .int x1), (2, .int x2), (3, .int x3), (4, .int x4), (5, .int x5)] [] (mk s) TT := by
  intro n
  induction n with
  | zero =>
    intro x1 x2 x3 x4 x5 s h
    rw [k_statements_16.eq_1] at h
    cases h
  | succ n ih =>
    intro x1 x2 x3 x4 x5 s h
    rw [k_statements_16.eq_2] at h
    refine x_iload (pc := 16) d36_16 rfl ?_
    refine x_bipush (pc := 18) (v := (40)) d36_18 (by decide) ?_
    refine z_icmp_gt (pc := 20) (tgt := 100) d36_20 (by decide) h (fun h => ?_) (fun h => ?_)
    · skip
      refine x_iconst (pc := 100) (v := (1)) d36_100 (by decide) ?_
      exact z_zretc (pc := 101) d36_101 rfl (Or.inr rfl) h
    · skip
      refine x_aload_n (pc := 23) d36_23 rfl ?_
      refine y_getr (pc := 24) d36_24 fk3_12 shL5 rfl ?_
      refine y_getr (pc := 27) d36_27 fk3_46 shL6 rfl ?_
      refine x_aload_n (pc := 30) d36_30 rfl ?_
      refine z_geti (pc := 31) d36_31 fk3_31 shL5 rfl h (fun v3 h => ?_)
      refine z_iald (pc := 34) d36_34 shL7 (by decide) h (fun v4 h => ?_)
      refine x_iload_n (pc := 35) d36_35 rfl ?_
      refine z_icmp_eq (pc := 36) (tgt := 100) d36_36 (by decide) h (fun h => ?_) (fun h => ?_)
      · skip
        refine x_iconst (pc := 100) (v := (1)) d36_100 (by decide) ?_
        exact z_zretc (pc := 101) d36_101 rfl (Or.inr rfl) h
      · skip
        refine x_aload_n (pc := 39) d36_39 rfl ?_
        refine z_getp (pc := 40) d36_40 fk3_27 shL5 rfl h (fun p5 hp5 h => ?_)
        refine z_geti (pc := 43) d36_43 fk3_49 (shP p5 hp5) rfl h (fun v6 h => ?_)
        refine x_istore (pc := 46) d36_46 (by decide) ?_
        refine x_aload_n (pc := 48) d36_48 rfl ?_
        refine x_iload_n (pc := 49) d36_49 rfl ?_
        refine z_cV1i (pc := 50) d36_50 ml3_52 mv37 shL5 (hT x2 s) (rd1 (by decide)) (Nat.le_of_ble_eq_true rfl) ⟨Nat.zero_le _, Nat.zero_le _⟩ h (fun v8 s7 h => ?_)
        refine z_if_ne (pc := 53) (tgt := 58) d36_53 (by decide) h (fun h => ?_) (fun h => ?_)
        · skip
          refine x_iload (pc := 58) d36_58 rfl ?_
          refine x_iconst (pc := 60) (v := (-1)) d36_60 (by decide) ?_
          refine z_icmp_ne (pc := 61) (tgt := 78) d36_61 (by decide) h (fun h => ?_) (fun h => ?_)
          · skip
            refine x_aload_n (pc := 78) d36_78 rfl ?_
            refine z_getp (pc := 79) d36_79 fk3_27 shL5 rfl h (fun p9 hp9 h => ?_)
            refine y_getr (pc := 82) d36_82 fk3_56 (shP p9 hp9) rfl ?_
            refine x_iload (pc := 85) d36_85 rfl ?_
            refine x_iload (pc := 87) d36_87 rfl ?_
            refine z_iast (pc := 89) d36_89 (shP6 p9 hp9) (by decide) h (fun s10 h => ?_)
            refine wp_lv (lv' := [(0, .ref 5), (1, .int x1), (2, .int x2), (3, .int x3), (5, .int x5), (6, .int v6)]) ⟨rfl, rfl, rfl, rfl, rfl, rfl, trivial⟩ ?_
            exact t_k_statements_90 fS fT fB fM d hS hT hB hM (k_statements_16 fS fT fB fM n) ih x1 x2 x3 x5 v6 s10 h
          · skip
            refine x_aload_n (pc := 64) d36_64 rfl ?_
            refine z_getp (pc := 65) d36_65 fk3_27 shL5 rfl h (fun p11 hp11 h => ?_)
            refine y_getr (pc := 68) d36_68 fk3_43 (shP p11 hp11) rfl ?_
            refine x_iload_n (pc := 71) d36_71 rfl ?_
            refine x_iload (pc := 72) d36_72 rfl ?_
            refine z_iast (pc := 74) d36_74 (shP7 p11 hp11) (by decide) h (fun s12 h => ?_)
            refine x_goto (pc := 75) (tgt := 90) d36_75 (by decide) ?_
            refine wp_lv (lv' := [(0, .ref 5), (1, .int x1), (2, .int x2), (3, .int x3), (5, .int x5), (6, .int v6)]) ⟨rfl, rfl, rfl, rfl, rfl, rfl, trivial⟩ ?_
            exact t_k_statements_90 fS fT fB fM d hS hT hB hM (k_statements_16 fS fT fB fM n) ih x1 x2 x3 x5 v6 s12 h
        · skip
          refine x_iconst (pc := 56) (v := (0)) d36_56 (by decide) ?_
          exact z_zretc (pc := 57) d36_57 rfl (Or.inl rfl) h
def k_statements (fS : Fx3) (fT : Fx1) (fB : Fx3) (fM : Fx2) (a0 : Int32) (a1 : Int32) (a2 : Int32) (s : St) : Option (Int32 × St) := grd (ib (s.1 49 0 0) 13) (s.1 49 0 0).toNatClampNeg fun p1 => grd (ib a0 121) (si s 74 p1 a0.toNatClampNeg (-1 : Int32)) fun s2 => k_statements_16 fS fT fB fM 50 a0 a1 a2 (-1 : Int32) (0 : Int32) s2
set_option maxRecDepth 100000 in
theorem t_k_statements (fS : Fx3) (fT : Fx1) (fB : Fx3) (fM : Fx2) (d : Nat) (hS : ∀ (a0 : Int32) (a1 : Int32) (a2 : Int32) (s : St) (r : Int32 × St), fS a0 a1 a2 s = some r → Ri (d + 45) 36 [.ref 5, .int a0, .int a1, .int a2] s (fun v s1 => (v, s1) = r)) (hT : ∀ (a0 : Int32) (s : St) (r : Int32 × St), fT a0 s = some r → Ri (d + 45) 37 [.ref 5, .int a0] s (fun v s1 => (v, s1) = r)) (hB : ∀ (a0 : Int32) (a1 : Int32) (a2 : Int32) (s : St) (r : Int32 × St), fB a0 a1 a2 s = some r → Ri (d + 45) 49 [.ref 5, .int a0, .int a1, .int a2] s (fun v s1 => (v, s1) = r)) (hM : ∀ (a0 : Int32) (a1 : Int32) (s : St) (r : Int32 × St), fM a0 a1 s = some r → Ri (d + 45) 51 [.ref 5, .int a0, .int a1] s (fun v s1 => (v, s1) = r)) (a0 : Int32) (a1 : Int32) (a2 : Int32) (s : St) (r : Int32 × St) (h : k_statements fS fT fB fM a0 a1 a2 s = some r) : Ri (d + 46) 36 [.ref 5, .int a0, .int a1, .int a2] s (fun v s1 => (v, s1) = r) := by
  refine ct_of (by decide +kernel) (Nat.le_of_ble_eq_true rfl) ?_
  show Wp _ _ _ _ _ _ [(0, .ref 5), (1, .int a0), (2, .int a1), (3, .int a2)] _ _ _
  unfold k_statements at h
  refine x_aload_n (pc := 0) d36_0 rfl ?_
  refine z_getp (pc := 1) d36_1 fk3_27 shL5 rfl h (fun p1 hp1 h => ?_)
  refine y_getr (pc := 4) d36_4 fk3_43 (shP p1 hp1) rfl ?_
  refine x_iload_n (pc := 7) d36_7 rfl ?_
  refine x_iconst (pc := 8) (v := (-1)) d36_8 (by decide) ?_
  refine z_iast (pc := 9) d36_9 (shP7 p1 hp1) (by decide) h (fun s2 h => ?_)
  refine x_iconst (pc := 10) (v := (-1)) d36_10 (by decide) ?_
  refine x_istore (pc := 11) d36_11 (by decide) ?_
  refine x_iconst (pc := 13) (v := (0)) d36_13 (by decide) ?_
  refine x_istore (pc := 14) d36_14 (by decide) ?_
  refine wp_lv (lv' := [(0, .ref 5), (1, .int a0), (2, .int a1), (3, .int a2), (4, .int (-1 : Int32)), (5, .int (0 : Int32))]) ⟨rfl, rfl, rfl, rfl, rfl, rfl, trivial⟩ ?_
  exact t_k_statements_16 fS fT fB fM d hS hT hB hM 50 a0 a1 a2 (-1 : Int32) (0 : Int32) s2 h
def k_statement_209 (fS : Fx3) (fT : Fx1) (fB : Fx3) (fM : Fx2) (s : St) : Option (Int32 × St) := some ((0 : Int32), s)
set_option maxRecDepth 100000 in
theorem t_k_statement_209 (fS : Fx3) (fT : Fx1) (fB : Fx3) (fM : Fx2) (d : Nat) (hS : ∀ (a0 : Int32) (a1 : Int32) (a2 : Int32) (s : St) (r : Int32 × St), fS a0 a1 a2 s = some r → Ri (d + 45) 36 [.ref 5, .int a0, .int a1, .int a2] s (fun v s1 => (v, s1) = r)) (hT : ∀ (a0 : Int32) (s : St) (r : Int32 × St), fT a0 s = some r → Ri (d + 45) 37 [.ref 5, .int a0] s (fun v s1 => (v, s1) = r)) (hB : ∀ (a0 : Int32) (a1 : Int32) (a2 : Int32) (s : St) (r : Int32 × St), fB a0 a1 a2 s = some r → Ri (d + 45) 49 [.ref 5, .int a0, .int a1, .int a2] s (fun v s1 => (v, s1) = r)) (hM : ∀ (a0 : Int32) (a1 : Int32) (s : St) (r : Int32 × St), fM a0 a1 s = some r → Ri (d + 45) 51 [.ref 5, .int a0, .int a1] s (fun v s1 => (v, s1) = r)) {r : Int32 × St} : ∀ (s : St), k_statement_209 fS fT fB fM s = some r → Wp (rmd (d + 46) 0 0) 37 (zi (fun v s1 => (v, s1) = r)) 0 0 209 [] [] (mk s) TT := by
  intro s h
  unfold k_statement_209 at h
  refine x_iconst (pc := 209) (v := (0)) d37_209 (by decide) ?_
  exact z_zretc (pc := 210) d37_210 rfl (Or.inl rfl) h
def k_statement_188 (fS : Fx3) (fT : Fx1) (fB : Fx3) (fM : Fx2) (x3 : Int32) (s : St) : Option (Int32 × St) := cal2 (k_isExpOf x3 s) fun v13 s12 => if v13 = 0 then (k_statement_209 fS fT fB fM s12) else (cal2 (k_is (59 : Int32) s12) fun v15 s14 => if v15 = 0 then (k_statement_209 fS fT fB fM s14) else (some ((1 : Int32), s14)))
set_option maxRecDepth 100000 in
theorem t_k_statement_188 (fS : Fx3) (fT : Fx1) (fB : Fx3) (fM : Fx2) (d : Nat) (hS : ∀ (a0 : Int32) (a1 : Int32) (a2 : Int32) (s : St) (r : Int32 × St), fS a0 a1 a2 s = some r → Ri (d + 45) 36 [.ref 5, .int a0, .int a1, .int a2] s (fun v s1 => (v, s1) = r)) (hT : ∀ (a0 : Int32) (s : St) (r : Int32 × St), fT a0 s = some r → Ri (d + 45) 37 [.ref 5, .int a0] s (fun v s1 => (v, s1) = r)) (hB : ∀ (a0 : Int32) (a1 : Int32) (a2 : Int32) (s : St) (r : Int32 × St), fB a0 a1 a2 s = some r → Ri (d + 45) 49 [.ref 5, .int a0, .int a1, .int a2] s (fun v s1 => (v, s1) = r)) (hM : ∀ (a0 : Int32) (a1 : Int32) (s : St) (r : Int32 × St), fM a0 a1 s = some r → Ri (d + 45) 51 [.ref 5, .int a0, .int a1] s (fun v s1 => (v, s1) = r)) {r : Int32 × St} : ∀ (x3 : Int32) (s : St), k_statement_188 fS fT fB fM x3 s = some r → Wp (rmd (d + 46) 0 0) 37 (zi (fun v s1 => (v, s1) = r)) 0 0 188 [(0, .ref 5), (3, .int x3)] [] (mk s) TT := by
  intro x3 s h
  unfold k_statement_188 at h
  refine x_aload_n (pc := 188) d37_188 rfl ?_
  refine x_iload_n (pc := 189) d37_189 rfl ?_
  refine z_cV1i (pc := 190) d37_190 ml3_72 mv42 shL5 (t_k_isExpOf x3 s) (rdk (k := 41) (e := 45) (by decide) (by decide)) (Nat.le_of_ble_eq_true rfl) ⟨Nat.zero_le _, Nat.zero_le _⟩ h (fun v13 s12 h => ?_)
  refine z_if_eq (pc := 193) (tgt := 209) d37_193 (by decide) h (fun h => ?_) (fun h => ?_)
  · skip
    refine wp_lv (lv' := []) trivial ?_
    exact t_k_statement_209 fS fT fB fM d hS hT hB hM s12 h
  · skip
    refine x_aload_n (pc := 196) d37_196 rfl ?_
    refine x_bipush (pc := 197) (v := (59)) d37_197 (by decide) ?_
    refine z_cV1i (pc := 199) d37_199 ml3_69 mv41 shL5 (t_k_is (59 : Int32) s12) (rdk (k := 0) (e := 45) (by decide) (by decide)) (Nat.le_of_ble_eq_true rfl) ⟨Nat.zero_le _, Nat.zero_le _⟩ h (fun v15 s14 h => ?_)
    refine z_if_eq (pc := 202) (tgt := 209) d37_202 (by decide) h (fun h => ?_) (fun h => ?_)
    · skip
      refine wp_lv (lv' := []) trivial ?_
      exact t_k_statement_209 fS fT fB fM d hS hT hB hM s14 h
    · skip
      refine x_iconst (pc := 205) (v := (1)) d37_205 (by decide) ?_
      refine x_goto (pc := 206) (tgt := 210) d37_206 (by decide) ?_
      exact z_zretc (pc := 210) d37_210 rfl (Or.inr rfl) h
def k_statement_242 (fS : Fx3) (fT : Fx1) (fB : Fx3) (fM : Fx2) (s : St) : Option (Int32 × St) := some ((0 : Int32), s)
set_option maxRecDepth 100000 in
theorem t_k_statement_242 (fS : Fx3) (fT : Fx1) (fB : Fx3) (fM : Fx2) (d : Nat) (hS : ∀ (a0 : Int32) (a1 : Int32) (a2 : Int32) (s : St) (r : Int32 × St), fS a0 a1 a2 s = some r → Ri (d + 45) 36 [.ref 5, .int a0, .int a1, .int a2] s (fun v s1 => (v, s1) = r)) (hT : ∀ (a0 : Int32) (s : St) (r : Int32 × St), fT a0 s = some r → Ri (d + 45) 37 [.ref 5, .int a0] s (fun v s1 => (v, s1) = r)) (hB : ∀ (a0 : Int32) (a1 : Int32) (a2 : Int32) (s : St) (r : Int32 × St), fB a0 a1 a2 s = some r → Ri (d + 45) 49 [.ref 5, .int a0, .int a1, .int a2] s (fun v s1 => (v, s1) = r)) (hM : ∀ (a0 : Int32) (a1 : Int32) (s : St) (r : Int32 × St), fM a0 a1 s = some r → Ri (d + 45) 51 [.ref 5, .int a0, .int a1] s (fun v s1 => (v, s1) = r)) {r : Int32 × St} : ∀ (s : St), k_statement_242 fS fT fB fM s = some r → Wp (rmd (d + 46) 0 0) 37 (zi (fun v s1 => (v, s1) = r)) 0 0 242 [] [] (mk s) TT := by
  intro s h
  unfold k_statement_242 at h
  refine x_iconst (pc := 242) (v := (0)) d37_242 (by decide) ?_
  exact z_zretc (pc := 243) d37_243 rfl (Or.inl rfl) h
def k_statement_266 (fS : Fx3) (fT : Fx1) (fB : Fx3) (fM : Fx2) (s : St) : Option (Int32 × St) := some ((0 : Int32), s)
set_option maxRecDepth 100000 in
theorem t_k_statement_266 (fS : Fx3) (fT : Fx1) (fB : Fx3) (fM : Fx2) (d : Nat) (hS : ∀ (a0 : Int32) (a1 : Int32) (a2 : Int32) (s : St) (r : Int32 × St), fS a0 a1 a2 s = some r → Ri (d + 45) 36 [.ref 5, .int a0, .int a1, .int a2] s (fun v s1 => (v, s1) = r)) (hT : ∀ (a0 : Int32) (s : St) (r : Int32 × St), fT a0 s = some r → Ri (d + 45) 37 [.ref 5, .int a0] s (fun v s1 => (v, s1) = r)) (hB : ∀ (a0 : Int32) (a1 : Int32) (a2 : Int32) (s : St) (r : Int32 × St), fB a0 a1 a2 s = some r → Ri (d + 45) 49 [.ref 5, .int a0, .int a1, .int a2] s (fun v s1 => (v, s1) = r)) (hM : ∀ (a0 : Int32) (a1 : Int32) (s : St) (r : Int32 × St), fM a0 a1 s = some r → Ri (d + 45) 51 [.ref 5, .int a0, .int a1] s (fun v s1 => (v, s1) = r)) {r : Int32 × St} : ∀ (s : St), k_statement_266 fS fT fB fM s = some r → Wp (rmd (d + 46) 0 0) 37 (zi (fun v s1 => (v, s1) = r)) 0 0 266 [] [] (mk s) TT := by
  intro s h
  unfold k_statement_266 at h
  refine x_iconst (pc := 266) (v := (0)) d37_266 (by decide) ?_
  exact z_zretc (pc := 267) d37_267 rfl (Or.inl rfl) h
def k_statement_309 (fS : Fx3) (fT : Fx1) (fB : Fx3) (fM : Fx2) (s : St) : Option (Int32 × St) := some ((0 : Int32), s)
set_option maxRecDepth 100000 in
theorem t_k_statement_309 (fS : Fx3) (fT : Fx1) (fB : Fx3) (fM : Fx2) (d : Nat) (hS : ∀ (a0 : Int32) (a1 : Int32) (a2 : Int32) (s : St) (r : Int32 × St), fS a0 a1 a2 s = some r → Ri (d + 45) 36 [.ref 5, .int a0, .int a1, .int a2] s (fun v s1 => (v, s1) = r)) (hT : ∀ (a0 : Int32) (s : St) (r : Int32 × St), fT a0 s = some r → Ri (d + 45) 37 [.ref 5, .int a0] s (fun v s1 => (v, s1) = r)) (hB : ∀ (a0 : Int32) (a1 : Int32) (a2 : Int32) (s : St) (r : Int32 × St), fB a0 a1 a2 s = some r → Ri (d + 45) 49 [.ref 5, .int a0, .int a1, .int a2] s (fun v s1 => (v, s1) = r)) (hM : ∀ (a0 : Int32) (a1 : Int32) (s : St) (r : Int32 × St), fM a0 a1 s = some r → Ri (d + 45) 51 [.ref 5, .int a0, .int a1] s (fun v s1 => (v, s1) = r)) {r : Int32 × St} : ∀ (s : St), k_statement_309 fS fT fB fM s = some r → Wp (rmd (d + 46) 0 0) 37 (zi (fun v s1 => (v, s1) = r)) 0 0 309 [] [] (mk s) TT := by
  intro s h
  unfold k_statement_309 at h
  refine x_iconst (pc := 309) (v := (0)) d37_309 (by decide) ?_
  exact z_zretc (pc := 310) d37_310 rfl (Or.inl rfl) h
def k_statement_352 (fS : Fx3) (fT : Fx1) (fB : Fx3) (fM : Fx2) (s : St) : Option (Int32 × St) := some ((0 : Int32), s)
set_option maxRecDepth 100000 in
theorem t_k_statement_352 (fS : Fx3) (fT : Fx1) (fB : Fx3) (fM : Fx2) (d : Nat) (hS : ∀ (a0 : Int32) (a1 : Int32) (a2 : Int32) (s : St) (r : Int32 × St), fS a0 a1 a2 s = some r → Ri (d + 45) 36 [.ref 5, .int a0, .int a1, .int a2] s (fun v s1 => (v, s1) = r)) (hT : ∀ (a0 : Int32) (s : St) (r : Int32 × St), fT a0 s = some r → Ri (d + 45) 37 [.ref 5, .int a0] s (fun v s1 => (v, s1) = r)) (hB : ∀ (a0 : Int32) (a1 : Int32) (a2 : Int32) (s : St) (r : Int32 × St), fB a0 a1 a2 s = some r → Ri (d + 45) 49 [.ref 5, .int a0, .int a1, .int a2] s (fun v s1 => (v, s1) = r)) (hM : ∀ (a0 : Int32) (a1 : Int32) (s : St) (r : Int32 × St), fM a0 a1 s = some r → Ri (d + 45) 51 [.ref 5, .int a0, .int a1] s (fun v s1 => (v, s1) = r)) {r : Int32 × St} : ∀ (s : St), k_statement_352 fS fT fB fM s = some r → Wp (rmd (d + 46) 0 0) 37 (zi (fun v s1 => (v, s1) = r)) 0 0 352 [] [] (mk s) TT := by
  intro s h
  unfold k_statement_352 at h
  refine x_iconst (pc := 352) (v := (0)) d37_352 (by decide) ?_
  exact z_zretc (pc := 353) d37_353 rfl (Or.inl rfl) h
def k_statement_395 (fS : Fx3) (fT : Fx1) (fB : Fx3) (fM : Fx2) (s : St) : Option (Int32 × St) := some ((0 : Int32), s)
set_option maxRecDepth 100000 in
theorem t_k_statement_395 (fS : Fx3) (fT : Fx1) (fB : Fx3) (fM : Fx2) (d : Nat) (hS : ∀ (a0 : Int32) (a1 : Int32) (a2 : Int32) (s : St) (r : Int32 × St), fS a0 a1 a2 s = some r → Ri (d + 45) 36 [.ref 5, .int a0, .int a1, .int a2] s (fun v s1 => (v, s1) = r)) (hT : ∀ (a0 : Int32) (s : St) (r : Int32 × St), fT a0 s = some r → Ri (d + 45) 37 [.ref 5, .int a0] s (fun v s1 => (v, s1) = r)) (hB : ∀ (a0 : Int32) (a1 : Int32) (a2 : Int32) (s : St) (r : Int32 × St), fB a0 a1 a2 s = some r → Ri (d + 45) 49 [.ref 5, .int a0, .int a1, .int a2] s (fun v s1 => (v, s1) = r)) (hM : ∀ (a0 : Int32) (a1 : Int32) (s : St) (r : Int32 × St), fM a0 a1 s = some r → Ri (d + 45) 51 [.ref 5, .int a0, .int a1] s (fun v s1 => (v, s1) = r)) {r : Int32 × St} : ∀ (s : St), k_statement_395 fS fT fB fM s = some r → Wp (rmd (d + 46) 0 0) 37 (zi (fun v s1 => (v, s1) = r)) 0 0 395 [] [] (mk s) TT := by
  intro s h
  unfold k_statement_395 at h
  refine x_iconst (pc := 395) (v := (0)) d37_395 (by decide) ?_
  exact z_zretc (pc := 396) d37_396 rfl (Or.inl rfl) h
def k_statement_438 (fS : Fx3) (fT : Fx1) (fB : Fx3) (fM : Fx2) (s : St) : Option (Int32 × St) := some ((0 : Int32), s)
set_option maxRecDepth 100000 in
theorem t_k_statement_438 (fS : Fx3) (fT : Fx1) (fB : Fx3) (fM : Fx2) (d : Nat) (hS : ∀ (a0 : Int32) (a1 : Int32) (a2 : Int32) (s : St) (r : Int32 × St), fS a0 a1 a2 s = some r → Ri (d + 45) 36 [.ref 5, .int a0, .int a1, .int a2] s (fun v s1 => (v, s1) = r)) (hT : ∀ (a0 : Int32) (s : St) (r : Int32 × St), fT a0 s = some r → Ri (d + 45) 37 [.ref 5, .int a0] s (fun v s1 => (v, s1) = r)) (hB : ∀ (a0 : Int32) (a1 : Int32) (a2 : Int32) (s : St) (r : Int32 × St), fB a0 a1 a2 s = some r → Ri (d + 45) 49 [.ref 5, .int a0, .int a1, .int a2] s (fun v s1 => (v, s1) = r)) (hM : ∀ (a0 : Int32) (a1 : Int32) (s : St) (r : Int32 × St), fM a0 a1 s = some r → Ri (d + 45) 51 [.ref 5, .int a0, .int a1] s (fun v s1 => (v, s1) = r)) {r : Int32 × St} : ∀ (s : St), k_statement_438 fS fT fB fM s = some r → Wp (rmd (d + 46) 0 0) 37 (zi (fun v s1 => (v, s1) = r)) 0 0 438 [] [] (mk s) TT := by
  intro s h
  unfold k_statement_438 at h
  refine x_iconst (pc := 438) (v := (0)) d37_438 (by decide) ?_
  exact z_zretc (pc := 439) d37_439 rfl (Or.inl rfl) h
def k_statement_492 (fS : Fx3) (fT : Fx1) (fB : Fx3) (fM : Fx2) (s : St) : Option (Int32 × St) := some ((0 : Int32), s)
set_option maxRecDepth 100000 in
theorem t_k_statement_492 (fS : Fx3) (fT : Fx1) (fB : Fx3) (fM : Fx2) (d : Nat) (hS : ∀ (a0 : Int32) (a1 : Int32) (a2 : Int32) (s : St) (r : Int32 × St), fS a0 a1 a2 s = some r → Ri (d + 45) 36 [.ref 5, .int a0, .int a1, .int a2] s (fun v s1 => (v, s1) = r)) (hT : ∀ (a0 : Int32) (s : St) (r : Int32 × St), fT a0 s = some r → Ri (d + 45) 37 [.ref 5, .int a0] s (fun v s1 => (v, s1) = r)) (hB : ∀ (a0 : Int32) (a1 : Int32) (a2 : Int32) (s : St) (r : Int32 × St), fB a0 a1 a2 s = some r → Ri (d + 45) 49 [.ref 5, .int a0, .int a1, .int a2] s (fun v s1 => (v, s1) = r)) (hM : ∀ (a0 : Int32) (a1 : Int32) (s : St) (r : Int32 × St), fM a0 a1 s = some r → Ri (d + 45) 51 [.ref 5, .int a0, .int a1] s (fun v s1 => (v, s1) = r)) {r : Int32 × St} : ∀ (s : St), k_statement_492 fS fT fB fM s = some r → Wp (rmd (d + 46) 0 0) 37 (zi (fun v s1 => (v, s1) = r)) 0 0 492 [] [] (mk s) TT := by
  intro s h
  unfold k_statement_492 at h
  refine x_iconst (pc := 492) (v := (0)) d37_492 (by decide) ?_
  exact z_zretc (pc := 493) d37_493 rfl (Or.inl rfl) h
def k_statement_528 (fS : Fx3) (fT : Fx1) (fB : Fx3) (fM : Fx2) (s : St) : Option (Int32 × St) := some ((0 : Int32), s)
set_option maxRecDepth 100000 in
theorem t_k_statement_528 (fS : Fx3) (fT : Fx1) (fB : Fx3) (fM : Fx2) (d : Nat) (hS : ∀ (a0 : Int32) (a1 : Int32) (a2 : Int32) (s : St) (r : Int32 × St), fS a0 a1 a2 s = some r → Ri (d + 45) 36 [.ref 5, .int a0, .int a1, .int a2] s (fun v s1 => (v, s1) = r)) (hT : ∀ (a0 : Int32) (s : St) (r : Int32 × St), fT a0 s = some r → Ri (d + 45) 37 [.ref 5, .int a0] s (fun v s1 => (v, s1) = r)) (hB : ∀ (a0 : Int32) (a1 : Int32) (a2 : Int32) (s : St) (r : Int32 × St), fB a0 a1 a2 s = some r → Ri (d + 45) 49 [.ref 5, .int a0, .int a1, .int a2] s (fun v s1 => (v, s1) = r)) (hM : ∀ (a0 : Int32) (a1 : Int32) (s : St) (r : Int32 × St), fM a0 a1 s = some r → Ri (d + 45) 51 [.ref 5, .int a0, .int a1] s (fun v s1 => (v, s1) = r)) {r : Int32 × St} : ∀ (s : St), k_statement_528 fS fT fB fM s = some r → Wp (rmd (d + 46) 0 0) 37 (zi (fun v s1 => (v, s1) = r)) 0 0 528 [] [] (mk s) TT := by
  intro s h
  unfold k_statement_528 at h
  refine x_iconst (pc := 528) (v := (0)) d37_528 (by decide) ?_
  exact z_zretc (pc := 529) d37_529 rfl (Or.inl rfl) h
def k_statement_530 (fS : Fx3) (fT : Fx1) (fB : Fx3) (fM : Fx2) (x1 : Int32) (x3 : Int32) (s : St) : Option (Int32 × St) := cal2 (fB x3 (0 : Int32) x1 s) fun v75 s74 => grd (zo v75) (v75, s74) some
set_option maxRecDepth 100000 in
theorem t_k_statement_530 (fS : Fx3) (fT : Fx1) (fB : Fx3) (fM : Fx2) (d : Nat) (hS : ∀ (a0 : Int32) (a1 : Int32) (a2 : Int32) (s : St) (r : Int32 × St), fS a0 a1 a2 s = some r → Ri (d + 45) 36 [.ref 5, .int a0, .int a1, .int a2] s (fun v s1 => (v, s1) = r)) (hT : ∀ (a0 : Int32) (s : St) (r : Int32 × St), fT a0 s = some r → Ri (d + 45) 37 [.ref 5, .int a0] s (fun v s1 => (v, s1) = r)) (hB : ∀ (a0 : Int32) (a1 : Int32) (a2 : Int32) (s : St) (r : Int32 × St), fB a0 a1 a2 s = some r → Ri (d + 45) 49 [.ref 5, .int a0, .int a1, .int a2] s (fun v s1 => (v, s1) = r)) (hM : ∀ (a0 : Int32) (a1 : Int32) (s : St) (r : Int32 × St), fM a0 a1 s = some r → Ri (d + 45) 51 [.ref 5, .int a0, .int a1] s (fun v s1 => (v, s1) = r)) {r : Int32 × St} : ∀ (x1 : Int32) (x3 : Int32) (s : St), k_statement_530 fS fT fB fM x1 x3 s = some r → Wp (rmd (d + 46) 0 0) 37 (zi (fun v s1 => (v, s1) = r)) 0 0 530 [(0, .ref 5), (1, .int x1), (3, .int x3)] [] (mk s) TT := by
  intro x1 x3 s h
  unfold k_statement_530 at h
  refine x_aload_n (pc := 530) d37_530 rfl ?_
  refine x_iload_n (pc := 531) d37_531 rfl ?_
  refine x_iconst (pc := 532) (v := (0)) d37_532 (by decide) ?_
  refine x_iload_n (pc := 533) d37_533 rfl ?_
  refine z_cV3i (pc := 534) d37_534 ml3_78 mv49 shL5 (hB x3 (0 : Int32) x1 s) (rd1 (by decide)) (Nat.le_of_ble_eq_true rfl) ⟨Nat.zero_le _, Nat.zero_le _⟩ h (fun v75 s74 h => ?_)
  exact z_zret (pc := 537) d37_537 rfl h
def k_statement_86 (fS : Fx3) (fT : Fx1) (fB : Fx3) (fM : Fx2) (s : St) : Option (Int32 × St) := some ((0 : Int32), s)
set_option maxRecDepth 100000 in
theorem t_k_statement_86 (fS : Fx3) (fT : Fx1) (fB : Fx3) (fM : Fx2) (d : Nat) (hS : ∀ (a0 : Int32) (a1 : Int32) (a2 : Int32) (s : St) (r : Int32 × St), fS a0 a1 a2 s = some r → Ri (d + 45) 36 [.ref 5, .int a0, .int a1, .int a2] s (fun v s1 => (v, s1) = r)) (hT : ∀ (a0 : Int32) (s : St) (r : Int32 × St), fT a0 s = some r → Ri (d + 45) 37 [.ref 5, .int a0] s (fun v s1 => (v, s1) = r)) (hB : ∀ (a0 : Int32) (a1 : Int32) (a2 : Int32) (s : St) (r : Int32 × St), fB a0 a1 a2 s = some r → Ri (d + 45) 49 [.ref 5, .int a0, .int a1, .int a2] s (fun v s1 => (v, s1) = r)) (hM : ∀ (a0 : Int32) (a1 : Int32) (s : St) (r : Int32 × St), fM a0 a1 s = some r → Ri (d + 45) 51 [.ref 5, .int a0, .int a1] s (fun v s1 => (v, s1) = r)) {r : Int32 × St} : ∀ (s : St), k_statement_86 fS fT fB fM s = some r → Wp (rmd (d + 46) 0 0) 37 (zi (fun v s1 => (v, s1) = r)) 0 0 86 [] [] (mk s) TT := by
  intro s h
  unfold k_statement_86 at h
  refine x_iconst (pc := 86) (v := (0)) d37_86 (by decide) ?_
  exact z_zretc (pc := 87) d37_87 rfl (Or.inl rfl) h
def k_statement (fS : Fx3) (fT : Fx1) (fB : Fx3) (fM : Fx2) (a0 : Int32) (s : St) : Option (Int32 × St) := bnd (s.1 50 0 0) fun v1 => grd (ib v1 801) (s.1 96 0 v1.toNatClampNeg) fun v2 => grd (ib (s.1 49 0 0) 13) (s.1 49 0 0).toNatClampNeg fun p3 => bnd (s.1 64 p3 0) fun v4 => if (40 : Int32) ≤ v4 then (some ((0 : Int32), s)) else (cal2 (k_beginsStatement v2 s) fun v6 s5 => if v6 = 0 then (some ((0 : Int32), s5)) else (grd (ib (s5.1 49 0 0) 13) (s5.1 49 0 0).toNatClampNeg fun p7 => cal2 (k_addStatement p7 v2 s5) fun v9 s8 => if v2 = (2 : Int32) then (cal2 (k_isLocal v9 s8) fun v77 s76 => if v77 = 0 then (k_statement_86 fS fT fB fM s76) else (cal2 (k_is (61 : Int32) s76) fun v79 s78 => if v79 = 0 then (k_statement_86 fS fT fB fM s78) else (cal2 (k_isExpOf v9 s78) fun v81 s80 => if v81 = 0 then (k_statement_86 fS fT fB fM s80) else (cal2 (k_is (59 : Int32) s80) fun v83 s82 => if v83 = 0 then (k_statement_86 fS fT fB fM s82) else (some ((1 : Int32), s82)))))) else (bnd (s8.1 50 0 0) fun v10 => bnd (si s8 50 0 0 (v10 + (1 : Int32))) fun s11 => if v2 = 5 then (k_statement_188 fS fT fB fM v9 s11) else if v2 = 6 then (cal2 (k_isCondition v9 s11) fun v17 s16 => if v17 = 0 then (k_statement_242 fS fT fB fM s16) else (cal2 (fB v9 (0 : Int32) a0 s16) fun v19 s18 => if v19 = 0 then (k_statement_242 fS fT fB fM s18) else (cal2 (fM v9 a0 s18) fun v21 s20 => if v21 = 0 then (k_statement_242 fS fT fB fM s20) else (some ((1 : Int32), s20))))) else if v2 = 8 then (cal2 (k_isCondition v9 s11) fun v23 s22 => if v23 = 0 then (k_statement_266 fS fT fB fM s22) else (cal2 (fB v9 (0 : Int32) a0 s22) fun v25 s24 => if v25 = 0 then (k_statement_266 fS fT fB fM s24) else (some ((1 : Int32), s24)))) else if v2 = 9 then (cal2 (k_isNumberOf v9 (3 : Int32) (8 : Int32) s11) fun v27 s26 => if v27 = 0 then (k_statement_309 fS fT fB fM s26) else (cal2 (k_is (10 : Int32) s26) fun v29 s28 => if v29 = 0 then (k_statement_309 fS fT fB fM s28) else (cal2 (k_isLocal v9 s28) fun v31 s30 => if v31 = 0 then (k_statement_309 fS fT fB fM s30) else (cal2 (k_is (59 : Int32) s30) fun v33 s32 => if v33 = 0 then (k_statement_309 fS fT fB fM s32) else (some ((1 : Int32), s32)))))) else if v2 = 11 then (cal2 (k_isExpOf v9 s11) fun v35 s34 => if v35 = 0 then (k_statement_352 fS fT fB fM s34) else (cal2 (k_is (12 : Int32) s34) fun v37 s36 => if v37 = 0 then (k_statement_352 fS fT fB fM s36) else (cal2 (k_isNumberOf v9 (3 : Int32) (8 : Int32) s36) fun v39 s38 => if v39 = 0 then (k_statement_352 fS fT fB fM s38) else (cal2 (k_is (59 : Int32) s38) fun v41 s40 => if v41 = 0 then (k_statement_352 fS fT fB fM s40) else (some ((1 : Int32), s40)))))) else if v2 = 13 then (k_statement_188 fS fT fB fM v9 s11) else if v2 = 14 then (cal2 (k_isExpOf v9 s11) fun v43 s42 => if v43 = 0 then (k_statement_395 fS fT fB fM s42) else (cal2 (k_is (10 : Int32) s42) fun v45 s44 => if v45 = 0 then (k_statement_395 fS fT fB fM s44) else (cal2 (k_isNumberOf v9 (4 : Int32) (6 : Int32) s44) fun v47 s46 => if v47 = 0 then (k_statement_395 fS fT fB fM s46) else (cal2 (k_is (59 : Int32) s46) fun v49 s48 => if v49 = 0 then (k_statement_395 fS fT fB fM s48) else (some ((1 : Int32), s48)))))) else if v2 = 18 then (cal2 (fB v9 (0 : Int32) a0 s11) fun v51 s50 => if v51 = 0 then (k_statement_438 fS fT fB fM s50) else (cal2 (k_is (19 : Int32) s50) fun v53 s52 => if v53 = 0 then (k_statement_438 fS fT fB fM s52) else (cal2 (k_isLocal v9 s52) fun v55 s54 => if v55 = 0 then (k_statement_438 fS fT fB fM s54) else (cal2 (fB v9 (1 : Int32) a0 s54) fun v57 s56 => if v57 = 0 then (k_statement_438 fS fT fB fM s56) else (some ((1 : Int32), s56)))))) else if v2 = 20 then (cal2 (fB v9 (0 : Int32) a0 s11) fun v59 s58 => if v59 = 0 then (k_statement_492 fS fT fB fM s58) else (cal2 (k_is (21 : Int32) s58) fun v61 s60 => if v61 = 0 then (k_statement_492 fS fT fB fM s60) else (cal2 (fB v9 (1 : Int32) a0 s60) fun v63 s62 => if v63 = 0 then (k_statement_492 fS fT fB fM s62) else (cal2 (k_is (22 : Int32) s62) fun v65 s64 => if v65 = 0 then (k_statement_492 fS fT fB fM s64) else (cal2 (fB v9 (2 : Int32) a0 s64) fun v67 s66 => if v67 = 0 then (k_statement_492 fS fT fB fM s66) else (some ((1 : Int32), s66))))))) else if v2 = 23 then (cal2 (k_isNumberOf v9 (4 : Int32) (1000000000 : Int32) s11) fun v69 s68 => if v69 = 0 then (k_statement_528 fS fT fB fM s68) else (cal2 (fB v9 (0 : Int32) a0 s68) fun v71 s70 => if v71 = 0 then (k_statement_528 fS fT fB fM s70) else (cal2 (fM v9 a0 s70) fun v73 s72 => if v73 = 0 then (k_statement_528 fS fT fB fM s72) else (some ((1 : Int32), s72))))) else (k_statement_530 fS fT fB fM a0 v9 s11))))
set_option maxRecDepth 100000 in
theorem t_k_statement (fS : Fx3) (fT : Fx1) (fB : Fx3) (fM : Fx2) (d : Nat) (hS : ∀ (a0 : Int32) (a1 : Int32) (a2 : Int32) (s : St) (r : Int32 × St), fS a0 a1 a2 s = some r → Ri (d + 45) 36 [.ref 5, .int a0, .int a1, .int a2] s (fun v s1 => (v, s1) = r)) (hT : ∀ (a0 : Int32) (s : St) (r : Int32 × St), fT a0 s = some r → Ri (d + 45) 37 [.ref 5, .int a0] s (fun v s1 => (v, s1) = r)) (hB : ∀ (a0 : Int32) (a1 : Int32) (a2 : Int32) (s : St) (r : Int32 × St), fB a0 a1 a2 s = some r → Ri (d + 45) 49 [.ref 5, .int a0, .int a1, .int a2] s (fun v s1 => (v, s1) = r)) (hM : ∀ (a0 : Int32) (a1 : Int32) (s : St) (r : Int32 × St), fM a0 a1 s = some r → Ri (d + 45) 51 [.ref 5, .int a0, .int a1] s (fun v s1 => (v, s1) = r)) (a0 : Int32) (s : St) (r : Int32 × St) (h : k_statement fS fT fB fM a0 s = some r) : Ri (d + 46) 37 [.ref 5, .int a0] s (fun v s1 => (v, s1) = r) := by
  refine ct_of (by decide +kernel) (Nat.le_of_ble_eq_true rfl) ?_
  show Wp _ _ _ _ _ _ [(0, .ref 5), (1, .int a0)] _ _ _
  unfold k_statement at h
  refine x_aload_n (pc := 0) d37_0 rfl ?_
  refine y_getr (pc := 1) d37_1 fk3_12 shL5 rfl ?_
  refine y_getr (pc := 4) d37_4 fk3_46 shL6 rfl ?_
  refine x_aload_n (pc := 7) d37_7 rfl ?_
  refine z_geti (pc := 8) d37_8 fk3_31 shL5 rfl h (fun v1 h => ?_)
  refine z_iald (pc := 11) d37_11 shL7 (by decide) h (fun v2 h => ?_)
  refine x_istore_n (pc := 12) d37_12 (by decide) ?_
  refine x_aload_n (pc := 13) d37_13 rfl ?_
  refine z_getp (pc := 14) d37_14 fk3_27 shL5 rfl h (fun p3 hp3 h => ?_)
  refine z_geti (pc := 17) d37_17 fk3_49 (shP p3 hp3) rfl h (fun v4 h => ?_)
  refine x_bipush (pc := 20) (v := (40)) d37_20 (by decide) ?_
  refine z_icmp_ge (pc := 22) (tgt := 32) d37_22 (by decide) h (fun h => ?_) (fun h => ?_)
  · skip
    refine x_iconst (pc := 32) (v := (0)) d37_32 (by decide) ?_
    exact z_zretc (pc := 33) d37_33 rfl (Or.inl rfl) h
  · skip
    refine x_iload_n (pc := 25) d37_25 rfl ?_
    refine z_cS1i (pc := 26) d37_26 ml3_59 mv38 (t_k_beginsStatement v2 s) (rdk (k := 0) (e := 45) (by decide) (by decide)) (Nat.le_of_ble_eq_true rfl) ⟨Nat.zero_le _, Nat.zero_le _⟩ h (fun v6 s5 h => ?_)
    refine z_if_ne (pc := 29) (tgt := 34) d37_29 (by decide) h (fun h => ?_) (fun h => ?_)
    · skip
      refine x_aload_n (pc := 34) d37_34 rfl ?_
      refine z_getp (pc := 35) d37_35 fk3_27 shL5 rfl h (fun p7 hp7 h => ?_)
      refine x_iload_n (pc := 38) d37_38 rfl ?_
      refine z_cV1i (pc := 39) d37_39 ml3_62 mv39 (shP p7 hp7) (t_k_addStatement p7 hp7 v2 s5) (rdk (k := 0) (e := 45) (by decide) (by decide)) (Nat.le_of_ble_eq_true rfl) ⟨Nat.zero_le _, Nat.zero_le _⟩ h (fun v9 s8 h => ?_)
      refine x_istore_n (pc := 42) d37_42 (by decide) ?_
      refine x_iload_n (pc := 43) d37_43 rfl ?_
      refine x_iconst (pc := 44) (v := (2)) d37_44 (by decide) ?_
      refine z_icmp_ne (pc := 45) (tgt := 88) d37_45 (by decide) h (fun h => ?_) (fun h => ?_)
      · skip
        refine x_aload_n (pc := 88) d37_88 rfl ?_
        refine x_dup (pc := 89) d37_89 rfl ?_
        refine z_geti (pc := 90) d37_90 fk3_31 shL5 rfl h (fun v10 h => ?_)
        refine x_iconst (pc := 93) (v := (1)) d37_93 (by decide) ?_
        refine x_iadd (pc := 94) d37_94 ?_
        refine z_puti (pc := 95) d37_95 fk3_31 shL5 rfl rfl ⟨rfl, rfl⟩ h (fun s11 h => ?_)
        refine x_iload_n (pc := 98) d37_98 rfl ?_
        by_cases hk5 : v2 = 5
        · replace h := ip hk5 h
          refine x_tableIn (pc := 99) (tgt := 188) (off := 89) d37_99 (by rw [hk5]; decide) (by rw [hk5]; decide) (by rw [hk5]; decide) (by decide) ?_
          refine wp_lv (lv' := [(0, .ref 5), (3, .int v9)]) ⟨rfl, rfl, trivial⟩ ?_
          exact t_k_statement_188 fS fT fB fM d hS hT hB hM v9 s11 h
        replace h := im hk5 h
        by_cases hk6 : v2 = 6
        · replace h := ip hk6 h
          refine x_tableIn (pc := 99) (tgt := 211) (off := 112) d37_99 (by rw [hk6]; decide) (by rw [hk6]; decide) (by rw [hk6]; decide) (by decide) ?_
          refine x_aload_n (pc := 211) d37_211 rfl ?_
          refine x_iload_n (pc := 212) d37_212 rfl ?_
          refine z_cV1i (pc := 213) d37_213 ml3_75 mv48 shL5 (t_k_isCondition v9 s11) (rdk (k := 42) (e := 45) (by decide) (by decide)) (Nat.le_of_ble_eq_true rfl) ⟨Nat.zero_le _, Nat.zero_le _⟩ h (fun v17 s16 h => ?_)
          refine z_if_eq (pc := 216) (tgt := 242) d37_216 (by decide) h (fun h => ?_) (fun h => ?_)
          · skip
            refine wp_lv (lv' := []) trivial ?_
            exact t_k_statement_242 fS fT fB fM d hS hT hB hM s16 h
          · skip
            refine x_aload_n (pc := 219) d37_219 rfl ?_
            refine x_iload_n (pc := 220) d37_220 rfl ?_
            refine x_iconst (pc := 221) (v := (0)) d37_221 (by decide) ?_
            refine x_iload_n (pc := 222) d37_222 rfl ?_
            refine z_cV3i (pc := 223) d37_223 ml3_78 mv49 shL5 (hB v9 (0 : Int32) a0 s16) (rd1 (by decide)) (Nat.le_of_ble_eq_true rfl) ⟨Nat.zero_le _, Nat.zero_le _⟩ h (fun v19 s18 h => ?_)
            refine z_if_eq (pc := 226) (tgt := 242) d37_226 (by decide) h (fun h => ?_) (fun h => ?_)
            · skip
              refine wp_lv (lv' := []) trivial ?_
              exact t_k_statement_242 fS fT fB fM d hS hT hB hM s18 h
            · skip
              refine x_aload_n (pc := 229) d37_229 rfl ?_
              refine x_iload_n (pc := 230) d37_230 rfl ?_
              refine x_iload_n (pc := 231) d37_231 rfl ?_
              refine z_cV2i (pc := 232) d37_232 ml3_81 mv51 shL5 (hM v9 a0 s18) (rd1 (by decide)) (Nat.le_of_ble_eq_true rfl) ⟨Nat.zero_le _, Nat.zero_le _⟩ h (fun v21 s20 h => ?_)
              refine z_if_eq (pc := 235) (tgt := 242) d37_235 (by decide) h (fun h => ?_) (fun h => ?_)
              · skip
                refine wp_lv (lv' := []) trivial ?_
                exact t_k_statement_242 fS fT fB fM d hS hT hB hM s20 h
              · skip
                refine x_iconst (pc := 238) (v := (1)) d37_238 (by decide) ?_
                refine x_goto (pc := 239) (tgt := 243) d37_239 (by decide) ?_
                exact z_zretc (pc := 243) d37_243 rfl (Or.inr rfl) h
        replace h := im hk6 h
        by_cases hk8 : v2 = 8
        · replace h := ip hk8 h
          refine x_tableIn (pc := 99) (tgt := 244) (off := 145) d37_99 (by rw [hk8]; decide) (by rw [hk8]; decide) (by rw [hk8]; decide) (by decide) ?_
          refine x_aload_n (pc := 244) d37_244 rfl ?_
          refine x_iload_n (pc := 245) d37_245 rfl ?_
          refine z_cV1i (pc := 246) d37_246 ml3_75 mv48 shL5 (t_k_isCondition v9 s11) (rdk (k := 42) (e := 45) (by decide) (by decide)) (Nat.le_of_ble_eq_true rfl) ⟨Nat.zero_le _, Nat.zero_le _⟩ h (fun v23 s22 h => ?_)
          refine z_if_eq (pc := 249) (tgt := 266) d37_249 (by decide) h (fun h => ?_) (fun h => ?_)
          · skip
            refine wp_lv (lv' := []) trivial ?_
            exact t_k_statement_266 fS fT fB fM d hS hT hB hM s22 h
          · skip
            refine x_aload_n (pc := 252) d37_252 rfl ?_
            refine x_iload_n (pc := 253) d37_253 rfl ?_
            refine x_iconst (pc := 254) (v := (0)) d37_254 (by decide) ?_
            refine x_iload_n (pc := 255) d37_255 rfl ?_
            refine z_cV3i (pc := 256) d37_256 ml3_78 mv49 shL5 (hB v9 (0 : Int32) a0 s22) (rd1 (by decide)) (Nat.le_of_ble_eq_true rfl) ⟨Nat.zero_le _, Nat.zero_le _⟩ h (fun v25 s24 h => ?_)
            refine z_if_eq (pc := 259) (tgt := 266) d37_259 (by decide) h (fun h => ?_) (fun h => ?_)
            · skip
              refine wp_lv (lv' := []) trivial ?_
              exact t_k_statement_266 fS fT fB fM d hS hT hB hM s24 h
            · skip
              refine x_iconst (pc := 262) (v := (1)) d37_262 (by decide) ?_
              refine x_goto (pc := 263) (tgt := 267) d37_263 (by decide) ?_
              exact z_zretc (pc := 267) d37_267 rfl (Or.inr rfl) h
        replace h := im hk8 h
        by_cases hk9 : v2 = 9
        · replace h := ip hk9 h
          refine x_tableIn (pc := 99) (tgt := 268) (off := 169) d37_99 (by rw [hk9]; decide) (by rw [hk9]; decide) (by rw [hk9]; decide) (by decide) ?_
          refine x_aload_n (pc := 268) d37_268 rfl ?_
          refine x_iload_n (pc := 269) d37_269 rfl ?_
          refine x_iconst (pc := 270) (v := (3)) d37_270 (by decide) ?_
          refine x_bipush (pc := 271) (v := (8)) d37_271 (by decide) ?_
          refine z_cV3i (pc := 273) d37_273 ml3_85 mv52 shL5 (t_k_isNumberOf v9 (3 : Int32) (8 : Int32) s11) (rdk (k := 1) (e := 45) (by decide) (by decide)) (Nat.le_of_ble_eq_true rfl) ⟨Nat.zero_le _, Nat.zero_le _⟩ h (fun v27 s26 h => ?_)
          refine z_if_eq (pc := 276) (tgt := 309) d37_276 (by decide) h (fun h => ?_) (fun h => ?_)
          · skip
            refine wp_lv (lv' := []) trivial ?_
            exact t_k_statement_309 fS fT fB fM d hS hT hB hM s26 h
          · skip
            refine x_aload_n (pc := 279) d37_279 rfl ?_
            refine x_bipush (pc := 280) (v := (10)) d37_280 (by decide) ?_
            refine z_cV1i (pc := 282) d37_282 ml3_69 mv41 shL5 (t_k_is (10 : Int32) s26) (rdk (k := 0) (e := 45) (by decide) (by decide)) (Nat.le_of_ble_eq_true rfl) ⟨Nat.zero_le _, Nat.zero_le _⟩ h (fun v29 s28 h => ?_)
            refine z_if_eq (pc := 285) (tgt := 309) d37_285 (by decide) h (fun h => ?_) (fun h => ?_)
            · skip
              refine wp_lv (lv' := []) trivial ?_
              exact t_k_statement_309 fS fT fB fM d hS hT hB hM s28 h
            · skip
              refine x_aload_n (pc := 288) d37_288 rfl ?_
              refine x_iload_n (pc := 289) d37_289 rfl ?_
              refine z_cV1i (pc := 290) d37_290 ml3_66 mv40 shL5 (t_k_isLocal v9 s28) (rdk (k := 1) (e := 45) (by decide) (by decide)) (Nat.le_of_ble_eq_true rfl) ⟨Nat.zero_le _, Nat.zero_le _⟩ h (fun v31 s30 h => ?_)
              refine z_if_eq (pc := 293) (tgt := 309) d37_293 (by decide) h (fun h => ?_) (fun h => ?_)
              · skip
                refine wp_lv (lv' := []) trivial ?_
                exact t_k_statement_309 fS fT fB fM d hS hT hB hM s30 h
              · skip
                refine x_aload_n (pc := 296) d37_296 rfl ?_
                refine x_bipush (pc := 297) (v := (59)) d37_297 (by decide) ?_
                refine z_cV1i (pc := 299) d37_299 ml3_69 mv41 shL5 (t_k_is (59 : Int32) s30) (rdk (k := 0) (e := 45) (by decide) (by decide)) (Nat.le_of_ble_eq_true rfl) ⟨Nat.zero_le _, Nat.zero_le _⟩ h (fun v33 s32 h => ?_)
                refine z_if_eq (pc := 302) (tgt := 309) d37_302 (by decide) h (fun h => ?_) (fun h => ?_)
                · skip
                  refine wp_lv (lv' := []) trivial ?_
                  exact t_k_statement_309 fS fT fB fM d hS hT hB hM s32 h
                · skip
                  refine x_iconst (pc := 305) (v := (1)) d37_305 (by decide) ?_
                  refine x_goto (pc := 306) (tgt := 310) d37_306 (by decide) ?_
                  exact z_zretc (pc := 310) d37_310 rfl (Or.inr rfl) h
        replace h := im hk9 h
        by_cases hk11 : v2 = 11
        · replace h := ip hk11 h
          refine x_tableIn (pc := 99) (tgt := 311) (off := 212) d37_99 (by rw [hk11]; decide) (by rw [hk11]; decide) (by rw [hk11]; decide) (by decide) ?_
          refine x_aload_n (pc := 311) d37_311 rfl ?_
          refine x_iload_n (pc := 312) d37_312 rfl ?_
          refine z_cV1i (pc := 313) d37_313 ml3_72 mv42 shL5 (t_k_isExpOf v9 s11) (rdk (k := 41) (e := 45) (by decide) (by decide)) (Nat.le_of_ble_eq_true rfl) ⟨Nat.zero_le _, Nat.zero_le _⟩ h (fun v35 s34 h => ?_)
          refine z_if_eq (pc := 316) (tgt := 352) d37_316 (by decide) h (fun h => ?_) (fun h => ?_)
          · skip
            refine wp_lv (lv' := []) trivial ?_
            exact t_k_statement_352 fS fT fB fM d hS hT hB hM s34 h
          · skip
            refine x_aload_n (pc := 319) d37_319 rfl ?_
            refine x_bipush (pc := 320) (v := (12)) d37_320 (by decide) ?_
            refine z_cV1i (pc := 322) d37_322 ml3_69 mv41 shL5 (t_k_is (12 : Int32) s34) (rdk (k := 0) (e := 45) (by decide) (by decide)) (Nat.le_of_ble_eq_true rfl) ⟨Nat.zero_le _, Nat.zero_le _⟩ h (fun v37 s36 h => ?_)
            refine z_if_eq (pc := 325) (tgt := 352) d37_325 (by decide) h (fun h => ?_) (fun h => ?_)
            · skip
              refine wp_lv (lv' := []) trivial ?_
              exact t_k_statement_352 fS fT fB fM d hS hT hB hM s36 h
            · skip
              refine x_aload_n (pc := 328) d37_328 rfl ?_
              refine x_iload_n (pc := 329) d37_329 rfl ?_
              refine x_iconst (pc := 330) (v := (3)) d37_330 (by decide) ?_
              refine x_bipush (pc := 331) (v := (8)) d37_331 (by decide) ?_
              refine z_cV3i (pc := 333) d37_333 ml3_85 mv52 shL5 (t_k_isNumberOf v9 (3 : Int32) (8 : Int32) s36) (rdk (k := 1) (e := 45) (by decide) (by decide)) (Nat.le_of_ble_eq_true rfl) ⟨Nat.zero_le _, Nat.zero_le _⟩ h (fun v39 s38 h => ?_)
              refine z_if_eq (pc := 336) (tgt := 352) d37_336 (by decide) h (fun h => ?_) (fun h => ?_)
              · skip
                refine wp_lv (lv' := []) trivial ?_
                exact t_k_statement_352 fS fT fB fM d hS hT hB hM s38 h
              · skip
                refine x_aload_n (pc := 339) d37_339 rfl ?_
                refine x_bipush (pc := 340) (v := (59)) d37_340 (by decide) ?_
                refine z_cV1i (pc := 342) d37_342 ml3_69 mv41 shL5 (t_k_is (59 : Int32) s38) (rdk (k := 0) (e := 45) (by decide) (by decide)) (Nat.le_of_ble_eq_true rfl) ⟨Nat.zero_le _, Nat.zero_le _⟩ h (fun v41 s40 h => ?_)
                refine z_if_eq (pc := 345) (tgt := 352) d37_345 (by decide) h (fun h => ?_) (fun h => ?_)
                · skip
                  refine wp_lv (lv' := []) trivial ?_
                  exact t_k_statement_352 fS fT fB fM d hS hT hB hM s40 h
                · skip
                  refine x_iconst (pc := 348) (v := (1)) d37_348 (by decide) ?_
                  refine x_goto (pc := 349) (tgt := 353) d37_349 (by decide) ?_
                  exact z_zretc (pc := 353) d37_353 rfl (Or.inr rfl) h
        replace h := im hk11 h
        by_cases hk13 : v2 = 13
        · replace h := ip hk13 h
          refine x_tableIn (pc := 99) (tgt := 188) (off := 89) d37_99 (by rw [hk13]; decide) (by rw [hk13]; decide) (by rw [hk13]; decide) (by decide) ?_
          refine wp_lv (lv' := [(0, .ref 5), (3, .int v9)]) ⟨rfl, rfl, trivial⟩ ?_
          exact t_k_statement_188 fS fT fB fM d hS hT hB hM v9 s11 h
        replace h := im hk13 h
        by_cases hk14 : v2 = 14
        · replace h := ip hk14 h
          refine x_tableIn (pc := 99) (tgt := 354) (off := 255) d37_99 (by rw [hk14]; decide) (by rw [hk14]; decide) (by rw [hk14]; decide) (by decide) ?_
          refine x_aload_n (pc := 354) d37_354 rfl ?_
          refine x_iload_n (pc := 355) d37_355 rfl ?_
          refine z_cV1i (pc := 356) d37_356 ml3_72 mv42 shL5 (t_k_isExpOf v9 s11) (rdk (k := 41) (e := 45) (by decide) (by decide)) (Nat.le_of_ble_eq_true rfl) ⟨Nat.zero_le _, Nat.zero_le _⟩ h (fun v43 s42 h => ?_)
          refine z_if_eq (pc := 359) (tgt := 395) d37_359 (by decide) h (fun h => ?_) (fun h => ?_)
          · skip
            refine wp_lv (lv' := []) trivial ?_
            exact t_k_statement_395 fS fT fB fM d hS hT hB hM s42 h
          · skip
            refine x_aload_n (pc := 362) d37_362 rfl ?_
            refine x_bipush (pc := 363) (v := (10)) d37_363 (by decide) ?_
            refine z_cV1i (pc := 365) d37_365 ml3_69 mv41 shL5 (t_k_is (10 : Int32) s42) (rdk (k := 0) (e := 45) (by decide) (by decide)) (Nat.le_of_ble_eq_true rfl) ⟨Nat.zero_le _, Nat.zero_le _⟩ h (fun v45 s44 h => ?_)
            refine z_if_eq (pc := 368) (tgt := 395) d37_368 (by decide) h (fun h => ?_) (fun h => ?_)
            · skip
              refine wp_lv (lv' := []) trivial ?_
              exact t_k_statement_395 fS fT fB fM d hS hT hB hM s44 h
            · skip
              refine x_aload_n (pc := 371) d37_371 rfl ?_
              refine x_iload_n (pc := 372) d37_372 rfl ?_
              refine x_iconst (pc := 373) (v := (4)) d37_373 (by decide) ?_
              refine x_bipush (pc := 374) (v := (6)) d37_374 (by decide) ?_
              refine z_cV3i (pc := 376) d37_376 ml3_85 mv52 shL5 (t_k_isNumberOf v9 (4 : Int32) (6 : Int32) s44) (rdk (k := 1) (e := 45) (by decide) (by decide)) (Nat.le_of_ble_eq_true rfl) ⟨Nat.zero_le _, Nat.zero_le _⟩ h (fun v47 s46 h => ?_)
              refine z_if_eq (pc := 379) (tgt := 395) d37_379 (by decide) h (fun h => ?_) (fun h => ?_)
              · skip
                refine wp_lv (lv' := []) trivial ?_
                exact t_k_statement_395 fS fT fB fM d hS hT hB hM s46 h
              · skip
                refine x_aload_n (pc := 382) d37_382 rfl ?_
                refine x_bipush (pc := 383) (v := (59)) d37_383 (by decide) ?_
                refine z_cV1i (pc := 385) d37_385 ml3_69 mv41 shL5 (t_k_is (59 : Int32) s46) (rdk (k := 0) (e := 45) (by decide) (by decide)) (Nat.le_of_ble_eq_true rfl) ⟨Nat.zero_le _, Nat.zero_le _⟩ h (fun v49 s48 h => ?_)
                refine z_if_eq (pc := 388) (tgt := 395) d37_388 (by decide) h (fun h => ?_) (fun h => ?_)
                · skip
                  refine wp_lv (lv' := []) trivial ?_
                  exact t_k_statement_395 fS fT fB fM d hS hT hB hM s48 h
                · skip
                  refine x_iconst (pc := 391) (v := (1)) d37_391 (by decide) ?_
                  refine x_goto (pc := 392) (tgt := 396) d37_392 (by decide) ?_
                  exact z_zretc (pc := 396) d37_396 rfl (Or.inr rfl) h
        replace h := im hk14 h
        by_cases hk18 : v2 = 18
        · replace h := ip hk18 h
          refine x_tableIn (pc := 99) (tgt := 397) (off := 298) d37_99 (by rw [hk18]; decide) (by rw [hk18]; decide) (by rw [hk18]; decide) (by decide) ?_
          refine x_aload_n (pc := 397) d37_397 rfl ?_
          refine x_iload_n (pc := 398) d37_398 rfl ?_
          refine x_iconst (pc := 399) (v := (0)) d37_399 (by decide) ?_
          refine x_iload_n (pc := 400) d37_400 rfl ?_
          refine z_cV3i (pc := 401) d37_401 ml3_78 mv49 shL5 (hB v9 (0 : Int32) a0 s11) (rd1 (by decide)) (Nat.le_of_ble_eq_true rfl) ⟨Nat.zero_le _, Nat.zero_le _⟩ h (fun v51 s50 h => ?_)
          refine z_if_eq (pc := 404) (tgt := 438) d37_404 (by decide) h (fun h => ?_) (fun h => ?_)
          · skip
            refine wp_lv (lv' := []) trivial ?_
            exact t_k_statement_438 fS fT fB fM d hS hT hB hM s50 h
          · skip
            refine x_aload_n (pc := 407) d37_407 rfl ?_
            refine x_bipush (pc := 408) (v := (19)) d37_408 (by decide) ?_
            refine z_cV1i (pc := 410) d37_410 ml3_69 mv41 shL5 (t_k_is (19 : Int32) s50) (rdk (k := 0) (e := 45) (by decide) (by decide)) (Nat.le_of_ble_eq_true rfl) ⟨Nat.zero_le _, Nat.zero_le _⟩ h (fun v53 s52 h => ?_)
            refine z_if_eq (pc := 413) (tgt := 438) d37_413 (by decide) h (fun h => ?_) (fun h => ?_)
            · skip
              refine wp_lv (lv' := []) trivial ?_
              exact t_k_statement_438 fS fT fB fM d hS hT hB hM s52 h
            · skip
              refine x_aload_n (pc := 416) d37_416 rfl ?_
              refine x_iload_n (pc := 417) d37_417 rfl ?_
              refine z_cV1i (pc := 418) d37_418 ml3_66 mv40 shL5 (t_k_isLocal v9 s52) (rdk (k := 1) (e := 45) (by decide) (by decide)) (Nat.le_of_ble_eq_true rfl) ⟨Nat.zero_le _, Nat.zero_le _⟩ h (fun v55 s54 h => ?_)
              refine z_if_eq (pc := 421) (tgt := 438) d37_421 (by decide) h (fun h => ?_) (fun h => ?_)
              · skip
                refine wp_lv (lv' := []) trivial ?_
                exact t_k_statement_438 fS fT fB fM d hS hT hB hM s54 h
              · skip
                refine x_aload_n (pc := 424) d37_424 rfl ?_
                refine x_iload_n (pc := 425) d37_425 rfl ?_
                refine x_iconst (pc := 426) (v := (1)) d37_426 (by decide) ?_
                refine x_iload_n (pc := 427) d37_427 rfl ?_
                refine z_cV3i (pc := 428) d37_428 ml3_78 mv49 shL5 (hB v9 (1 : Int32) a0 s54) (rd1 (by decide)) (Nat.le_of_ble_eq_true rfl) ⟨Nat.zero_le _, Nat.zero_le _⟩ h (fun v57 s56 h => ?_)
                refine z_if_eq (pc := 431) (tgt := 438) d37_431 (by decide) h (fun h => ?_) (fun h => ?_)
                · skip
                  refine wp_lv (lv' := []) trivial ?_
                  exact t_k_statement_438 fS fT fB fM d hS hT hB hM s56 h
                · skip
                  refine x_iconst (pc := 434) (v := (1)) d37_434 (by decide) ?_
                  refine x_goto (pc := 435) (tgt := 439) d37_435 (by decide) ?_
                  exact z_zretc (pc := 439) d37_439 rfl (Or.inr rfl) h
        replace h := im hk18 h
        by_cases hk20 : v2 = 20
        · replace h := ip hk20 h
          refine x_tableIn (pc := 99) (tgt := 440) (off := 341) d37_99 (by rw [hk20]; decide) (by rw [hk20]; decide) (by rw [hk20]; decide) (by decide) ?_
          refine x_aload_n (pc := 440) d37_440 rfl ?_
          refine x_iload_n (pc := 441) d37_441 rfl ?_
          refine x_iconst (pc := 442) (v := (0)) d37_442 (by decide) ?_
          refine x_iload_n (pc := 443) d37_443 rfl ?_
          refine z_cV3i (pc := 444) d37_444 ml3_78 mv49 shL5 (hB v9 (0 : Int32) a0 s11) (rd1 (by decide)) (Nat.le_of_ble_eq_true rfl) ⟨Nat.zero_le _, Nat.zero_le _⟩ h (fun v59 s58 h => ?_)
          refine z_if_eq (pc := 447) (tgt := 492) d37_447 (by decide) h (fun h => ?_) (fun h => ?_)
          · skip
            refine wp_lv (lv' := []) trivial ?_
            exact t_k_statement_492 fS fT fB fM d hS hT hB hM s58 h
          · skip
            refine x_aload_n (pc := 450) d37_450 rfl ?_
            refine x_bipush (pc := 451) (v := (21)) d37_451 (by decide) ?_
            refine z_cV1i (pc := 453) d37_453 ml3_69 mv41 shL5 (t_k_is (21 : Int32) s58) (rdk (k := 0) (e := 45) (by decide) (by decide)) (Nat.le_of_ble_eq_true rfl) ⟨Nat.zero_le _, Nat.zero_le _⟩ h (fun v61 s60 h => ?_)
            refine z_if_eq (pc := 456) (tgt := 492) d37_456 (by decide) h (fun h => ?_) (fun h => ?_)
            · skip
              refine wp_lv (lv' := []) trivial ?_
              exact t_k_statement_492 fS fT fB fM d hS hT hB hM s60 h
            · skip
              refine x_aload_n (pc := 459) d37_459 rfl ?_
              refine x_iload_n (pc := 460) d37_460 rfl ?_
              refine x_iconst (pc := 461) (v := (1)) d37_461 (by decide) ?_
              refine x_iload_n (pc := 462) d37_462 rfl ?_
              refine z_cV3i (pc := 463) d37_463 ml3_78 mv49 shL5 (hB v9 (1 : Int32) a0 s60) (rd1 (by decide)) (Nat.le_of_ble_eq_true rfl) ⟨Nat.zero_le _, Nat.zero_le _⟩ h (fun v63 s62 h => ?_)
              refine z_if_eq (pc := 466) (tgt := 492) d37_466 (by decide) h (fun h => ?_) (fun h => ?_)
              · skip
                refine wp_lv (lv' := []) trivial ?_
                exact t_k_statement_492 fS fT fB fM d hS hT hB hM s62 h
              · skip
                refine x_aload_n (pc := 469) d37_469 rfl ?_
                refine x_bipush (pc := 470) (v := (22)) d37_470 (by decide) ?_
                refine z_cV1i (pc := 472) d37_472 ml3_69 mv41 shL5 (t_k_is (22 : Int32) s62) (rdk (k := 0) (e := 45) (by decide) (by decide)) (Nat.le_of_ble_eq_true rfl) ⟨Nat.zero_le _, Nat.zero_le _⟩ h (fun v65 s64 h => ?_)
                refine z_if_eq (pc := 475) (tgt := 492) d37_475 (by decide) h (fun h => ?_) (fun h => ?_)
                · skip
                  refine wp_lv (lv' := []) trivial ?_
                  exact t_k_statement_492 fS fT fB fM d hS hT hB hM s64 h
                · skip
                  refine x_aload_n (pc := 478) d37_478 rfl ?_
                  refine x_iload_n (pc := 479) d37_479 rfl ?_
                  refine x_iconst (pc := 480) (v := (2)) d37_480 (by decide) ?_
                  refine x_iload_n (pc := 481) d37_481 rfl ?_
                  refine z_cV3i (pc := 482) d37_482 ml3_78 mv49 shL5 (hB v9 (2 : Int32) a0 s64) (rd1 (by decide)) (Nat.le_of_ble_eq_true rfl) ⟨Nat.zero_le _, Nat.zero_le _⟩ h (fun v67 s66 h => ?_)
                  refine z_if_eq (pc := 485) (tgt := 492) d37_485 (by decide) h (fun h => ?_) (fun h => ?_)
                  · skip
                    refine wp_lv (lv' := []) trivial ?_
                    exact t_k_statement_492 fS fT fB fM d hS hT hB hM s66 h
                  · skip
                    refine x_iconst (pc := 488) (v := (1)) d37_488 (by decide) ?_
                    refine x_goto (pc := 489) (tgt := 493) d37_489 (by decide) ?_
                    exact z_zretc (pc := 493) d37_493 rfl (Or.inr rfl) h
        replace h := im hk20 h
        by_cases hk23 : v2 = 23
        · replace h := ip hk23 h
          refine x_tableIn (pc := 99) (tgt := 494) (off := 395) d37_99 (by rw [hk23]; decide) (by rw [hk23]; decide) (by rw [hk23]; decide) (by decide) ?_
          refine x_aload_n (pc := 494) d37_494 rfl ?_
          refine x_iload_n (pc := 495) d37_495 rfl ?_
          refine x_iconst (pc := 496) (v := (4)) d37_496 (by decide) ?_
          refine x_ldc (pc := 497) (v := (1000000000)) (gw_t (i := 533) (by decide +kernel) (by decide +kernel)) d37_497 ?_
          refine z_cV3i (pc := 499) d37_499 ml3_85 mv52 shL5 (t_k_isNumberOf v9 (4 : Int32) (1000000000 : Int32) s11) (rdk (k := 1) (e := 45) (by decide) (by decide)) (Nat.le_of_ble_eq_true rfl) ⟨Nat.zero_le _, Nat.zero_le _⟩ h (fun v69 s68 h => ?_)
          refine z_if_eq (pc := 502) (tgt := 528) d37_502 (by decide) h (fun h => ?_) (fun h => ?_)
          · skip
            refine wp_lv (lv' := []) trivial ?_
            exact t_k_statement_528 fS fT fB fM d hS hT hB hM s68 h
          · skip
            refine x_aload_n (pc := 505) d37_505 rfl ?_
            refine x_iload_n (pc := 506) d37_506 rfl ?_
            refine x_iconst (pc := 507) (v := (0)) d37_507 (by decide) ?_
            refine x_iload_n (pc := 508) d37_508 rfl ?_
            refine z_cV3i (pc := 509) d37_509 ml3_78 mv49 shL5 (hB v9 (0 : Int32) a0 s68) (rd1 (by decide)) (Nat.le_of_ble_eq_true rfl) ⟨Nat.zero_le _, Nat.zero_le _⟩ h (fun v71 s70 h => ?_)
            refine z_if_eq (pc := 512) (tgt := 528) d37_512 (by decide) h (fun h => ?_) (fun h => ?_)
            · skip
              refine wp_lv (lv' := []) trivial ?_
              exact t_k_statement_528 fS fT fB fM d hS hT hB hM s70 h
            · skip
              refine x_aload_n (pc := 515) d37_515 rfl ?_
              refine x_iload_n (pc := 516) d37_516 rfl ?_
              refine x_iload_n (pc := 517) d37_517 rfl ?_
              refine z_cV2i (pc := 518) d37_518 ml3_81 mv51 shL5 (hM v9 a0 s70) (rd1 (by decide)) (Nat.le_of_ble_eq_true rfl) ⟨Nat.zero_le _, Nat.zero_le _⟩ h (fun v73 s72 h => ?_)
              refine z_if_eq (pc := 521) (tgt := 528) d37_521 (by decide) h (fun h => ?_) (fun h => ?_)
              · skip
                refine wp_lv (lv' := []) trivial ?_
                exact t_k_statement_528 fS fT fB fM d hS hT hB hM s72 h
              · skip
                refine x_iconst (pc := 524) (v := (1)) d37_524 (by decide) ?_
                refine x_goto (pc := 525) (tgt := 529) d37_525 (by decide) ?_
                exact z_zretc (pc := 529) d37_529 rfl (Or.inr rfl) h
        replace h := im hk23 h
        have z5 : ¬ (v2).toInt = 5 := lv_neT hk5 (by decide)
        have z6 : ¬ (v2).toInt = 6 := lv_neT hk6 (by decide)
        have z8 : ¬ (v2).toInt = 8 := lv_neT hk8 (by decide)
        have z9 : ¬ (v2).toInt = 9 := lv_neT hk9 (by decide)
        have z11 : ¬ (v2).toInt = 11 := lv_neT hk11 (by decide)
        have z13 : ¬ (v2).toInt = 13 := lv_neT hk13 (by decide)
        have z14 : ¬ (v2).toInt = 14 := lv_neT hk14 (by decide)
        have z18 : ¬ (v2).toInt = 18 := lv_neT hk18 (by decide)
        have z20 : ¬ (v2).toInt = 20 := lv_neT hk20 (by decide)
        have z23 : ¬ (v2).toInt = 23 := lv_neT hk23 (by decide)
        have hD : Wp (rmd (d + 46) 0 0) 37 (zi (fun v s1 => (v, s1) = r)) 0 0 530 [(0, .ref 5), (1, .int a0), (3, .int v9)] [] (mk s11) TT := by
          refine wp_lv (lv' := [(0, .ref 5), (1, .int a0), (3, .int v9)]) ⟨rfl, rfl, rfl, trivial⟩ ?_
          exact t_k_statement_530 fS fT fB fM d hS hT hB hM a0 v9 s11 h
        rcases (by omega : (v2).toInt < 5 ∨ 23 < (v2).toInt ∨ (v2).toInt = 7 ∨ (v2).toInt = 10 ∨ (v2).toInt = 12 ∨ (v2).toInt = 15 ∨ (v2).toInt = 16 ∨ (v2).toInt = 17 ∨ (v2).toInt = 19 ∨ (v2).toInt = 21 ∨ (v2).toInt = 22) with zz | zz | zz | zz | zz | zz | zz | zz | zz | zz | zz
        · exact x_tableOut (pc := 99) (tgt := 530) d37_99 (Or.inl zz) (by decide) (wp_lv (lv' := [(0, .ref 5), (1, .int a0), (3, .int v9)]) ⟨rfl, rfl, rfl, trivial⟩ hD)
        · exact x_tableOut (pc := 99) (tgt := 530) d37_99 (Or.inr zz) (by decide) (wp_lv (lv' := [(0, .ref 5), (1, .int a0), (3, .int v9)]) ⟨rfl, rfl, rfl, trivial⟩ hD)
        · exact x_tableIn (pc := 99) (tgt := 530) (off := 431) d37_99 (by rw [zz]; decide) (by rw [zz]; decide) (by rw [zz]; rfl) (by decide) (wp_lv (lv' := [(0, .ref 5), (1, .int a0), (3, .int v9)]) ⟨rfl, rfl, rfl, trivial⟩ hD)
        · exact x_tableIn (pc := 99) (tgt := 530) (off := 431) d37_99 (by rw [zz]; decide) (by rw [zz]; decide) (by rw [zz]; rfl) (by decide) (wp_lv (lv' := [(0, .ref 5), (1, .int a0), (3, .int v9)]) ⟨rfl, rfl, rfl, trivial⟩ hD)
        · exact x_tableIn (pc := 99) (tgt := 530) (off := 431) d37_99 (by rw [zz]; decide) (by rw [zz]; decide) (by rw [zz]; rfl) (by decide) (wp_lv (lv' := [(0, .ref 5), (1, .int a0), (3, .int v9)]) ⟨rfl, rfl, rfl, trivial⟩ hD)
        · exact x_tableIn (pc := 99) (tgt := 530) (off := 431) d37_99 (by rw [zz]; decide) (by rw [zz]; decide) (by rw [zz]; rfl) (by decide) (wp_lv (lv' := [(0, .ref 5), (1, .int a0), (3, .int v9)]) ⟨rfl, rfl, rfl, trivial⟩ hD)
        · exact x_tableIn (pc := 99) (tgt := 530) (off := 431) d37_99 (by rw [zz]; decide) (by rw [zz]; decide) (by rw [zz]; rfl) (by decide) (wp_lv (lv' := [(0, .ref 5), (1, .int a0), (3, .int v9)]) ⟨rfl, rfl, rfl, trivial⟩ hD)
        · exact x_tableIn (pc := 99) (tgt := 530) (off := 431) d37_99 (by rw [zz]; decide) (by rw [zz]; decide) (by rw [zz]; rfl) (by decide) (wp_lv (lv' := [(0, .ref 5), (1, .int a0), (3, .int v9)]) ⟨rfl, rfl, rfl, trivial⟩ hD)
        · exact x_tableIn (pc := 99) (tgt := 530) (off := 431) d37_99 (by rw [zz]; decide) (by rw [zz]; decide) (by rw [zz]; rfl) (by decide) (wp_lv (lv' := [(0, .ref 5), (1, .int a0), (3, .int v9)]) ⟨rfl, rfl, rfl, trivial⟩ hD)
        · exact x_tableIn (pc := 99) (tgt := 530) (off := 431) d37_99 (by rw [zz]; decide) (by rw [zz]; decide) (by rw [zz]; rfl) (by decide) (wp_lv (lv' := [(0, .ref 5), (1, .int a0), (3, .int v9)]) ⟨rfl, rfl, rfl, trivial⟩ hD)
        · exact x_tableIn (pc := 99) (tgt := 530) (off := 431) d37_99 (by rw [zz]; decide) (by rw [zz]; decide) (by rw [zz]; rfl) (by decide) (wp_lv (lv' := [(0, .ref 5), (1, .int a0), (3, .int v9)]) ⟨rfl, rfl, rfl, trivial⟩ hD)
      · skip
        refine x_aload_n (pc := 48) d37_48 rfl ?_
        refine x_iload_n (pc := 49) d37_49 rfl ?_
        refine z_cV1i (pc := 50) d37_50 ml3_66 mv40 shL5 (t_k_isLocal v9 s8) (rdk (k := 1) (e := 45) (by decide) (by decide)) (Nat.le_of_ble_eq_true rfl) ⟨Nat.zero_le _, Nat.zero_le _⟩ h (fun v77 s76 h => ?_)
        refine z_if_eq (pc := 53) (tgt := 86) d37_53 (by decide) h (fun h => ?_) (fun h => ?_)
        · skip
          refine wp_lv (lv' := []) trivial ?_
          exact t_k_statement_86 fS fT fB fM d hS hT hB hM s76 h
        · skip
          refine x_aload_n (pc := 56) d37_56 rfl ?_
          refine x_bipush (pc := 57) (v := (61)) d37_57 (by decide) ?_
          refine z_cV1i (pc := 59) d37_59 ml3_69 mv41 shL5 (t_k_is (61 : Int32) s76) (rdk (k := 0) (e := 45) (by decide) (by decide)) (Nat.le_of_ble_eq_true rfl) ⟨Nat.zero_le _, Nat.zero_le _⟩ h (fun v79 s78 h => ?_)
          refine z_if_eq (pc := 62) (tgt := 86) d37_62 (by decide) h (fun h => ?_) (fun h => ?_)
          · skip
            refine wp_lv (lv' := []) trivial ?_
            exact t_k_statement_86 fS fT fB fM d hS hT hB hM s78 h
          · skip
            refine x_aload_n (pc := 65) d37_65 rfl ?_
            refine x_iload_n (pc := 66) d37_66 rfl ?_
            refine z_cV1i (pc := 67) d37_67 ml3_72 mv42 shL5 (t_k_isExpOf v9 s78) (rdk (k := 41) (e := 45) (by decide) (by decide)) (Nat.le_of_ble_eq_true rfl) ⟨Nat.zero_le _, Nat.zero_le _⟩ h (fun v81 s80 h => ?_)
            refine z_if_eq (pc := 70) (tgt := 86) d37_70 (by decide) h (fun h => ?_) (fun h => ?_)
            · skip
              refine wp_lv (lv' := []) trivial ?_
              exact t_k_statement_86 fS fT fB fM d hS hT hB hM s80 h
            · skip
              refine x_aload_n (pc := 73) d37_73 rfl ?_
              refine x_bipush (pc := 74) (v := (59)) d37_74 (by decide) ?_
              refine z_cV1i (pc := 76) d37_76 ml3_69 mv41 shL5 (t_k_is (59 : Int32) s80) (rdk (k := 0) (e := 45) (by decide) (by decide)) (Nat.le_of_ble_eq_true rfl) ⟨Nat.zero_le _, Nat.zero_le _⟩ h (fun v83 s82 h => ?_)
              refine z_if_eq (pc := 79) (tgt := 86) d37_79 (by decide) h (fun h => ?_) (fun h => ?_)
              · skip
                refine wp_lv (lv' := []) trivial ?_
                exact t_k_statement_86 fS fT fB fM d hS hT hB hM s82 h
              · skip
                refine x_iconst (pc := 82) (v := (1)) d37_82 (by decide) ?_
                refine x_goto (pc := 83) (tgt := 87) d37_83 (by decide) ?_
                exact z_zretc (pc := 87) d37_87 rfl (Or.inr rfl) h
    · skip
      refine x_iconst (pc := 32) (v := (0)) d37_32 (by decide) ?_
      exact z_zretc (pc := 33) d37_33 rfl (Or.inl rfl) h
def k_isBody_67 (fS : Fx3) (fT : Fx1) (fB : Fx3) (fM : Fx2) (s : St) : Option (Int32 × St) := some ((0 : Int32), s)
set_option maxRecDepth 100000 in
theorem t_k_isBody_67 (fS : Fx3) (fT : Fx1) (fB : Fx3) (fM : Fx2) (d : Nat) (hS : ∀ (a0 : Int32) (a1 : Int32) (a2 : Int32) (s : St) (r : Int32 × St), fS a0 a1 a2 s = some r → Ri (d + 45) 36 [.ref 5, .int a0, .int a1, .int a2] s (fun v s1 => (v, s1) = r)) (hT : ∀ (a0 : Int32) (s : St) (r : Int32 × St), fT a0 s = some r → Ri (d + 45) 37 [.ref 5, .int a0] s (fun v s1 => (v, s1) = r)) (hB : ∀ (a0 : Int32) (a1 : Int32) (a2 : Int32) (s : St) (r : Int32 × St), fB a0 a1 a2 s = some r → Ri (d + 45) 49 [.ref 5, .int a0, .int a1, .int a2] s (fun v s1 => (v, s1) = r)) (hM : ∀ (a0 : Int32) (a1 : Int32) (s : St) (r : Int32 × St), fM a0 a1 s = some r → Ri (d + 45) 51 [.ref 5, .int a0, .int a1] s (fun v s1 => (v, s1) = r)) {r : Int32 × St} : ∀ (s : St), k_isBody_67 fS fT fB fM s = some r → Wp (rmd (d + 46) 0 0) 49 (zi (fun v s1 => (v, s1) = r)) 0 0 67 [] [] (mk s) TT := by
  intro s h
  unfold k_isBody_67 at h
  refine x_iconst (pc := 67) (v := (0)) d49_67 (by decide) ?_
  exact z_zretc (pc := 68) d49_68 rfl (Or.inl rfl) h
def k_isBody (fS : Fx3) (fT : Fx1) (fB : Fx3) (fM : Fx2) (a0 : Int32) (a1 : Int32) (a2 : Int32) (s : St) : Option (Int32 × St) := if (8 : Int32) ≤ a2 then (some ((0 : Int32), s)) else (cal2 (k_is (123 : Int32) s) fun v2 s1 => if v2 = 0 then (some ((0 : Int32), s1)) else (grd (ib (s1.1 49 0 0) 13) (s1.1 49 0 0).toNatClampNeg fun p3 => grd (ib (s1.1 49 0 0) 13) (s1.1 49 0 0).toNatClampNeg fun p4 => bnd (s1.1 66 p4 0) fun v5 => bnd (si s1 66 p3 0 (mx v5 (a2 + (1 : Int32)))) fun s6 => cal2 (fS (((3 : Int32) * a0) + a1) (a2 + (1 : Int32)) (125 : Int32) s6) fun v8 s7 => if v8 = 0 then (k_isBody_67 fS fT fB fM s7) else (cal2 (k_is (125 : Int32) s7) fun v10 s9 => if v10 = 0 then (k_isBody_67 fS fT fB fM s9) else (some ((1 : Int32), s9)))))
set_option maxRecDepth 100000 in
theorem t_k_isBody (fS : Fx3) (fT : Fx1) (fB : Fx3) (fM : Fx2) (d : Nat) (hS : ∀ (a0 : Int32) (a1 : Int32) (a2 : Int32) (s : St) (r : Int32 × St), fS a0 a1 a2 s = some r → Ri (d + 45) 36 [.ref 5, .int a0, .int a1, .int a2] s (fun v s1 => (v, s1) = r)) (hT : ∀ (a0 : Int32) (s : St) (r : Int32 × St), fT a0 s = some r → Ri (d + 45) 37 [.ref 5, .int a0] s (fun v s1 => (v, s1) = r)) (hB : ∀ (a0 : Int32) (a1 : Int32) (a2 : Int32) (s : St) (r : Int32 × St), fB a0 a1 a2 s = some r → Ri (d + 45) 49 [.ref 5, .int a0, .int a1, .int a2] s (fun v s1 => (v, s1) = r)) (hM : ∀ (a0 : Int32) (a1 : Int32) (s : St) (r : Int32 × St), fM a0 a1 s = some r → Ri (d + 45) 51 [.ref 5, .int a0, .int a1] s (fun v s1 => (v, s1) = r)) (a0 : Int32) (a1 : Int32) (a2 : Int32) (s : St) (r : Int32 × St) (h : k_isBody fS fT fB fM a0 a1 a2 s = some r) : Ri (d + 46) 49 [.ref 5, .int a0, .int a1, .int a2] s (fun v s1 => (v, s1) = r) := by
  refine ct_of (by decide +kernel) (Nat.le_of_ble_eq_true rfl) ?_
  show Wp _ _ _ _ _ _ [(0, .ref 5), (1, .int a0), (2, .int a1), (3, .int a2)] _ _ _
  unfold k_isBody at h
  refine x_iload_n (pc := 0) d49_0 rfl ?_
  refine x_bipush (pc := 1) (v := (8)) d49_1 (by decide) ?_
  refine z_icmp_ge (pc := 3) (tgt := 15) d49_3 (by decide) h (fun h => ?_) (fun h => ?_)
  · skip
    refine x_iconst (pc := 15) (v := (0)) d49_15 (by decide) ?_
    exact z_zretc (pc := 16) d49_16 rfl (Or.inl rfl) h
  · skip
    refine x_aload_n (pc := 6) d49_6 rfl ?_
    refine x_bipush (pc := 7) (v := (123)) d49_7 (by decide) ?_
    refine z_cV1i (pc := 9) d49_9 ml3_69 mv41 shL5 (t_k_is (123 : Int32) s) (rdk (k := 0) (e := 45) (by decide) (by decide)) (Nat.le_of_ble_eq_true rfl) ⟨Nat.zero_le _, Nat.zero_le _⟩ h (fun v2 s1 h => ?_)
    refine z_if_ne (pc := 12) (tgt := 17) d49_12 (by decide) h (fun h => ?_) (fun h => ?_)
    · skip
      refine x_aload_n (pc := 17) d49_17 rfl ?_
      refine z_getp (pc := 18) d49_18 fk3_27 shL5 rfl h (fun p3 hp3 h => ?_)
      refine x_aload_n (pc := 21) d49_21 rfl ?_
      refine z_getp (pc := 22) d49_22 fk3_27 shL5 rfl h (fun p4 hp4 h => ?_)
      refine z_geti (pc := 25) d49_25 fk3_98 (shP p4 hp4) rfl h (fun v5 h => ?_)
      refine x_iload_n (pc := 28) d49_28 rfl ?_
      refine x_iconst (pc := 29) (v := (1)) d49_29 (by decide) ?_
      refine x_iadd (pc := 30) d49_30 ?_
      refine y_max (pc := 31) d49_31 ml3_101 ⟨by first | decide | (show 1 ≤ _ + 46; omega), by first | exact Nat.le_of_ble_eq_true rfl | exact Nat.le_trans (m := 40) (Nat.le_of_ble_eq_true rfl) (by show 40 ≤ 40 * (_ + 46); omega)⟩ ⟨Nat.zero_le _, Nat.zero_le _⟩ ?_
      refine z_puti (pc := 34) d49_34 fk3_98 (shP p3 hp3) rfl rfl ⟨rfl, rfl⟩ h (fun s6 h => ?_)
      refine x_aload_n (pc := 37) d49_37 rfl ?_
      refine x_iconst (pc := 38) (v := (3)) d49_38 (by decide) ?_
      refine x_iload_n (pc := 39) d49_39 rfl ?_
      refine x_imul (pc := 40) d49_40 ?_
      refine x_iload_n (pc := 41) d49_41 rfl ?_
      refine x_iadd (pc := 42) d49_42 ?_
      refine x_iload_n (pc := 43) d49_43 rfl ?_
      refine x_iconst (pc := 44) (v := (1)) d49_44 (by decide) ?_
      refine x_iadd (pc := 45) d49_45 ?_
      refine x_bipush (pc := 46) (v := (125)) d49_46 (by decide) ?_
      refine z_cV3i (pc := 48) d49_48 ml3_35 mv36 shL5 (hS (((3 : Int32) * a0) + a1) (a2 + (1 : Int32)) (125 : Int32) s6) (rd1 (by decide)) (Nat.le_of_ble_eq_true rfl) ⟨Nat.zero_le _, Nat.zero_le _⟩ h (fun v8 s7 h => ?_)
      refine z_if_eq (pc := 51) (tgt := 67) d49_51 (by decide) h (fun h => ?_) (fun h => ?_)
      · skip
        refine wp_lv (lv' := []) trivial ?_
        exact t_k_isBody_67 fS fT fB fM d hS hT hB hM s7 h
      · skip
        refine x_aload_n (pc := 54) d49_54 rfl ?_
        refine x_bipush (pc := 55) (v := (125)) d49_55 (by decide) ?_
        refine z_cV1i (pc := 57) d49_57 ml3_69 mv41 shL5 (t_k_is (125 : Int32) s7) (rdk (k := 0) (e := 45) (by decide) (by decide)) (Nat.le_of_ble_eq_true rfl) ⟨Nat.zero_le _, Nat.zero_le _⟩ h (fun v10 s9 h => ?_)
        refine z_if_eq (pc := 60) (tgt := 67) d49_60 (by decide) h (fun h => ?_) (fun h => ?_)
        · skip
          refine wp_lv (lv' := []) trivial ?_
          exact t_k_isBody_67 fS fT fB fM d hS hT hB hM s9 h
        · skip
          refine x_iconst (pc := 63) (v := (1)) d49_63 (by decide) ?_
          refine x_goto (pc := 64) (tgt := 68) d49_64 (by decide) ?_
          exact z_zretc (pc := 68) d49_68 rfl (Or.inr rfl) h
    · skip
      refine x_iconst (pc := 15) (v := (0)) d49_15 (by decide) ?_
      exact z_zretc (pc := 16) d49_16 rfl (Or.inl rfl) h
def k_mayHaveElse_19 (fS : Fx3) (fT : Fx1) (fB : Fx3) (fM : Fx2) (s : St) : Option (Int32 × St) := some ((1 : Int32), s)
set_option maxRecDepth 100000 in
theorem t_k_mayHaveElse_19 (fS : Fx3) (fT : Fx1) (fB : Fx3) (fM : Fx2) (d : Nat) (hS : ∀ (a0 : Int32) (a1 : Int32) (a2 : Int32) (s : St) (r : Int32 × St), fS a0 a1 a2 s = some r → Ri (d + 45) 36 [.ref 5, .int a0, .int a1, .int a2] s (fun v s1 => (v, s1) = r)) (hT : ∀ (a0 : Int32) (s : St) (r : Int32 × St), fT a0 s = some r → Ri (d + 45) 37 [.ref 5, .int a0] s (fun v s1 => (v, s1) = r)) (hB : ∀ (a0 : Int32) (a1 : Int32) (a2 : Int32) (s : St) (r : Int32 × St), fB a0 a1 a2 s = some r → Ri (d + 45) 49 [.ref 5, .int a0, .int a1, .int a2] s (fun v s1 => (v, s1) = r)) (hM : ∀ (a0 : Int32) (a1 : Int32) (s : St) (r : Int32 × St), fM a0 a1 s = some r → Ri (d + 45) 51 [.ref 5, .int a0, .int a1] s (fun v s1 => (v, s1) = r)) {r : Int32 × St} : ∀ (s : St), k_mayHaveElse_19 fS fT fB fM s = some r → Wp (rmd (d + 46) 0 0) 51 (zi (fun v s1 => (v, s1) = r)) 0 0 19 [] [] (mk s) TT := by
  intro s h
  unfold k_mayHaveElse_19 at h
  refine x_iconst (pc := 19) (v := (1)) d51_19 (by decide) ?_
  refine x_goto (pc := 20) (tgt := 24) d51_20 (by decide) ?_
  exact z_zretc (pc := 24) d51_24 rfl (Or.inr rfl) h
def k_mayHaveElse (fS : Fx3) (fT : Fx1) (fB : Fx3) (fM : Fx2) (a0 : Int32) (a1 : Int32) (s : St) : Option (Int32 × St) := cal2 (k_is (7 : Int32) s) fun v2 s1 => if v2 = 0 then (k_mayHaveElse_19 fS fT fB fM s1) else (cal2 (fB a0 (1 : Int32) a1 s1) fun v4 s3 => if v4 = 0 then (some ((0 : Int32), s3)) else (k_mayHaveElse_19 fS fT fB fM s3))
set_option maxRecDepth 100000 in
theorem t_k_mayHaveElse (fS : Fx3) (fT : Fx1) (fB : Fx3) (fM : Fx2) (d : Nat) (hS : ∀ (a0 : Int32) (a1 : Int32) (a2 : Int32) (s : St) (r : Int32 × St), fS a0 a1 a2 s = some r → Ri (d + 45) 36 [.ref 5, .int a0, .int a1, .int a2] s (fun v s1 => (v, s1) = r)) (hT : ∀ (a0 : Int32) (s : St) (r : Int32 × St), fT a0 s = some r → Ri (d + 45) 37 [.ref 5, .int a0] s (fun v s1 => (v, s1) = r)) (hB : ∀ (a0 : Int32) (a1 : Int32) (a2 : Int32) (s : St) (r : Int32 × St), fB a0 a1 a2 s = some r → Ri (d + 45) 49 [.ref 5, .int a0, .int a1, .int a2] s (fun v s1 => (v, s1) = r)) (hM : ∀ (a0 : Int32) (a1 : Int32) (s : St) (r : Int32 × St), fM a0 a1 s = some r → Ri (d + 45) 51 [.ref 5, .int a0, .int a1] s (fun v s1 => (v, s1) = r)) (a0 : Int32) (a1 : Int32) (s : St) (r : Int32 × St) (h : k_mayHaveElse fS fT fB fM a0 a1 s = some r) : Ri (d + 46) 51 [.ref 5, .int a0, .int a1] s (fun v s1 => (v, s1) = r) := by
  refine ct_of (by decide +kernel) (Nat.le_of_ble_eq_true rfl) ?_
  show Wp _ _ _ _ _ _ [(0, .ref 5), (1, .int a0), (2, .int a1)] _ _ _
  unfold k_mayHaveElse at h
  refine x_aload_n (pc := 0) d51_0 rfl ?_
  refine x_bipush (pc := 1) (v := (7)) d51_1 (by decide) ?_
  refine z_cV1i (pc := 3) d51_3 ml3_69 mv41 shL5 (t_k_is (7 : Int32) s) (rdk (k := 0) (e := 45) (by decide) (by decide)) (Nat.le_of_ble_eq_true rfl) ⟨Nat.zero_le _, Nat.zero_le _⟩ h (fun v2 s1 h => ?_)
  refine z_if_eq (pc := 6) (tgt := 19) d51_6 (by decide) h (fun h => ?_) (fun h => ?_)
  · skip
    refine wp_lv (lv' := []) trivial ?_
    exact t_k_mayHaveElse_19 fS fT fB fM d hS hT hB hM s1 h
  · skip
    refine x_aload_n (pc := 9) d51_9 rfl ?_
    refine x_iload_n (pc := 10) d51_10 rfl ?_
    refine x_iconst (pc := 11) (v := (1)) d51_11 (by decide) ?_
    refine x_iload_n (pc := 12) d51_12 rfl ?_
    refine z_cV3i (pc := 13) d51_13 ml3_78 mv49 shL5 (hB a0 (1 : Int32) a1 s1) (rd1 (by decide)) (Nat.le_of_ble_eq_true rfl) ⟨Nat.zero_le _, Nat.zero_le _⟩ h (fun v4 s3 h => ?_)
    refine z_if_eq (pc := 16) (tgt := 23) d51_16 (by decide) h (fun h => ?_) (fun h => ?_)
    · skip
      refine x_iconst (pc := 23) (v := (0)) d51_23 (by decide) ?_
      exact z_zretc (pc := 24) d51_24 rfl (Or.inl rfl) h
    · skip
      refine wp_lv (lv' := []) trivial ?_
      exact t_k_mayHaveElse_19 fS fT fB fM d hS hT hB hM s3 h
def SF : Nat → Fx3 × Fx1 × Fx3 × Fx2
  | 0 => (fun _ _ _ _ => none, fun _ _ => none, fun _ _ _ _ => none, fun _ _ _ => none)
  | n + 1 => (k_statements (SF n).1 (SF n).2.1 (SF n).2.2.1 (SF n).2.2.2, k_statement (SF n).1 (SF n).2.1 (SF n).2.2.1 (SF n).2.2.2, k_isBody (SF n).1 (SF n).2.1 (SF n).2.2.1 (SF n).2.2.2, k_mayHaveElse (SF n).1 (SF n).2.1 (SF n).2.2.1 (SF n).2.2.2)
theorem SF_ok : ∀ n, (∀ (a0 : Int32) (a1 : Int32) (a2 : Int32) (s : St) (r : Int32 × St), (SF n).1 a0 a1 a2 s = some r → Ri (n + 45) 36 [.ref 5, .int a0, .int a1, .int a2] s (fun v s1 => (v, s1) = r)) ∧ (∀ (a0 : Int32) (s : St) (r : Int32 × St), (SF n).2.1 a0 s = some r → Ri (n + 45) 37 [.ref 5, .int a0] s (fun v s1 => (v, s1) = r)) ∧ (∀ (a0 : Int32) (a1 : Int32) (a2 : Int32) (s : St) (r : Int32 × St), (SF n).2.2.1 a0 a1 a2 s = some r → Ri (n + 45) 49 [.ref 5, .int a0, .int a1, .int a2] s (fun v s1 => (v, s1) = r)) ∧ (∀ (a0 : Int32) (a1 : Int32) (s : St) (r : Int32 × St), (SF n).2.2.2 a0 a1 s = some r → Ri (n + 45) 51 [.ref 5, .int a0, .int a1] s (fun v s1 => (v, s1) = r))
  | 0 => ⟨fun _ _ _ _ _ h => (by cases h), fun _ _ _ h => (by cases h), fun _ _ _ _ _ h => (by cases h), fun _ _ _ _ h => (by cases h)⟩
  | n + 1 => ⟨fun a b c s r h => t_k_statements _ _ _ _ n (SF_ok n).1 (SF_ok n).2.1 (SF_ok n).2.2.1 (SF_ok n).2.2.2 a b c s r h, fun a s r h => t_k_statement _ _ _ _ n (SF_ok n).1 (SF_ok n).2.1 (SF_ok n).2.2.1 (SF_ok n).2.2.2 a s r h, fun a b c s r h => t_k_isBody _ _ _ _ n (SF_ok n).1 (SF_ok n).2.1 (SF_ok n).2.2.1 (SF_ok n).2.2.2 a b c s r h, fun a b s r h => t_k_mayHaveElse _ _ _ _ n (SF_ok n).1 (SF_ok n).2.1 (SF_ok n).2.2.1 (SF_ok n).2.2.2 a b s r h⟩
