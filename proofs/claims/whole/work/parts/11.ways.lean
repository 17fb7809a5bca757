/-! ways into and out of bodies -/
def wH (s : St) (o : Nat) : Prop := ¬ s.1 17 o 0 < 0
def ftS (s : St) (i b : Nat) : St := si (if s.1 4 i b = 1 then si s 42 i 0 (s.1 42 i 0 - 1) else if s.1 4 i b = 2 then rmS s i (pl82 s i (s.1 41 i 0) (cN s i) 0) else s) 4 i b 0
set_option maxRecDepth 100000 in
theorem c_forget (i : Nat) (hi : i < 7) (b : Nat) (hb : b < 9) (s : St) (hC : wC s i) : Rv 1 76 [.ref (FA i), .ref (RW i + 6 + b)] s (fun s1 => s1 = ftS s i b) := by
  refine ct_of (by decide +kernel) (Nat.le_of_ble_eq_true rfl) ?_
  show Wp _ _ _ _ _ _ [(0, .ref (FA i)), (1, .ref (RW i + 6 + b))] _ _ _
  refine x_aload_n (pc := 0) d76_0 rfl ?_
  refine y_geti (pc := 1) d76_1 fk2_115 (shB i hi b hb) rfl ?_
  refine x_iconst (pc := 4) (v := (1)) d76_4 (by decide) ?_
  refine x_icmp_ne (pc := 5) (tgt := 21) d76_5 (by decide) (fun c5 => ?_) (fun c5 => ?_)
  · skip
    refine x_aload_n (pc := 21) d76_21 rfl ?_
    refine y_geti (pc := 22) d76_22 fk2_115 (shB i hi b hb) rfl ?_
    refine x_iconst (pc := 25) (v := (2)) d76_25 (by decide) ?_
    refine x_icmp_ne (pc := 26) (tgt := 47) d76_26 (by decide) (fun c26 => ?_) (fun c26 => ?_)
    · skip
      refine x_aload_n (pc := 47) d76_47 rfl ?_
      refine x_iconst (pc := 48) (v := (0)) d76_48 (by decide) ?_
      refine y_puti (pc := 49) d76_49 fk2_115 (shB i hi b hb) rfl rfl ⟨rfl, rfl⟩ ?_
      exact y_vret (pc := 52) d76_52 rfl (by unfold ftS; first | rw [if_pos c5] | rw [if_neg c5, if_pos c26] | rw [if_neg c5, if_neg c26])
    · skip
      refine x_aload_n (pc := 29) d76_29 rfl ?_
      refine y_getr (pc := 30) d76_30 fk2_12 (shF i hi) rfl ?_
      refine x_aload_n (pc := 33) d76_33 rfl ?_
      refine y_getr (pc := 34) d76_34 fk2_12 (shF i hi) rfl ?_
      refine x_aload_n (pc := 37) d76_37 rfl ?_
      refine y_geti (pc := 38) d76_38 fk2_63 (shF i hi) rfl ?_
      refine y_cV1i (pc := 41) d76_41 ml2_138 mv77 (shR i hi) (c_placeOfTimeout i hi s _ (cN s i) hC.2 hC.1) (by decide) (Nat.le_of_ble_eq_true rfl) ⟨Nat.zero_le _, Nat.zero_le _⟩ (fun v s hq => ?_)
      obtain ⟨rfl, rfl⟩ := hq
      refine y_cV1v (pc := 44) d76_44 ml2_142 mv78 (shR i hi) (c_rm i hi _ _ hC) (by decide) (Nat.le_of_ble_eq_true rfl) ⟨Nat.zero_le _, Nat.zero_le _⟩ (fun s hq => ?_)
      subst hq
      refine x_aload_n (pc := 47) d76_47 rfl ?_
      refine x_iconst (pc := 48) (v := (0)) d76_48 (by decide) ?_
      refine y_puti (pc := 49) d76_49 fk2_115 (shB i hi b hb) rfl rfl ⟨rfl, rfl⟩ ?_
      exact y_vret (pc := 52) d76_52 rfl (by unfold ftS; first | rw [if_pos c5] | rw [if_neg c5, if_pos c26] | rw [if_neg c5, if_neg c26])
  · skip
    refine x_aload_n (pc := 8) d76_8 rfl ?_
    refine x_dup (pc := 9) d76_9 rfl ?_
    refine y_geti (pc := 10) d76_10 fk2_66 (shF i hi) rfl ?_
    refine x_iconst (pc := 13) (v := (1)) d76_13 (by decide) ?_
    refine x_isub (pc := 14) d76_14 ?_
    refine y_puti (pc := 15) d76_15 fk2_66 (shF i hi) rfl rfl ⟨rfl, rfl⟩ ?_
    refine x_goto (pc := 18) (tgt := 47) d76_18 (by decide) ?_
    refine x_aload_n (pc := 47) d76_47 rfl ?_
    refine x_iconst (pc := 48) (v := (0)) d76_48 (by decide) ?_
    refine y_puti (pc := 49) d76_49 fk2_115 (shB i hi b hb) rfl rfl ⟨rfl, rfl⟩ ?_
    exact y_vret (pc := 52) d76_52 rfl (by unfold ftS; first | rw [if_pos c5] | rw [if_neg c5, if_pos c26] | rw [if_neg c5, if_neg c26])
def leaveS (s : St) (i : Nat) : St := si (si (ftS s i (dN s i)) 39 i 0 ((ftS s i (dN s i)).1 2 i (dN s i))) 41 i 0 ((ftS s i (dN s i)).1 41 i 0 - 1)
set_option maxRecDepth 100000 in
theorem c_leave (i : Nat) (hi : i < 7) (s : St) (hD : wD s i) (hC : wC s i) : Rv 2 75 [.ref (FA i)] s (fun s1 => s1 = leaveS s i) := by
  refine ct_of (by decide +kernel) (Nat.le_of_ble_eq_true rfl) ?_
  show Wp _ _ _ _ _ _ [(0, .ref (FA i))] _ _ _
  refine x_aload_n (pc := 0) d75_0 rfl ?_
  refine y_getr (pc := 1) d75_1 fk2_24 (shF i hi) rfl ?_
  refine x_aload_n (pc := 4) d75_4 rfl ?_
  refine y_geti (pc := 5) d75_5 fk2_63 (shF i hi) rfl ?_
  refine y_aaldBN (pc := 8) (q := dN s i) (hq := hi) d75_8 (by have := hD.2; omega) (hD.1) ?_
  refine x_astore_n (pc := 9) d75_9 (by decide) ?_
  refine x_aload_n (pc := 10) d75_10 rfl ?_
  refine x_aload_n (pc := 11) d75_11 rfl ?_
  refine y_cV1v (pc := 12) d75_12 ml2_131 mv76 (shF i hi) (c_forget i hi (dN s i) (by have := hD.2; omega) s hC) (by decide) (Nat.le_of_ble_eq_true rfl) ⟨Nat.zero_le _, Nat.zero_le _⟩ (fun s hq => ?_)
  subst hq
  refine x_aload_n (pc := 15) d75_15 rfl ?_
  refine x_aload_n (pc := 16) d75_16 rfl ?_
  refine y_geti (pc := 17) d75_17 fk2_135 (shB i hi (dN s i) (by have := hD.2; omega)) rfl ?_
  refine y_puti (pc := 20) d75_20 fk2_60 (shF i hi) rfl rfl ⟨rfl, rfl⟩ ?_
  refine x_aload_n (pc := 23) d75_23 rfl ?_
  refine x_dup (pc := 24) d75_24 rfl ?_
  refine y_geti (pc := 25) d75_25 fk2_63 (shF i hi) rfl ?_
  refine x_iconst (pc := 28) (v := (1)) d75_28 (by decide) ?_
  refine x_isub (pc := 29) d75_29 ?_
  refine y_puti (pc := 30) d75_30 fk2_63 (shF i hi) rfl rfl ⟨rfl, rfl⟩ ?_
  exact y_vret (pc := 33) d75_33 rfl (by unfold leaveS; simp [si_r])
def lastS (s : St) (i b : Nat) : St := tellS (overS s i b 2 (mx (s.1 2 i b) 1)) (co i) 3 ((overS s i b 2 (mx (s.1 2 i b) 1)).1 32 i 0) 0
theorem wH_over {s : St} {i b q o : Nat} {y : Int32} (h : wH s o) : wH (overS s i b q y) o := by
  unfold wH at *; simpa [overS, enterPartS, si_r] using h
set_option maxRecDepth 100000 in
theorem c_goToLast (i : Nat) (hi : i < 7) (b : Nat) (hb : b < 9) (s : St) (hP : wP s i) (hO : wO s i b) (hH : wH s (co i)) : Rv 2 74 [.ref (FA i), .ref (RW i + 6 + b)] s (fun s1 => s1 = lastS s i b) := by
  refine ct_of (by decide +kernel) (Nat.le_of_ble_eq_true rfl) ?_
  show Wp _ _ _ _ _ _ [(0, .ref (FA i)), (1, .ref (RW i + 6 + b))] _ _ _
  refine x_aload_n (pc := 0) d74_0 rfl ?_
  refine x_aload_n (pc := 1) d74_1 rfl ?_
  refine x_iconst (pc := 2) (v := (2)) d74_2 (by decide) ?_
  refine x_aload_n (pc := 3) d74_3 rfl ?_
  refine y_geti (pc := 4) d74_4 fk2_135 (shB i hi b hb) rfl ?_
  refine x_iconst (pc := 7) (v := (1)) d74_7 (by decide) ?_
  refine y_max (pc := 8) d74_8 ml2_174 ⟨by decide, Nat.le_of_ble_eq_true rfl⟩ ⟨Nat.zero_le _, Nat.zero_le _⟩ ?_
  refine y_cV3v (pc := 11) d74_11 ml2_155 mv71 (shF i hi) (c_goOver i hi b hb s 2 (by decide) _ hP hO) (by decide) (Nat.le_of_ble_eq_true rfl) ⟨Nat.zero_le _, Nat.zero_le _⟩ (fun s hq => ?_)
  subst hq
  refine x_aload_n (pc := 14) d74_14 rfl ?_
  refine y_getr (pc := 15) d74_15 fk2_32 (shF i hi) rfl ?_
  refine x_iconst (pc := 18) (v := (3)) d74_18 (by decide) ?_
  refine x_aload_n (pc := 19) d74_19 rfl ?_
  refine y_geti (pc := 20) d74_20 fk2_28 (shF i hi) rfl ?_
  refine x_lconst (pc := 23) (v := (0)) d74_23 (by decide) ?_
  refine y_cV3v (pc := 24) d74_24 ml2_82 mv73 (shC (co i) (co_lt i)) (c_tell (co i) (co_lt i) _ _ _ _ (wH_over hH)) (by decide) (Nat.le_of_ble_eq_true rfl) ⟨Nat.zero_le _, Nat.zero_le _⟩ (fun s hq => ?_)
  subst hq
  exact y_vret (pc := 27) d74_27 rfl (rfl)
def finS (s : St) (i : Nat) : St := tellS (leaveAllS (si s 38 i 0 2) i) (co i) 4 ((leaveAllS (si s 38 i 0 2) i).1 32 i 0) 0
theorem wH_la {s : St} {i o : Nat} (h : wH s o) : wH (leaveAllS s i) o := by
  unfold wH at *; simpa [leaveAllS, si_r] using h
theorem wH_si {s : St} {id o2 e o : Nat} {v : Int32} (hid : id ≠ 17) (h : wH s o) : wH (si s id o2 e v) o := by
  unfold wH; rw [si_ne (fun z => hid z.1.symm)]; exact h
theorem wH_sl {s : St} {id o2 e o : Nat} {v : Int64} (h : wH s o) : wH (sl s id o2 e v) o := h
set_option maxRecDepth 100000 in
theorem c_finish (i : Nat) (hi : i < 7) (s : St) (hH : wH s (co i)) : Ri 1 83 [.ref (FA i)] s (fun v s1 => v = 2 ∧ s1 = finS s i) := by
  refine ct_of (by decide +kernel) (Nat.le_of_ble_eq_true rfl) ?_
  show Wp _ _ _ _ _ _ [(0, .ref (FA i))] _ _ _
  refine x_aload_n (pc := 0) d83_0 rfl ?_
  refine x_iconst (pc := 1) (v := (2)) d83_1 (by decide) ?_
  refine y_puti (pc := 2) d83_2 fk2_44 (shF i hi) rfl rfl ⟨rfl, rfl⟩ ?_
  refine x_aload_n (pc := 5) d83_5 rfl ?_
  refine y_cV0v (pc := 6) d83_6 ml2_54 mv61 (shF i hi) (c_leaveAll i hi _) (by decide) (Nat.le_of_ble_eq_true rfl) ⟨Nat.zero_le _, Nat.zero_le _⟩ (fun s hq => ?_)
  subst hq
  refine x_aload_n (pc := 9) d83_9 rfl ?_
  refine y_getr (pc := 10) d83_10 fk2_32 (shF i hi) rfl ?_
  refine x_iconst (pc := 13) (v := (4)) d83_13 (by decide) ?_
  refine x_aload_n (pc := 14) d83_14 rfl ?_
  refine y_geti (pc := 15) d83_15 fk2_28 (shF i hi) rfl ?_
  refine x_lconst (pc := 18) (v := (0)) d83_18 (by decide) ?_
  refine y_cV3v (pc := 19) d83_19 ml2_82 mv73 (shC (co i) (co_lt i)) (c_tell (co i) (co_lt i) _ _ _ _ (wH_la (wH_si (by decide) hH))) (by decide) (Nat.le_of_ble_eq_true rfl) ⟨Nat.zero_le _, Nat.zero_le _⟩ (fun s hq => ?_)
  subst hq
  refine x_iconst (pc := 22) (v := (2)) d83_22 (by decide) ?_
  exact y_iret (pc := 23) d83_23 rfl (⟨rfl, rfl⟩)
def perS (s : St) (i : Nat) : St := tellS (leaveAllS (sl (si s 38 i 0 3) 43 i 0 (s.2 45 i 0)) i) (co i) 5 ((leaveAllS (sl (si s 38 i 0 3) 43 i 0 (s.2 45 i 0)) i).1 32 i 0) ((leaveAllS (sl (si s 38 i 0 3) 43 i 0 (s.2 45 i 0)) i).2 45 i 0)
set_option maxRecDepth 100000 in
theorem c_perish (i : Nat) (hi : i < 7) (s : St) (hH : wH s (co i)) : Ri 1 95 [.ref (FA i)] s (fun v s1 => v = 3 ∧ s1 = perS s i) := by
  refine ct_of (by decide +kernel) (Nat.le_of_ble_eq_true rfl) ?_
  show Wp _ _ _ _ _ _ [(0, .ref (FA i))] _ _ _
  refine x_aload_n (pc := 0) d95_0 rfl ?_
  refine x_iconst (pc := 1) (v := (3)) d95_1 (by decide) ?_
  refine y_puti (pc := 2) d95_2 fk2_44 (shF i hi) rfl rfl ⟨rfl, rfl⟩ ?_
  refine x_aload_n (pc := 5) d95_5 rfl ?_
  refine x_aload_n (pc := 6) d95_6 rfl ?_
  refine y_getl (pc := 7) d95_7 fk2_88 (shF i hi) rfl ?_
  refine y_putl (pc := 10) d95_10 fk2_50 (shF i hi) rfl rfl rfl ?_
  refine x_aload_n (pc := 13) d95_13 rfl ?_
  refine y_cV0v (pc := 14) d95_14 ml2_54 mv61 (shF i hi) (c_leaveAll i hi _) (by decide) (Nat.le_of_ble_eq_true rfl) ⟨Nat.zero_le _, Nat.zero_le _⟩ (fun s hq => ?_)
  subst hq
  refine x_aload_n (pc := 17) d95_17 rfl ?_
  refine y_getr (pc := 18) d95_18 fk2_32 (shF i hi) rfl ?_
  refine x_iconst (pc := 21) (v := (5)) d95_21 (by decide) ?_
  refine x_aload_n (pc := 22) d95_22 rfl ?_
  refine y_geti (pc := 23) d95_23 fk2_28 (shF i hi) rfl ?_
  refine x_aload_n (pc := 26) d95_26 rfl ?_
  refine y_getl (pc := 27) d95_27 fk2_88 (shF i hi) rfl ?_
  refine y_cV3v (pc := 30) d95_30 ml2_82 mv73 (shC (co i) (co_lt i)) (c_tell (co i) (co_lt i) _ _ _ _ (wH_la (wH_sl (wH_si (by decide) hH)))) (by decide) (Nat.le_of_ble_eq_true rfl) ⟨Nat.zero_le _, Nat.zero_le _⟩ (fun s hq => ?_)
  subst hq
  refine x_iconst (pc := 33) (v := (3)) d95_33 (by decide) ?_
  exact y_iret (pc := 34) d95_34 rfl (⟨rfl, rfl⟩)
def begS (s : St) (i p : Nat) : St := si (enterS (si (resetS s i) 37 i 0 (nI p)) i 0 (-1) 0 0 ((si (resetS s i) 37 i 0 (nI p)).1 74 p 120)) 38 i 0 1
set_option maxRecDepth 100000 in
theorem c_begin (i : Nat) (hi : i < 7) (s : St) (p : Nat) (hp : p < 13) : Rv 2 59 [.ref (FA i), .ref (PA p)] s (fun s1 => s1 = begS s i p) := by
  refine ct_of (by decide +kernel) (Nat.le_of_ble_eq_true rfl) ?_
  show Wp _ _ _ _ _ _ [(0, .ref (FA i)), (1, .ref (PA p))] _ _ _
  refine x_aload_n (pc := 0) d59_0 rfl ?_
  refine y_cV0v (pc := 1) d59_1 ml2_69 mv60 (shF i hi) (c_reset i hi _) (by decide) (Nat.le_of_ble_eq_true rfl) ⟨Nat.zero_le _, Nat.zero_le _⟩ (fun s hq => ?_)
  subst hq
  refine x_aload_n (pc := 4) d59_4 rfl ?_
  refine x_aload_n (pc := 5) d59_5 rfl ?_
  refine y_putp (pc := 6) (p := p) d59_6 fk2_36 (shF i hi) rfl rfl rfl (hp) ?_
  refine x_aload_n (pc := 9) d59_9 rfl ?_
  refine y_getr (pc := 10) d59_10 fk2_24 (shF i hi) rfl ?_
  refine x_iconst (pc := 13) (v := (0)) d59_13 (by decide) ?_
  refine y_aaldBN (pc := 14) (q := 0) (hq := hi) d59_14 (by omega) (rfl) ?_
  refine x_iconst (pc := 15) (v := (-1)) d59_15 (by decide) ?_
  refine x_iconst (pc := 16) (v := (0)) d59_16 (by decide) ?_
  refine x_iconst (pc := 17) (v := (0)) d59_17 (by decide) ?_
  refine x_aload_n (pc := 18) d59_18 rfl ?_
  refine y_getp (pc := 19) (p := p) d59_19 fk2_36 (shF i hi) rfl (si_eq) (hp) ?_
  refine y_getr (pc := 22) d59_22 fk2_72 (shP p (hp)) rfl ?_
  refine x_bipush (pc := 25) (v := (120)) d59_25 (by decide) ?_
  refine y_ialdN (pc := 27) (q := 120) d59_27 (shP7 p (hp)) (by omega) (by decide) (rfl) ?_
  refine y_cV4v (pc := 28) d59_28 ml2_78 mv62 (shB i hi 0 (by omega)) (c_Body_enter i hi 0 (by decide) _ _ _ _ _) (by decide) (Nat.le_of_ble_eq_true rfl) ⟨Nat.zero_le _, Nat.zero_le _⟩ (fun s hq => ?_)
  subst hq
  refine x_aload_n (pc := 31) d59_31 rfl ?_
  refine x_iconst (pc := 32) (v := (1)) d59_32 (by decide) ?_
  refine y_puti (pc := 33) d59_33 fk2_44 (shF i hi) rfl rfl ⟨rfl, rfl⟩ ?_
  exact y_vret (pc := 36) d59_36 rfl (rfl)
def inS (s : St) (i q : Nat) (y : Int32) : St :=
  if s.1 3 i (dN s i) < 0 ∨ 8 ≤ s.1 41 i 0 ∨ s.1 74 (pN s i) (3 * aN s i (dN s i) + q) = -2 then behS s i
  else if s.1 68 (pN s i) (aN s i (dN s i)) = 23 ∧ nI q = 0 then si (si (si (si (enterS (si s 41 i 0 (nI (dN s i + 1))) i (dN s i + 1) (s.1 3 i (dN s i)) (nI q) (s.1 39 i 0) (s.1 74 (pN s i) (3 * aN s i (dN s i) + q))) 39 i 0 y) 4 i (dN s i + 1) 1) 5 i (dN s i + 1) (s.1 16 (co i) 0)) 42 i 0 (s.1 42 i 0 + 1)
  else si (enterS (si s 41 i 0 (nI (dN s i + 1))) i (dN s i + 1) (s.1 3 i (dN s i)) (nI q) (s.1 39 i 0) (s.1 74 (pN s i) (3 * aN s i (dN s i) + q))) 39 i 0 y
theorem lt8 {s : St} {i : Nat} (hD : wD s i) (h : ¬ 8 ≤ s.1 41 i 0) : dN s i < 8 := by
  rw [hD.1] at h
  rcases Nat.lt_or_ge (dN s i) 8 with q | q
  · exact q
  · exact absurd (show (8 : Int32) ≤ nI (dN s i) from (show (8 : Int32) = nI 8 from rfl) ▸ nI_le q (by have := hD.2; omega)) h
set_option maxRecDepth 100000 in
theorem c_goIn (i : Nat) (hi : i < 7) (s : St) (q : Nat) (hq3 : q < 3) (y : Int32) (hD : wD s i) (hP : wP s i) (hA : wA s i (dN s i)) : Ri 2 87 [.ref (FA i), .int (nI q), .int y] s (fun v s1 => v = 0 ∧ s1 = inS s i q y) := by
  refine ct_of (by decide +kernel) (Nat.le_of_ble_eq_true rfl) ?_
  show Wp _ _ _ _ _ _ [(0, .ref (FA i)), (1, .int (nI q)), (2, .int y)] _ _ _
  refine x_aload_n (pc := 0) d87_0 rfl ?_
  refine y_cV0i (pc := 1) d87_1 ml2_101 mv70 (shF i hi) (c_next i hi s hD) (by decide) (Nat.le_of_ble_eq_true rfl) ⟨Nat.zero_le _, Nat.zero_le _⟩ (fun v s hq => ?_)
  obtain ⟨rfl, rfl⟩ := hq
  refine x_istore_n (pc := 4) d87_4 (by decide) ?_
  refine x_iload_n (pc := 5) d87_5 rfl ?_
  refine x_if_lt (pc := 6) (tgt := 32) d87_6 (by decide) (fun c6 => ?_) (fun c6 => ?_)
  · skip
    refine x_aload_n (pc := 32) d87_32 rfl ?_
    refine y_cV0i (pc := 33) d87_33 ml2_109 mv79 (shF i hi) (c_goBehind i hi s hD hP hA) (by decide) (Nat.le_of_ble_eq_true rfl) ⟨Nat.zero_le _, Nat.zero_le _⟩ (fun v s hq => ?_)
    obtain ⟨rfl, rfl⟩ := hq
    exact y_iret (pc := 36) d87_36 rfl (⟨rfl, by unfold inS; first | rw [if_pos (Or.inl c6)] | rw [if_pos (Or.inr (Or.inl c15))] | rw [if_pos (Or.inr (Or.inr c29))]⟩)
  · skip
    refine x_aload_n (pc := 9) d87_9 rfl ?_
    refine y_geti (pc := 10) d87_10 fk2_63 (shF i hi) rfl ?_
    refine x_bipush (pc := 13) (v := (8)) d87_13 (by decide) ?_
    refine x_icmp_ge (pc := 15) (tgt := 32) d87_15 (by decide) (fun c15 => ?_) (fun c15 => ?_)
    · skip
      refine x_aload_n (pc := 32) d87_32 rfl ?_
      refine y_cV0i (pc := 33) d87_33 ml2_109 mv79 (shF i hi) (c_goBehind i hi s hD hP hA) (by decide) (Nat.le_of_ble_eq_true rfl) ⟨Nat.zero_le _, Nat.zero_le _⟩ (fun v s hq => ?_)
      obtain ⟨rfl, rfl⟩ := hq
      exact y_iret (pc := 36) d87_36 rfl (⟨rfl, by unfold inS; first | rw [if_pos (Or.inl c6)] | rw [if_pos (Or.inr (Or.inl c15))] | rw [if_pos (Or.inr (Or.inr c29))]⟩)
    · skip
      refine x_aload_n (pc := 18) d87_18 rfl ?_
      refine y_getp (pc := 19) (p := pN s i) d87_19 fk2_36 (shF i hi) rfl (hP.1) (hP.2) ?_
      refine x_iload_n (pc := 22) d87_22 rfl ?_
      refine x_iload_n (pc := 23) d87_23 rfl ?_
      rw [(hA.resolve_left c6).1]
      refine y_cV2i (pc := 24) d87_24 ml2_105 mv72 (shP (pN s i) (hP.2)) (c_entryOf (pN s i) hP.2 _ (aN s i (dN s i)) q (hA.resolve_left c6).2 hq3) (by decide) (Nat.le_of_ble_eq_true rfl) ⟨Nat.zero_le _, Nat.zero_le _⟩ (fun v s hq => ?_)
      obtain ⟨rfl, rfl⟩ := hq
      refine x_bipush (pc := 27) (v := (-2)) d87_27 (by decide) ?_
      refine x_icmp_ne (pc := 29) (tgt := 37) d87_29 (by decide) (fun c29 => ?_) (fun c29 => ?_)
      · skip
        refine x_aload_n (pc := 37) d87_37 rfl ?_
        refine x_dup (pc := 38) d87_38 rfl ?_
        refine y_geti (pc := 39) d87_39 fk2_63 (shF i hi) rfl ?_
        refine x_iconst (pc := 42) (v := (1)) d87_42 (by decide) ?_
        refine x_iadd (pc := 43) d87_43 ?_
        refine y_puti (pc := 44) d87_44 fk2_63 (shF i hi) rfl rfl ⟨rfl, rfl⟩ ?_
        rw [show s.1 41 i 0 + 1 = nI (dN s i + 1) by rw [hD.1, nI_1]]
        have hd8 := lt8 hD c15
        refine x_aload_n (pc := 47) d87_47 rfl ?_
        refine y_getr (pc := 48) d87_48 fk2_24 (shF i hi) rfl ?_
        refine x_aload_n (pc := 51) d87_51 rfl ?_
        refine y_geti (pc := 52) d87_52 fk2_63 (shF i hi) rfl ?_
        refine y_aaldBN (pc := 55) (q := dN s i + 1) (hq := hi) d87_55 (by omega) (si_eq) ?_
        refine x_astore (pc := 56) d87_56 (by decide) ?_
        refine x_aload (pc := 58) d87_58 rfl ?_
        refine x_iload_n (pc := 60) d87_60 rfl ?_
        refine x_iload_n (pc := 61) d87_61 rfl ?_
        refine x_aload_n (pc := 62) d87_62 rfl ?_
        refine y_geti (pc := 63) d87_63 fk2_60 (shF i hi) rfl ?_
        refine x_aload_n (pc := 66) d87_66 rfl ?_
        refine y_getp (pc := 67) (p := pN s i) d87_67 fk2_36 (shF i hi) rfl (by simp [si_r]; exact hP.1) (hP.2) ?_
        refine x_iload_n (pc := 70) d87_70 rfl ?_
        refine x_iload_n (pc := 71) d87_71 rfl ?_
        refine y_cV2i (pc := 72) d87_72 ml2_105 mv72 (shP (pN s i) (hP.2)) (c_entryOf (pN s i) hP.2 _ (aN s i (dN s i)) q (hA.resolve_left c6).2 hq3) (by decide) (Nat.le_of_ble_eq_true rfl) ⟨Nat.zero_le _, Nat.zero_le _⟩ (fun v s hq => ?_)
        obtain ⟨rfl, rfl⟩ := hq
        refine y_cV4v (pc := 75) d87_75 ml2_78 mv62 (shB i hi (dN s i + 1) (by omega)) (c_Body_enter i hi (dN s i + 1) (by omega) _ _ _ _ _) (by decide) (Nat.le_of_ble_eq_true rfl) ⟨Nat.zero_le _, Nat.zero_le _⟩ (fun s hq => ?_)
        subst hq
        refine x_aload_n (pc := 78) d87_78 rfl ?_
        refine x_iload_n (pc := 79) d87_79 rfl ?_
        refine y_puti (pc := 80) d87_80 fk2_60 (shF i hi) rfl rfl ⟨rfl, rfl⟩ ?_
        refine x_aload_n (pc := 83) d87_83 rfl ?_
        refine y_getp (pc := 84) (p := pN s i) d87_84 fk2_36 (shF i hi) rfl (by simp [enterS, enterPartS, si_r, sl_1]; exact hP.1) (hP.2) ?_
        refine y_getr (pc := 87) d87_87 fk2_112 (shP (pN s i) (hP.2)) rfl ?_
        refine x_iload_n (pc := 90) d87_90 rfl ?_
        refine y_ialdN (pc := 91) (q := aN s i (dN s i)) d87_91 (shP1 (pN s i) (hP.2)) ((hA.resolve_left c6).2) (by decide) (rfl) ?_
        refine x_bipush (pc := 92) (v := (23)) d87_92 (by decide) ?_
        refine x_icmp_ne (pc := 94) (tgt := 129) d87_94 (by decide) (fun c94 => ?_) (fun c94 => ?_)
        · skip
          try simp [si_r, sl_1, enterS, enterPartS] at c94
          refine x_iconst (pc := 129) (v := (0)) d87_129 (by decide) ?_
          exact y_iret (pc := 130) d87_130 rfl (⟨rfl, by unfold inS; rw [if_neg (fun h => h.elim c6 (fun h => h.elim c15 c29))]; (first | rw [if_neg (fun h => c94 h.1)] | rw [if_neg (fun h => c98 h.2)] | rw [if_pos ⟨c94, c98⟩]); simp [si_r, sl_1, enterS, enterPartS, (hA.resolve_left c6).1]⟩)
        · skip
          try simp [si_r, sl_1, enterS, enterPartS] at c94
          refine x_iload_n (pc := 97) d87_97 rfl ?_
          refine x_if_ne (pc := 98) (tgt := 129) d87_98 (by decide) (fun c98 => ?_) (fun c98 => ?_)
          · skip
            try simp [si_r, sl_1, enterS, enterPartS] at c94
            refine x_iconst (pc := 129) (v := (0)) d87_129 (by decide) ?_
            exact y_iret (pc := 130) d87_130 rfl (⟨rfl, by unfold inS; rw [if_neg (fun h => h.elim c6 (fun h => h.elim c15 c29))]; (first | rw [if_neg (fun h => c94 h.1)] | rw [if_neg (fun h => c98 h.2)] | rw [if_pos ⟨c94, c98⟩]); simp [si_r, sl_1, enterS, enterPartS, (hA.resolve_left c6).1]⟩)
          · skip
            refine x_aload (pc := 101) d87_101 rfl ?_
            refine x_iconst (pc := 103) (v := (1)) d87_103 (by decide) ?_
            refine y_puti (pc := 104) d87_104 fk2_115 (shB i hi (dN s i + 1) (by omega)) rfl rfl ⟨rfl, rfl⟩ ?_
            refine x_aload (pc := 107) d87_107 rfl ?_
            refine x_aload_n (pc := 109) d87_109 rfl ?_
            refine y_getr (pc := 110) d87_110 fk2_32 (shF i hi) rfl ?_
            refine y_geti (pc := 113) d87_113 fk2_118 (shC (co i) (co_lt i)) rfl ?_
            refine y_puti (pc := 116) d87_116 fk2_121 (shB i hi (dN s i + 1) (by omega)) rfl rfl ⟨rfl, rfl⟩ ?_
            refine x_aload_n (pc := 119) d87_119 rfl ?_
            refine x_dup (pc := 120) d87_120 rfl ?_
            refine y_geti (pc := 121) d87_121 fk2_66 (shF i hi) rfl ?_
            refine x_iconst (pc := 124) (v := (1)) d87_124 (by decide) ?_
            refine x_iadd (pc := 125) d87_125 ?_
            refine y_puti (pc := 126) d87_126 fk2_66 (shF i hi) rfl rfl ⟨rfl, rfl⟩ ?_
            try simp [si_r, sl_1, enterS, enterPartS] at c94
            refine x_iconst (pc := 129) (v := (0)) d87_129 (by decide) ?_
            exact y_iret (pc := 130) d87_130 rfl (⟨rfl, by unfold inS; rw [if_neg (fun h => h.elim c6 (fun h => h.elim c15 c29))]; (first | rw [if_neg (fun h => c94 h.1)] | rw [if_neg (fun h => c98 h.2)] | rw [if_pos ⟨c94, c98⟩]); simp [si_r, sl_1, enterS, enterPartS, (hA.resolve_left c6).1]⟩)
      · skip
        refine x_aload_n (pc := 32) d87_32 rfl ?_
        refine y_cV0i (pc := 33) d87_33 ml2_109 mv79 (shF i hi) (c_goBehind i hi s hD hP hA) (by decide) (Nat.le_of_ble_eq_true rfl) ⟨Nat.zero_le _, Nat.zero_le _⟩ (fun v s hq => ?_)
        obtain ⟨rfl, rfl⟩ := hq
        exact y_iret (pc := 36) d87_36 rfl (⟨rfl, by unfold inS; first | rw [if_pos (Or.inl c6)] | rw [if_pos (Or.inr (Or.inl c15))] | rw [if_pos (Or.inr (Or.inr c29))]⟩)
