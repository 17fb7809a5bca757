/-! a THREAD's small methods. Numbers of a state as natural ones; what a state of a THREAD keeps to -/
def dN (s : St) (i : Nat) : Nat := (s.1 41 i 0).toNatClampNeg
def cN (s : St) (i : Nat) : Nat := (s.1 80 i 0).toNatClampNeg
def pN (s : St) (i : Nat) : Nat := (s.1 37 i 0).toNatClampNeg
def aN (s : St) (i b : Nat) : Nat := (s.1 3 i b).toNatClampNeg
def oN (s : St) (i b : Nat) : Nat := (s.1 0 i b).toNatClampNeg
def wD (s : St) (i : Nat) : Prop := s.1 41 i 0 = nI (dN s i) ∧ dN s i ≤ 8
def wC (s : St) (i : Nat) : Prop := s.1 80 i 0 = nI (cN s i) ∧ cN s i ≤ 22
def wP (s : St) (i : Nat) : Prop := s.1 37 i 0 = nI (pN s i) ∧ pN s i < 13
def wA (s : St) (i b : Nat) : Prop := s.1 3 i b < 0 ∨ (s.1 3 i b = nI (aN s i b) ∧ aN s i b < 40)
def wO (s : St) (i b : Nat) : Prop := s.1 0 i b = nI (oN s i b) ∧ oN s i b < 40
theorem n3 (a b : Nat) : (3 : Int32) * nI a + nI b = nI (3 * a + b) := by
  rw [show (3 : Int32) = nI 3 from rfl, pk_mul, nI_add]
def rmS (s : St) (i : Nat) (x : Int32) : St := if x < 0 ∨ nI (cN s i) ≤ x then s else remS s i (cN s i) x.toNatClampNeg
theorem c_rm (i : Nat) (hi : i < 7) (s : St) (x : Int32) (hC : wC s i) : Rv 0 78 [.ref (RW i), .int x] s (fun s1 => s1 = rmS s i x) := by
  refine (c_removeAt i hi s x (cN s i) hC.2 hC.1).imp (fun s1 h => ?_)
  unfold rmS
  by_cases hx : x < 0 ∨ nI (cN s i) ≤ x
  · rw [if_pos hx]; exact h.2 hx
  · rw [if_neg hx]
    obtain ⟨q, hq, ex, -⟩ := pk_mu (L := cN s i) (fun z => hx (Or.inl z)) (fun z => hx (Or.inr z)) (by have := hC.2; omega)
    have := h.1 q hq ex
    rw [ex, nI_clamp (by have := hC.2; omega)]; exact this
def leaveAllS (s : St) (i : Nat) : St := si (si (si (si (si s 80 i 0 0) 39 i 0 0) 41 i 0 0) 42 i 0 0) 44 i 0 (-1)
set_option maxRecDepth 100000 in
theorem c_leaveAll (i : Nat) (hi : i < 7) (s : St) : Rv 0 61 [.ref (FA i)] s (fun s1 => s1 = leaveAllS s i) := by
  refine ct_of (by decide +kernel) (Nat.le_of_ble_eq_true rfl) ?_
  show Wp _ _ _ _ _ _ [(0, .ref (FA i))] _ _ _
  refine x_aload_n (pc := 0) d61_0 rfl ?_
  refine y_getr (pc := 1) d61_1 fk2_12 (shF i hi) rfl ?_
  refine x_iconst (pc := 4) (v := (0)) d61_4 (by decide) ?_
  refine y_puti (pc := 5) d61_5 fk2_57 (shR i hi) rfl rfl ⟨rfl, rfl⟩ ?_
  refine x_aload_n (pc := 8) d61_8 rfl ?_
  refine x_iconst (pc := 9) (v := (0)) d61_9 (by decide) ?_
  refine y_puti (pc := 10) d61_10 fk2_60 (shF i hi) rfl rfl ⟨rfl, rfl⟩ ?_
  refine x_aload_n (pc := 13) d61_13 rfl ?_
  refine x_iconst (pc := 14) (v := (0)) d61_14 (by decide) ?_
  refine y_puti (pc := 15) d61_15 fk2_63 (shF i hi) rfl rfl ⟨rfl, rfl⟩ ?_
  refine x_aload_n (pc := 18) d61_18 rfl ?_
  refine x_iconst (pc := 19) (v := (0)) d61_19 (by decide) ?_
  refine y_puti (pc := 20) d61_20 fk2_66 (shF i hi) rfl rfl ⟨rfl, rfl⟩ ?_
  refine x_aload_n (pc := 23) d61_23 rfl ?_
  refine x_iconst (pc := 24) (v := (-1)) d61_24 (by decide) ?_
  refine y_puti (pc := 25) d61_25 fk2_40 (shF i hi) rfl rfl ⟨rfl, rfl⟩ ?_
  exact y_vret (pc := 28) d61_28 rfl (rfl)
def zlS (i : Nat) : Nat → Nat → St → St
  | 0, _, s => s
  | m + 1, k, s => zlS i m (k + 1) (sl s 34 i k 0)
def resetS (s : St) (i : Nat) : St := leaveAllS (zlS i 10 0 (sl (si (si s 38 i 0 0) 40 i 0 0) 43 i 0 0)) i
set_option maxRecDepth 100000 in
theorem lp_reset (i : Nat) (hi : i < 7) {Q : St → Prop} : ∀ (m k : Nat) (s : St), k + m = 10 → Q (leaveAllS (zlS i m k s) i) → Wp (rmd 1 0 0) 60 (zv Q) 0 0 17 [(1, .int (nI k)), (0, .ref (FA i))] [] (mk s) TT := by
  intro m
  induction m with
  | zero =>
    intro k s hk hx
    refine x_iload_n (pc := 17) d60_17 rfl ?_
    refine x_bipush (pc := 18) (v := (10)) d60_18 (by decide) ?_
    refine x_icmp_ge (pc := 20) (tgt := 36) d60_20 (by decide) (fun c20 => ?_) (fun c20 => absurd (show (10 : Int32) ≤ nI k from (show (10 : Int32) = nI 10 from rfl) ▸ nI_le (by omega) (by omega)) c20)
    refine x_aload_n (pc := 36) d60_36 rfl ?_
    refine y_cV0v (pc := 37) d60_37 ml2_54 mv61 (shF i hi) (c_leaveAll i hi _) (by decide) (Nat.le_of_ble_eq_true rfl) ⟨Nat.zero_le _, Nat.zero_le _⟩ (fun s hq => ?_)
    subst hq
    exact y_vret (pc := 40) d60_40 rfl (hx)
  | succ m ih =>
    intro k s hk hx
    refine x_iload_n (pc := 17) d60_17 rfl ?_
    refine x_bipush (pc := 18) (v := (10)) d60_18 (by decide) ?_
    refine x_icmp_ge (pc := 20) (tgt := 36) d60_20 (by decide) (fun c20 => absurd c20 (show ¬ (10 : Int32) ≤ nI k from (show (10 : Int32) = nI 10 from rfl) ▸ nI_ge (by omega) (by omega))) (fun c20 => ?_)
    refine x_aload_n (pc := 23) d60_23 rfl ?_
    refine y_getr (pc := 24) d60_24 fk2_18 (shF i hi) rfl ?_
    refine x_iload_n (pc := 27) d60_27 rfl ?_
    refine x_lconst (pc := 28) (v := (0)) d60_28 (by decide) ?_
    refine y_lastN (pc := 29) (q := k) d60_29 (shR4 i hi) (by omega) (by decide) (rfl) ?_
    refine y_inc (pc := 30) (c := (1)) d60_30 (by decide) (by decide) rfl ?_
    refine x_goto (pc := 33) (tgt := 17) d60_33 (by decide) ?_
    rw [nI_1]
    exact ih (k + 1) _ (by omega) hx
set_option maxRecDepth 100000 in
theorem c_reset (i : Nat) (hi : i < 7) (s : St) : Rv 1 60 [.ref (FA i)] s (fun s1 => s1 = resetS s i) := by
  refine ct_of (by decide +kernel) (Nat.le_of_ble_eq_true rfl) ?_
  show Wp _ _ _ _ _ _ [(0, .ref (FA i))] _ _ _
  refine x_aload_n (pc := 0) d60_0 rfl ?_
  refine x_iconst (pc := 1) (v := (0)) d60_1 (by decide) ?_
  refine y_puti (pc := 2) d60_2 fk2_44 (shF i hi) rfl rfl ⟨rfl, rfl⟩ ?_
  refine x_aload_n (pc := 5) d60_5 rfl ?_
  refine x_iconst (pc := 6) (v := (0)) d60_6 (by decide) ?_
  refine y_puti (pc := 7) d60_7 fk2_47 (shF i hi) rfl rfl ⟨rfl, rfl⟩ ?_
  refine x_aload_n (pc := 10) d60_10 rfl ?_
  refine x_lconst (pc := 11) (v := (0)) d60_11 (by decide) ?_
  refine y_putl (pc := 12) d60_12 fk2_50 (shF i hi) rfl rfl rfl ?_
  refine x_iconst (pc := 15) (v := (0)) d60_15 (by decide) ?_
  refine x_istore_n (pc := 16) d60_16 (by decide) ?_
  exact lp_reset i hi 10 0 _ rfl rfl
set_option maxRecDepth 100000 in
theorem c_next (i : Nat) (hi : i < 7) (s : St) (hD : wD s i) : Ri 0 70 [.ref (FA i)] s (fun v s1 => v = s.1 3 i (dN s i) ∧ s1 = s) := by
  refine ct_of (by decide +kernel) (Nat.le_of_ble_eq_true rfl) ?_
  show Wp _ _ _ _ _ _ [(0, .ref (FA i))] _ _ _
  refine x_aload_n (pc := 0) d70_0 rfl ?_
  refine y_getr (pc := 1) d70_1 fk2_24 (shF i hi) rfl ?_
  refine x_aload_n (pc := 4) d70_4 rfl ?_
  refine y_geti (pc := 5) d70_5 fk2_63 (shF i hi) rfl ?_
  refine y_aaldBN (pc := 8) (q := dN s i) (hq := hi) d70_8 (by have := hD.2; omega) (hD.1) ?_
  refine y_geti (pc := 9) d70_9 fk2_91 (shB i hi (dN s i) (by have := hD.2; omega)) rfl ?_
  exact y_iret (pc := 12) d70_12 rfl (⟨rfl, rfl⟩)
def behS (s : St) (i : Nat) : St := if s.1 3 i (dN s i) < 0 then s else si s 3 i (dN s i) (s.1 73 (pN s i) (aN s i (dN s i)))
set_option maxRecDepth 100000 in
theorem c_goBehind (i : Nat) (hi : i < 7) (s : St) (hD : wD s i) (hP : wP s i) (hA : wA s i (dN s i)) : Ri 0 79 [.ref (FA i)] s (fun v s1 => v = 0 ∧ s1 = behS s i) := by
  refine ct_of (by decide +kernel) (Nat.le_of_ble_eq_true rfl) ?_
  show Wp _ _ _ _ _ _ [(0, .ref (FA i))] _ _ _
  refine x_aload_n (pc := 0) d79_0 rfl ?_
  refine y_getr (pc := 1) d79_1 fk2_24 (shF i hi) rfl ?_
  refine x_aload_n (pc := 4) d79_4 rfl ?_
  refine y_geti (pc := 5) d79_5 fk2_63 (shF i hi) rfl ?_
  refine y_aaldBN (pc := 8) (q := dN s i) (hq := hi) d79_8 (by have := hD.2; omega) (hD.1) ?_
  refine x_astore_n (pc := 9) d79_9 (by decide) ?_
  refine x_aload_n (pc := 10) d79_10 rfl ?_
  refine y_geti (pc := 11) d79_11 fk2_91 (shB i hi (dN s i) (by have := hD.2; omega)) rfl ?_
  refine x_if_lt (pc := 14) (tgt := 33) d79_14 (by decide) (fun c14 => ?_) (fun c14 => ?_)
  · skip
    refine x_iconst (pc := 33) (v := (0)) d79_33 (by decide) ?_
    exact y_iret (pc := 34) d79_34 rfl (⟨rfl, by unfold behS; first | rw [if_pos c14] | rw [if_neg c14]⟩)
  · skip
    refine x_aload_n (pc := 17) d79_17 rfl ?_
    refine x_aload_n (pc := 18) d79_18 rfl ?_
    refine y_getp (pc := 19) (p := pN s i) d79_19 fk2_36 (shF i hi) rfl (hP.1) (hP.2) ?_
    refine y_getr (pc := 22) d79_22 fk2_98 (shP (pN s i) (hP.2)) rfl ?_
    refine x_aload_n (pc := 25) d79_25 rfl ?_
    refine y_geti (pc := 26) d79_26 fk2_91 (shB i hi (dN s i) (by have := hD.2; omega)) rfl ?_
    refine y_ialdN (pc := 29) (q := aN s i (dN s i)) d79_29 (shP6 (pN s i) (hP.2)) ((hA.resolve_left c14).2) (by decide) ((hA.resolve_left c14).1) ?_
    refine y_puti (pc := 30) d79_30 fk2_91 (shB i hi (dN s i) (by have := hD.2; omega)) rfl rfl ⟨rfl, rfl⟩ ?_
    refine x_iconst (pc := 33) (v := (0)) d79_33 (by decide) ?_
    exact y_iret (pc := 34) d79_34 rfl (⟨rfl, by unfold behS; first | rw [if_pos c14] | rw [if_neg c14]⟩)
set_option maxRecDepth 100000 in
theorem c_entryOf (p : Nat) (hp : p < 13) (s : St) (a q : Nat) (ha : a < 40) (hq : q < 3) : Ri 0 72 [.ref (PA p), .int (nI a), .int (nI q)] s (fun v s1 => v = s.1 74 p (3 * a + q) ∧ s1 = s) := by
  refine ct_of (by decide +kernel) (Nat.le_of_ble_eq_true rfl) ?_
  show Wp _ _ _ _ _ _ [(0, .ref (PA p)), (1, .int (nI a)), (2, .int (nI q))] _ _ _
  refine x_aload_n (pc := 0) d72_0 rfl ?_
  refine y_getr (pc := 1) d72_1 fk4_30 (shP p hp) rfl ?_
  refine x_iconst (pc := 4) (v := (3)) d72_4 (by decide) ?_
  refine x_iload_n (pc := 5) d72_5 rfl ?_
  refine x_imul (pc := 6) d72_6 ?_
  refine x_iload_n (pc := 7) d72_7 rfl ?_
  refine x_iadd (pc := 8) d72_8 ?_
  refine y_ialdN (pc := 9) (q := 3 * a + q) d72_9 (shP7 p hp) (by omega) (by decide) (n3 a q) ?_
  exact y_iret (pc := 10) d72_10 rfl (⟨rfl, rfl⟩)
def overS (s : St) (i b q : Nat) (y : Int32) : St := si (enterPartS s i b (nI q) (s.1 74 (pN s i) (3 * oN s i b + q))) 39 i 0 y
set_option maxRecDepth 100000 in
theorem c_goOver (i : Nat) (hi : i < 7) (b : Nat) (hb : b < 9) (s : St) (q : Nat) (hq3 : q < 3) (y : Int32) (hP : wP s i) (hO : wO s i b) : Rv 1 71 [.ref (FA i), .ref (RW i + 6 + b), .int (nI q), .int y] s (fun s1 => s1 = overS s i b q y) := by
  refine ct_of (by decide +kernel) (Nat.le_of_ble_eq_true rfl) ?_
  show Wp _ _ _ _ _ _ [(0, .ref (FA i)), (1, .ref (RW i + 6 + b)), (2, .int (nI q)), (3, .int y)] _ _ _
  refine x_aload_n (pc := 0) d71_0 rfl ?_
  refine x_iload_n (pc := 1) d71_1 rfl ?_
  refine x_aload_n (pc := 2) d71_2 rfl ?_
  refine y_getp (pc := 3) (p := pN s i) d71_3 fk2_36 (shF i hi) rfl (hP.1) (hP.2) ?_
  refine x_aload_n (pc := 6) d71_6 rfl ?_
  refine y_geti (pc := 7) d71_7 fk2_124 (shB i hi b hb) rfl ?_
  rw [hO.1]
  refine x_iload_n (pc := 10) d71_10 rfl ?_
  refine y_cV2i (pc := 11) d71_11 ml2_105 mv72 (shP (pN s i) (hP.2)) (c_entryOf (pN s i) hP.2 _ (oN s i b) q hO.2 hq3) (by decide) (Nat.le_of_ble_eq_true rfl) ⟨Nat.zero_le _, Nat.zero_le _⟩ (fun v s hq => ?_)
  obtain ⟨rfl, rfl⟩ := hq
  refine y_cV2v (pc := 14) d71_14 ml2_127 mv63 (shB i hi b hb) (c_Body_enterPart i hi b hb _ _ _) (by decide) (Nat.le_of_ble_eq_true rfl) ⟨Nat.zero_le _, Nat.zero_le _⟩ (fun s hq => ?_)
  subst hq
  refine x_aload_n (pc := 17) d71_17 rfl ?_
  refine x_iload_n (pc := 18) d71_18 rfl ?_
  refine y_puti (pc := 19) d71_19 fk2_60 (shF i hi) rfl rfl ⟨rfl, rfl⟩ ?_
  exact y_vret (pc := 22) d71_22 rfl (rfl)
