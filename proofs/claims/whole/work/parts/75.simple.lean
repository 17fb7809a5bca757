/-! texts on both sides: statements without bodies -/
theorem rt_bad {u : St} {N : Nat} (h : u.1 208 0 0 = 1) : r_readText_40 (N + 1) u = some u := by rw [r_readText_40.eq_2, bnd_d, h, if_neg (by decide)]
theorem FL.up {sT : St} {cnt k k2 : Nat} {s u : St} (h : FL sT cnt k2 s u) (hk : k ≤ k2) : FL sT cnt k s u := by
  obtain ⟨k', a1, a2⟩ := h
  exact ⟨k', by omega, a2⟩
theorem FL.b {sT : St} {cnt k : Nat} {s u : St} (h : FL sT cnt k s u) : u.1 208 0 0 = 1 := by
  obtain ⟨k', a1, a2, a3, a4, a5⟩ := h
  exact a4
def Xsc (h : Nat) : Nat → Nat → Prop := fun id i => 69 ≤ id ∧ id ≤ 72 ∧ i = h
def Ysc (p h : Nat) : Nat → Nat → Prop := fun id i => (id = 218 ∨ (221 ≤ id ∧ id ≤ 223)) ∧ i = 40 * p + h
def XPF (s u : St) (p h fC eA : Nat) : Prop := ∃ f m e, XpQ s u p h f m e ∧ f + m ≤ fC ∧ e + m < eA ∧ u.1 218 0 (40 * p + h) = nI (200 * p + e)
def LTF (s u : St) (p h : Nat) : Prop := ∃ b, b < 10 ∧ s.1 69 p h = nI b ∧ u.1 221 0 (40 * p + h) = nI (16 + b)
def BXF (s u : St) (p h : Nat) : Prop := ∃ b, b < 8 ∧ s.1 70 p h = nI b ∧ u.1 222 0 (40 * p + h) = nI b
def NMF (B : Nat) (s u : St) (p h : Nat) : Prop := ∃ b, b < B ∧ s.1 70 p h = nI b ∧ u.1 223 0 (40 * p + h) = nI b
theorem XPF.to {X Y : Nat → Nat → Prop} {s u s' u' : St} {p n h fC eA fC' eA' d : Nat} (q : XPF s u p h fC eA) (hh : h < n) (C : CB X p n fC s s') (R : RB Y p n eA d u u') (hf : fC ≤ fC') (he : eA ≤ eA') (hX : ¬ X 71 h ∧ ¬ X 72 h) (hY : ¬ Y 218 (40 * p + h)) : XPF s' u' p h fC' eA' := by
  obtain ⟨f, m, e, x, y1, y2, y3⟩ := q
  exact ⟨f, m, e, XpQ_to x y1 y2 hh C R (fun id i1 i2 => by rcases (by omega : id = 71 ∨ id = 72) with rfl | rfl; (· exact hX.1); (· exact hX.2)), by omega, by omega, by rw [R.qs 218 _ (by omega) (by omega) (by omega) (by omega) (by omega) hY]; exact y3⟩
theorem LTF.to {X Y : Nat → Nat → Prop} {s u s' u' : St} {p n h f e d : Nat} (q : LTF s u p h) (hh : h < n) (C : CB X p n f s s') (R : RB Y p n e d u u') (hX : ¬ X 69 h) (hY : ¬ Y 221 (40 * p + h)) : LTF s' u' p h := by
  unfold LTF at *
  rw [C.qs 69 h (by omega) (by omega) hh hX, R.qs 221 _ (by omega) (by omega) (by omega) (by omega) (by omega) hY]; exact q
theorem BXF.to {X Y : Nat → Nat → Prop} {s u s' u' : St} {p n h f e d : Nat} (q : BXF s u p h) (hh : h < n) (C : CB X p n f s s') (R : RB Y p n e d u u') (hX : ¬ X 70 h) (hY : ¬ Y 222 (40 * p + h)) : BXF s' u' p h := by
  unfold BXF at *
  rw [C.qs 70 h (by omega) (by omega) hh hX, R.qs 222 _ (by omega) (by omega) (by omega) (by omega) (by omega) hY]; exact q
theorem NMF.to {B : Nat} {X Y : Nat → Nat → Prop} {s u s' u' : St} {p n h f e d : Nat} (q : NMF B s u p h) (hh : h < n) (C : CB X p n f s s') (R : RB Y p n e d u u') (hX : ¬ X 70 h) (hY : ¬ Y 223 (40 * p + h)) : NMF B s' u' p h := by
  unfold NMF at *
  rw [C.qs 70 h (by omega) (by omega) hh hX, R.qs 223 _ (by omega) (by omega) (by omega) (by omega) (by omega) hY]; exact q
theorem nX0 {a b : Nat} : ¬ X0 a b := fun q => q
theorem nXc {id a b : Nat} {o : Nat} (h : b ≠ id) : ¬ Xc id o b a := fun q => h q.1
theorem nXof {o a b : Nat} (h : ¬ (b = 71 ∨ b = 72)) : ¬ Xof o b a := fun q => h q.1
theorem CB0 {X : Nat → Nat → Prop} {p n f : Nat} {s t : St} (h : CB X0 p n f s t) : CB X p n f s t := h.mono (fun _ _ q => absurd q nX0) (Nat.le_refl _) (Nat.le_refl _)
theorem RB0 {X : Nat → Nat → Prop} {p n e d : Nat} {s t : St} (h : RB X0 p n e d s t) : RB X p n e d s t := h.mono (fun _ _ q => absurd q nX0) (Nat.le_refl _) (Nat.le_refl _) (Nat.le_refl _)
theorem CBc {p n f h id : Nat} {s t : St} (hi : 69 ≤ id ∧ id ≤ 72) (c : CB (Xc id h) p n f s t) : CB (Xsc h) p n f s t := c.mono (fun _ _ q => Or.inl ⟨by have := q.1; omega, by have := q.1; omega, q.2⟩) (Nat.le_refl _) (Nat.le_refl _)
theorem CBo {p n f h : Nat} {s t : St} (c : CB (Xof h) p n f s t) : CB (Xsc h) p n f s t := c.mono (fun _ _ q => Or.inl ⟨by have := q.1; omega, by have := q.1; omega, q.2⟩) (Nat.le_refl _) (Nat.le_refl _)
theorem RBc {p n e d h id : Nat} {s t : St} (hi : id = 218 ∨ (221 ≤ id ∧ id ≤ 223)) (c : RB (Xc id (40 * p + h)) p n e d s t) : RB (Ysc p h) p n e d s t := c.mono (fun _ _ q => Or.inl ⟨by have := q.1; omega, q.2⟩) (Nat.le_refl _) (Nat.le_refl _) (Nat.le_refl _)
/-- how an item ends: with Q, or BAD -/
def IT (sT : St) (z cnt : Nat) (E : Nat → Nat) (p d h : Nat) (Q : St → St → Nat → Nat → Prop) (s u : St) (k n f e : Nat) (v : Int32) (s' u' : St) : Prop :=
  CB (Xsc h) p n f s s' ∧ RB (Ysc p h) p n e d u u' ∧ ((v = 1 ∧ ∃ k' un' f' e', k ≤ k' ∧ f ≤ f' ∧ e ≤ e' ∧ BS sT z cnt E p s' u' k' n un' f' e' d ∧ Q s' u' f' e') ∨ (v = 0 ∧ FL sT cnt k s' u'))
theorem it_exp {sT s u : St} {z cnt p k n un f e d h : Nat} {E : Nat → Nat} (X : CX sT z cnt E) (hp : p < 12) (H : BS sT z cnt E p s u k n un f e d) (hh : h < n) :
    ∃ v s' u', k_isExpOf (nI h) s = some (v, s') ∧ (∀ C : St → Option St, (cal2 (r_exp u) fun v5 s4 => grd (ib (nI (40 * p + h)) 480) (si s4 218 0 (nI (40 * p + h)).toNatClampNeg v5) C) = C u') ∧ CB (Xof h) p n f s s' ∧ RB (Xc 218 (40 * p + h)) p n e d u u' ∧ ((v = 1 ∧ ∃ k' un' f' e', k ≤ k' ∧ f ≤ f' ∧ e ≤ e' ∧ BS sT z cnt E p s' u' k' n un' f' e' d ∧ XPF s' u' p h f' e') ∨ (v = 0 ∧ FL sT cnt k s' u')) := by
  have n4 := H.n4
  obtain ⟨v, s', u', r1, r2, r3, r4, r5⟩ := ex_of (o := h) X hp H (by omega)
  have R4 : RB (Xc 218 (40 * p + h)) p n e d u (si u' 218 0 (40 * p + h) (nI (200 * p + e))) := (RB0 r4).si (Or.inr (Or.inr (Or.inr (Or.inl ⟨by omega, by omega, by omega, by omega, Or.inr ⟨rfl, rfl⟩⟩))))
  refine ⟨v, s', si u' 218 0 (40 * p + h) (nI (200 * p + e)), r1, fun C => by rw [r2, cal2_s, gI (by omega) (by decide), nI_clamp (by omega)], r3, R4, ?_⟩
  rcases r5 with ⟨rfl, k', un', m, a1, a2, x1, x2, x3, x4, x5⟩ | ⟨rfl, k', a1, a2, a3, a4, a5⟩
  · refine Or.inl ⟨rfl, k', un', f + m, e + m + 1, a1, by omega, by omega, a2.to (fun _ _ => rfl) (fun id q => si_id (by omega)) rfl, f, m, e, ⟨x1, x2, fun i hi => CdR_to (x3 i hi) rfl rfl (si_o (by decide)) (si_o (by decide)) rfl, by rw [si_o (by decide)]; exact x4, x5⟩, Nat.le_refl _, by omega, si_eq⟩
  · exact Or.inr ⟨rfl, k', a1, a2, a3, by rw [si_o (by decide)]; exact a4, by rw [si_o (by decide)]; exact a5⟩
/-- an exp and ';' -/
theorem it_end {sT s u : St} {z cnt p k n un f e d h : Nat} {E : Nat → Nat} (X : CX sT z cnt E) (hp : p < 12) (H : BS sT z cnt E p s u k n un f e d) (hh : h < n) :
    ∃ v s' u', (cal2 (k_isExpOf (nI h) s) fun v13 s12 => if v13 = 0 then some (0, s12) else (cal2 (k_is (59 : Int32) s12) fun v15 s14 => if v15 = 0 then some (0, s14) else (some ((1 : Int32), s14)))) = some (v, s') ∧ r_readEnd (nI (40 * p + h)) u = some u' ∧ CB (Xof h) p n f s s' ∧ RB (Xc 218 (40 * p + h)) p n e d u u' ∧ ((v = 1 ∧ ∃ k' un' f' e', k ≤ k' ∧ f ≤ f' ∧ e ≤ e' ∧ BS sT z cnt E p s' u' k' n un' f' e' d ∧ XPF s' u' p h f' e') ∨ (v = 0 ∧ FL sT cnt k s' u')) := by
  obtain ⟨v, s1, u1, r1, r2, r3, r4, r5⟩ := it_exp X hp H hh
  have hr : r_readEnd (nI (40 * p + h)) u = r_readEnd_17 u1 := by
    unfold r_readEnd
    rw [bnd_d, H.bd, if_pos rfl, r2 r_readEnd_17]
  rw [r1, cal2_s, hr]
  unfold r_readEnd_17
  rcases r5 with ⟨rfl, k1, un1, f1, e1, a1, a2, a3, a4, a5⟩ | ⟨rfl, fl⟩
  · rw [if_neg (by decide)]
    obtain ⟨v, s2, u2, t1, t2, t3, t4, t5⟩ := it_sign (c := 59) X a4 (by decide)
    rw [show k_is 59 s1 = _ from t1, cal2_s, show r_take 59 u1 = _ from t2, cal_s]
    have C2 : CB (Xof h) p n f s s2 := r3.trans ((CB0 t3).mono (fun _ _ q => Or.inl q) (Nat.le_refl _) a2)
    have R2 : RB (Xc 218 (40 * p + h)) p n e d u u2 := r4.trans ((RB0 t4).mono (fun _ _ q => Or.inl q) (Nat.le_refl _) a3 (Nat.le_refl _))
    rcases t5 with ⟨rfl, b1⟩ | ⟨rfl, b1⟩
    · rw [if_neg (by decide)]
      exact ⟨1, s2, u2, rfl, rfl, C2, R2, Or.inl ⟨rfl, k1 + 1, un1, f1, e1, by omega, a2, a3, b1, a5.to hh t3 t4 (Nat.le_refl _) (Nat.le_refl _) ⟨nX0, nX0⟩ nX0⟩⟩
    · rw [if_pos rfl]
      exact ⟨0, s2, u2, rfl, rfl, C2, R2, Or.inr ⟨rfl, b1.up a1⟩⟩
  · rw [if_pos rfl, b_take fl.b, cal_s]
    exact ⟨0, s1, u1, rfl, rfl, r3, r4, Or.inr ⟨rfl, fl⟩⟩
theorem IT.mk {sT : St} {z cnt p d h k n f e : Nat} {E : Nat → Nat} {Q : St → St → Nat → Nat → Prop} {s u s' u' : St} {v : Int32} (a : CB (Xsc h) p n f s s') (b : RB (Ysc p h) p n e d u u') (c : (v = 1 ∧ ∃ k' un' f' e', k ≤ k' ∧ f ≤ f' ∧ e ≤ e' ∧ BS sT z cnt E p s' u' k' n un' f' e' d ∧ Q s' u' f' e') ∨ (v = 0 ∧ FL sT cnt k s' u')) : IT sT z cnt E p d h Q s u k n f e v s' u' := ⟨a, b, c⟩
/-- NOTE and THROW -/
theorem sk_end {sT s u : St} {z cnt p k n un f e d h : Nat} {E : Nat → Nat} (fS : Fx3) (fT : Fx1) (fB : Fx3) (fM : Fx2) (X : CX sT z cnt E) (hp : p < 12) (H : BS sT z cnt E p s u k n un f e d) (hh : h < n) :
    ∃ v s' u', k_statement_188 fS fT fB fM (nI h) s = some (v, s') ∧ r_readStatement_246 (nI (40 * p + h)) u = some u' ∧ IT sT z cnt E p d h (fun s u f e => XPF s u p h f e) s u k n f e v s' u' := by
  obtain ⟨v, s', u', r1, r2, r3, r4, r5⟩ := it_end X hp H hh
  refine ⟨v, s', u', ?_, ?_, CBo r3, RBc (by omega) r4, r5⟩
  · unfold k_statement_188 k_statement_209; exact r1
  · unfold r_readStatement_246; rw [r2, cal_s]
/-- LOCAL = exp; after the LOCAL -/
theorem sk_set {sT s u : St} {z cnt p k n un f e d h : Nat} {E : Nat → Nat} (fS : Fx3) (fT : Fx1) (fB : Fx3) (fM : Fx2) (X : CX sT z cnt E) (hp : p < 12) (H : BS sT z cnt E p s u k n un f e d) (hh : h < n) (hL : LTF s u p h) :
    ∃ v s' u', (cal2 (k_is (61 : Int32) s) fun v79 s78 => if v79 = 0 then (k_statement_86 fS fT fB fM s78) else (cal2 (k_isExpOf (nI h) s78) fun v81 s80 => if v81 = 0 then (k_statement_86 fS fT fB fM s80) else (cal2 (k_is (59 : Int32) s80) fun v83 s82 => if v83 = 0 then (k_statement_86 fS fT fB fM s82) else (some ((1 : Int32), s82))))) = some (v, s') ∧ (cal (r_take (61 : Int32) u) fun s63 => cal (r_readEnd (nI (40 * p + h)) s63) fun s65 => some s65) = some u' ∧ IT sT z cnt E p d h (fun s u f e => XPF s u p h f e ∧ LTF s u p h) s u k n f e v s' u' := by
  unfold k_statement_86
  obtain ⟨v, s2, u2, t1, t2, t3, t4, t5⟩ := it_sign (c := 61) X H (by decide)
  rw [show k_is 61 s = _ from t1, cal2_s, show r_take 61 u = _ from t2, cal_s]
  rcases t5 with ⟨rfl, b1⟩ | ⟨rfl, b1⟩
  · rw [if_neg (by decide)]
    obtain ⟨v, s', u', r1, r2, r3, r4, r5⟩ := it_end X hp b1 hh
    have C2 : CB (Xof h) p n f s s' := (CB0 t3).trans r3
    have R2 : RB (Xc 218 (40 * p + h)) p n e d u u' := (RB0 t4).trans r4
    refine ⟨v, s', u', r1, by rw [r2, cal_s], CBo C2, RBc (by omega) R2, ?_⟩
    rcases r5 with ⟨rfl, k1, un1, f1, e1, a1, a2, a3, a4, a5⟩ | ⟨rfl, fl⟩
    · exact Or.inl ⟨rfl, k1, un1, f1, e1, by omega, a2, a3, a4, a5, hL.to hh C2 R2 (nXof (by omega)) (nXc (by omega))⟩
    · exact Or.inr ⟨rfl, fl.up (by omega)⟩
  · rw [if_pos rfl, b_end b1.b, cal_s]
    exact ⟨0, s2, u2, rfl, rfl, CB0 t3, RB0 t4, Or.inr ⟨rfl, b1⟩⟩
