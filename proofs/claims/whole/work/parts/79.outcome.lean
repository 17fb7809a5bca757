/-! texts on both sides: how a statement ends -/
def XS1 (h : Nat) : Nat → Nat → Prop := fun id i => (69 ≤ id ∧ id ≤ 72 ∧ i = h) ∨ (id = 74 ∧ 3 * h ≤ i ∧ i < 3 * h + 3)
def YS1 (p h : Nat) : Nat → Nat → Prop := fun id i => ((id = 218 ∨ (221 ≤ id ∧ id ≤ 223)) ∧ i = 40 * p + h) ∨ ((id = 219 ∨ id = 220) ∧ 3 * (40 * p + h) ≤ i ∧ i < 3 * (40 * p + h) + 3)
def FIN (g : Nat → Nat) (s u : St) (p n f e h : Nat) (K : Int32) : Prop := SC s u p f e h K ∧ (∀ w, w < 3 → BF g s u p n h w) ∧ (K ∈ ([8, 15, 16, 17, 18, 20, 23] : List Int32) → u.1 220 0 (3 * (40 * p + h) + 0) = 1) ∧ (K ∈ ([18, 20] : List Int32) → u.1 220 0 (3 * (40 * p + h) + 1) = 1) ∧ (K = 20 → u.1 220 0 (3 * (40 * p + h) + 2) = 1)
def KO (sT : St) (z cnt : Nat) (E : Nat → Nat) (p d h : Nat) (K : Int32) (s u : St) (k n f e : Nat) (g : Nat → Nat) (c : Option (Int32 × St)) (run : Nat → Option St) : Prop :=
  ∃ v s', c = some (v, s') ∧ CB (XS1 h) p (h + 1) f s s' ∧ ((v = 1 ∧ ∃ u' k' n' un' f' e' g' m, k ≤ k' ∧ m ≤ k' - k ∧ n ≤ n' ∧ f ≤ f' ∧ e ≤ e' ∧ BS sT z cnt E p s' u' k' n' un' f' e' d ∧ RB (YS1 p h) p (h + 1) e d u u' ∧ (∀ a, a < h + 1 → g' a = g a) ∧ (∀ a, h + 1 ≤ a → a < n' → StX g' s' u' p n' f' e' a) ∧ FIN g' s' u' p n' f' e' h K ∧ ∀ N, run (N + m) = r_readText_40 N u') ∨ (v = 0 ∧ FT sT cnt p (h + 1) e d (YS1 p h) k u s' run))
theorem KO.pre {sT : St} {z cnt p d h k n f e k1 n1 f1 e1 m : Nat} {E : Nat → Nat} {K : Int32} {s u s1 u1 : St} {g g1 : Nat → Nat} {c : Option (Int32 × St)} {run run1 : Nat → Option St} (C : CB (XS1 h) p (h + 1) f s s1) (R : RB (YS1 p h) p (h + 1) e d u u1) (hk : k ≤ k1) (hn : n ≤ n1) (hf : f ≤ f1) (he : e ≤ e1) (hm : m ≤ k1 - k) (hg : ∀ a, a < h + 1 → g1 a = g a) (hr : ∀ N, run (N + m) = run1 N) (h1 : KO sT z cnt E p d h K s1 u1 k1 n1 f1 e1 g1 c run1) : KO sT z cnt E p d h K s u k n f e g c run := by
  obtain ⟨v, s', a1, a2, a3⟩ := h1
  refine ⟨v, s', a1, C.trans (a2.mono (fun _ _ t => Or.inl t) (Nat.le_refl _) hf), ?_⟩
  rcases a3 with ⟨rfl, u', k', n', un', f', e', g', m', b1, b2, b3, b4, b5, b6, b7, b8, b9, b10, b11⟩ | ⟨rfl, k', u', m', b1, b2, b3, b4, b5, b6, b7, b8⟩
  · exact Or.inl ⟨rfl, u', k', n', un', f', e', g', m' + m, by omega, by omega, by omega, by omega, by omega, b6, R.trans (b7.mono (fun _ _ t => Or.inl t) (Nat.le_refl _) he (Nat.le_refl _)), fun a ha => (b8 a ha).trans (hg a ha), b9, b10, fun N => by rw [show N + (m' + m) = (N + m') + m by omega, hr, b11]⟩
  · exact Or.inr ⟨rfl, k', u', m' + m, by omega, b2, b3, b4, b5, R.trans (b6.mono (fun _ _ t => Or.inl t) (Nat.le_refl _) he (Nat.le_refl _)), by omega, fun N => by rw [show N + (m' + m) = (N + m') + m by omega, hr, b8]⟩
theorem KO.end {sT : St} {z cnt p d h k n un f e : Nat} {E : Nat → Nat} {K : Int32} {s u : St} {g : Nat → Nat} {run : Nat → Option St} (H : BS sT z cnt E p s u k n un f e d) (st : ∀ a, h + 1 ≤ a → a < n → StX g s u p n f e a) (F : FIN g s u p n f e h K) (hr : ∀ N, run N = r_readText_40 N u) : KO sT z cnt E p d h K s u k n f e g (some (1, s)) run :=
  ⟨1, s, rfl, CB.refl s, Or.inl ⟨rfl, u, k, n, un, f, e, g, 0, Nat.le_refl _, Nat.zero_le _, Nat.le_refl _, Nat.le_refl _, Nat.le_refl _, H, RB.refl u, fun _ _ => rfl, st, F, hr⟩⟩
theorem KO.bad {sT : St} {z cnt p d h k n f e : Nat} {E : Nat → Nat} {K : Int32} {s u s' u' : St} {g : Nat → Nat} {run : Nat → Option St} (fl : FL sT cnt k s' u') (C : CB (XS1 h) p (h + 1) f s s') (R : RB (YS1 p h) p (h + 1) e d u u') (hr : ∀ N, run N = r_readText_40 N u') : KO sT z cnt E p d h K s u k n f e g (some (0, s')) run := by
  obtain ⟨k', a1, a2, a3, a4, a5⟩ := fl
  exact ⟨0, s', rfl, C, Or.inr ⟨rfl, k', u', 1, a1, a2, a3, a4, a5, R, by omega, fun N => by rw [hr]; exact rt_bad a4⟩⟩
theorem cal_id {α : Type} {a : Option α} : (cal a fun s => some s) = a := by cases a <;> rfl
/-- a part that no body is of -/
def FR (s u : St) (p h w : Nat) : Prop := s.1 74 p (3 * h + w) = -2 ∧ u.1 220 0 (3 * (40 * p + h) + w) = 0 ∧ u.1 219 0 (3 * (40 * p + h) + w) = -1
theorem FR.bf {g : Nat → Nat} {s u : St} {p n h w : Nat} (q : FR s u p h w) : BF g s u p n h w := Or.inl ⟨q.1, q.2.1⟩
theorem FR.to {X Y : Nat → Nat → Prop} {s u s' u' : St} {p n h w f e d : Nat} (q : FR s u p h w) (hh : h < n) (hw : w < 3) (C : CB X p n f s s') (R : RB Y p n e d u u') (hX : ¬ X 74 (3 * h + w)) (hY : ¬ Y 219 (3 * (40 * p + h) + w) ∧ ¬ Y 220 (3 * (40 * p + h) + w)) : FR s' u' p h w := by
  unfold FR at *
  rw [C.q4 _ (Or.inl (by omega)) hX, R.qb 219 _ (Or.inl rfl) (Or.inl (by omega)) hY.1, R.qb 220 _ (Or.inr rfl) (Or.inl (by omega)) hY.2]; exact q
theorem DN.to {X Y : Nat → Nat → Prop} {g g' : Nat → Nat} {s u s' u' : St} {p n n' h w f e d : Nat} (q : DN g s u p n h w) (hh : h < n) (hw : w < 3) (hn : n ≤ n') (hg : ∀ a, a < n → g' a = g a) (C : CB X p n f s s') (R : RB Y p n e d u u') (hX : ¬ X 74 (3 * h + w)) (hY : ¬ Y 219 (3 * (40 * p + h) + w) ∧ ¬ Y 220 (3 * (40 * p + h) + w)) : DN g' s' u' p n' h w :=
  ⟨by rw [R.qb 220 _ (Or.inr rfl) (Or.inl (by omega)) hY.2]; exact q.1, q.2.to hh hw hn hh hg C R hX hY⟩
theorem CB1 {h p n f f' : Nat} {s s' : St} (C : CB (Xsc h) p n f' s s') (hn : h + 1 ≤ n) (hf : f ≤ f') : CB (XS1 h) p (h + 1) f s s' := C.mono (fun _ _ t => Or.inl (Or.inl t)) hn hf
theorem RB1 {h p n e e' d : Nat} {s s' : St} (C : RB (Ysc p h) p n e' d s s') (hn : h + 1 ≤ n) (he : e ≤ e') : RB (YS1 p h) p (h + 1) e d s s' := C.mono (fun _ _ t => Or.inl (Or.inl t)) hn he (Nat.le_refl _)
theorem CBb {h p n f w : Nat} {s s' : St} (C : CB (Xc 74 (3 * h + w)) p n f s s') (hw : w < 3) (hn : h + 1 ≤ n) : CB (XS1 h) p (h + 1) f s s' := C.mono (fun _ _ t => Or.inl (Or.inr ⟨t.1, by have := t.2; omega, by have := t.2; omega⟩)) hn (Nat.le_refl _)
theorem RBb {h p n e d w : Nat} {s s' : St} (C : RB (Yb p h w) p n e d s s') (hw : w < 3) (hn : h + 1 ≤ n) : RB (YS1 p h) p (h + 1) e d s s' := C.mono (fun _ _ t => Or.inl (Or.inr ⟨t.1, by have := t.2; omega, by have := t.2; omega⟩)) hn (Nat.le_refl _) (Nat.le_refl _)
theorem KO.body {sT : St} {z cnt p d h k n un f e w nF : Nat} {E : Nat → Nat} {K R : Int32} {s u : St} {g : Nat → Nat} {c : Option (Int32 × St)} {C : St → Option (Int32 × St)} {fB : Fx3} (IB : GB sT z cnt E p nF fB) (H : BS sT z cnt E p s u k n un f e d) (hh : h < n) (hw : w < 3) (h9 : u.1 219 0 (3 * (40 * p + h) + w) = -1) (hg : g h = d) (h6 : u.1 216 0 (40 * p + h) = R) (hF : 1 + 4 * (8 - d) ≤ nF) (st : ∀ a, h + 1 ≤ a → a < n → StX g s u p n f e a)
    (c0 : ∀ s', fB (nI h) (nI w) (nI d) s = some (0, s') → c = some (0, s')) (c1 : ∀ s', fB (nI h) (nI w) (nI d) s = some (1, s') → c = C s')
    (rest : ∀ s' u' k' n' un' f' e' g', k < k' → n ≤ n' → f ≤ f' → e ≤ e' → BS sT z cnt E p s' u' k' n' un' f' e' d → CB (Xc 74 (3 * h + w)) p n f s s' → RB (Yb p h w) p n e d u u' → (∀ a, a < n → g' a = g a) → (∀ a, h + 1 ≤ a → a < n' → StX g' s' u' p n' f' e' a) → DN g' s' u' p n' h w → KO sT z cnt E p d h K s' u' k' n' f' e' g' (C s') (fun N => cal (RC (nI (40 * p + h)) (nI w) R u') (r_readText_40 N))) :
    KO sT z cnt E p d h K s u k n f e g c (fun N => cal (r_openBody (nI (40 * p + h)) (nI w) u) (r_readText_40 N)) := by
  have n4 := H.n4
  obtain ⟨v, s', a1, a2, a3⟩ := IB d h w s u k n un f e g R H hh hw h9 hg h6 hF
  rcases a3 with ⟨rfl, u', k', n', un', f', e', g', m, b1, b2, b3, b4, b5, b6, b7, b8, b9, b10, b11⟩ | ⟨rfl, k', u', m, b1, b2, b3, b4, b5, b6, b7, b8⟩
  · rw [c1 s' a1]
    have st' : ∀ a, h + 1 ≤ a → a < n' → StX g' s' u' p n' f' e' a := fun a h1 h2 => by
      rcases Nat.lt_or_ge a n with h3 | h3
      · exact (st a h1 h3).to h3 h3 b3 b8 a2 b7 b4 b5 (fun id i1 i2 t => by have := t.1; omega) (fun w' hw' t => by have := t.2; omega) (fun id i1 i2 i3 i4 t => by have := t.1; omega) (fun id w' i1 i2 t => by have := t.2; omega)
      · exact b9 a h3 h2
    exact KO.pre (CBb a2 hw hh) (RBb b7 hw hh) (by omega) b3 b4 b5 b2 (fun a ha => b8 a (by omega)) b11 (rest s' u' k' n' un' f' e' g' b1 b3 b4 b5 b6 a2 b7 b8 st' b10)
  · rw [c0 s' a1]
    exact ⟨0, s', rfl, CBb a2 hw hh, Or.inr ⟨rfl, k', u', m, b1, b2, b3, b4, b5, RBb b6 hw hh, b7, b8⟩⟩
/-! what closes a body, by its kind -/
theorem rc_pl {x w R : Int32} {u : St} (h : (¬ R = 1 ∧ ¬ R = 13 ∧ ¬ R = 15 ∧ ¬ R = 18) ∨ (¬ R = 15 ∧ ¬ w = 0) ∨ (R = 15 ∧ w = 2)) : RC x w R u = some u := by
  have h117 : (¬ w = 0 ∨ (¬ R = 1 ∧ ¬ R = 18)) → r_closeBody_117 x w R u = some u := fun t => by
    unfold r_closeBody_117 r_closeBody_128
    rcases t with t | ⟨t1, t2⟩
    · rw [if_neg t]; split
      · rfl
      · split <;> rfl
    · rw [if_neg t1, if_neg t2]
  unfold RC r_closeBody_78
  rcases h with ⟨t1, t2, t3, t4⟩ | ⟨t1, t2⟩ | ⟨rfl, rfl⟩
  · rw [if_neg t3, if_neg t2]; exact h117 (Or.inr ⟨t1, t4⟩)
  · rw [if_neg t1, if_neg t2]
    split
    · exact h117 (Or.inl t2)
    · exact h117 (Or.inl t2)
  · rw [if_pos rfl, if_pos (by decide), if_neg (by decide)]; exact h117 (Or.inl (by decide))
theorem rc_128 {x R : Int32} {u : St} (h : R = 1 ∨ R = 18) : RC x 0 R u = (bnd (u.1 203 0 0) fun v10 => if v10 = (12 : Int32) then (cal (r_next u) fun s11 => cal (r_openBody x (1 : Int32) s11) fun s13 => some s13) else (some u)) := by
  unfold RC r_closeBody_78 r_closeBody_117 r_closeBody_128
  rcases h with rfl | rfl
  · rw [if_neg (by decide), if_neg (by decide), if_pos rfl, if_pos rfl]
  · rw [if_neg (by decide), if_neg (by decide), if_neg (by decide), if_pos rfl, if_pos rfl]
def GM (sT : St) (z cnt : Nat) (E : Nat → Nat) (p : Nat) (nF : Nat) (F : Fx2) : Prop := ∀ (d h : Nat) (s u : St) (k n un f e : Nat) (g : Nat → Nat) (R : Int32), BS sT z cnt E p s u k n un f e d → h < n → R = 1 ∨ R = 18 → u.1 216 0 (40 * p + h) = R → g h = d → u.1 219 0 (3 * (40 * p + h) + 1) = -1 → 2 + 4 * (8 - d) ≤ nF →
  ∃ v s', F (nI h) (nI d) s = some (v, s') ∧ CB (Xc 74 (3 * h + 1)) p n f s s' ∧ ((v = 1 ∧ ∃ u' k' n' un' f' e' g' m, k ≤ k' ∧ m ≤ k' - k ∧ n ≤ n' ∧ f ≤ f' ∧ e ≤ e' ∧ BS sT z cnt E p s' u' k' n' un' f' e' d ∧ RB (Yb p h 1) p n e d u u' ∧ (∀ a, a < n → g' a = g a) ∧ (∀ a, n ≤ a → a < n' → StX g' s' u' p n' f' e' a) ∧ ((s'.1 74 p (3 * h + 1) = s.1 74 p (3 * h + 1) ∧ u'.1 220 0 (3 * (40 * p + h) + 1) = u.1 220 0 (3 * (40 * p + h) + 1)) ∨ DN g' s' u' p n' h 1) ∧ ∀ N, cal (RC (nI (40 * p + h)) 0 R u) (r_readText_40 (N + m)) = r_readText_40 N u') ∨
    (v = 0 ∧ FT sT cnt p n e d (Yb p h 1) k u s' (fun N => cal (RC (nI (40 * p + h)) 0 R u) (r_readText_40 N))))
theorem gM' {sT : St} {z cnt p nF : Nat} {E : Nat → Nat} {fS : Fx3} {fT : Fx1} {fB : Fx3} {fM : Fx2} (X : CX sT z cnt E) (IB : GB sT z cnt E p nF fB) : GM sT z cnt E p (nF + 1) (k_mayHaveElse fS fT fB fM) := by
  intro d h s u k n un f e g R H hh hR h6 hg h9 hF
  unfold k_mayHaveElse k_mayHaveElse_19
  rw [k_is_eq X H.at, rc_128 hR, bnd_d]
  have tw := tv_word (w := 2) H.at.tv (by decide)
  by_cases q : KK sT k = 7
  · rw [if_pos q, cal2_s, if_neg (by decide), if_pos (show u.1 203 0 0 = 12 from tw.mpr q)]
    obtain ⟨u1, r1, r2, r3⟩ := H.nx X (by rw [q]; decide)
    obtain ⟨v, s', a1, a2, a3⟩ := IB d h 1 _ u1 (k + 1) n un f e g R r3 hh (by omega) (by rw [r2.1 219 (by omega)]; exact h9) hg (by rw [r2.1 216 (by omega)]; exact h6) (by omega)
    rw [show fB (nI h) 1 (nI d) _ = _ from a1, cal2_s, r1, cal_s, cal_id]
    have C0 : CB (Xc 74 (3 * h + 1)) p n f s s' := (CB_at (CB.refl s)).trans a2
    rcases a3 with ⟨rfl, u', k', n', un', f', e', g', m, b1, b2, b3, b4, b5, b6, b7, b8, b9, b10, b11⟩ | ⟨rfl, k', u', m, b1, b2, b3, b4, b5, b6, b7, b8⟩
    · rw [if_neg (by decide)]
      refine ⟨1, s', rfl, C0, Or.inl ⟨rfl, u', k', n', un', f', e', g', m, by omega, by omega, b3, b4, b5, b6, ((RB.refl u).fx r2).trans b7, b8, b9, Or.inr b10, fun N => ?_⟩⟩
      have b11 := b11 N
      rw [rc_pl (Or.inr (Or.inl ⟨by rcases hR with rfl | rfl <;> decide, by decide⟩)), cal_s] at b11
      exact b11
    · rw [if_pos rfl]
      exact ⟨0, s', rfl, C0, Or.inr ⟨rfl, k', u', m, by omega, b2, b3, b4, b5, ((RB.refl u).fx r2).trans b6, by omega, b8⟩⟩
  · rw [if_neg q, cal2_s, if_pos rfl, if_neg (show ¬ u.1 203 0 0 = 12 from fun t => q (tw.mp t))]
    exact ⟨1, s, rfl, CB.refl s, Or.inl ⟨rfl, u, k, n, un, f, e, g, 0, Nat.le_refl _, Nat.zero_le _, Nat.le_refl _, Nat.le_refl _, Nat.le_refl _, H, RB.refl u, fun _ _ => rfl, fun a h1 h2 => by omega, Or.inl ⟨rfl, rfl⟩, fun N => rfl⟩⟩
