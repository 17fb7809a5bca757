/-! texts on both sides: every kind of statement -/
theorem bf3 {g : Nat → Nat} {s u : St} {p n h : Nat} (b0 : BF g s u p n h 0) (b1 : BF g s u p n h 1) (b2 : BF g s u p n h 2) : ∀ w, w < 3 → BF g s u p n h w := fun w hw => by
  rcases (by omega : w = 0 ∨ w = 1 ∨ w = 2) with rfl | rfl | rfl
  · exact b0
  · exact b1
  · exact b2
theorem nXs {h i : Nat} : ¬ Xsc h 74 i := fun t => by have := t.2.1; omega
theorem nYs {p h i : Nat} : ¬ Ysc p h 219 i ∧ ¬ Ysc p h 220 i := ⟨fun t => by have := t.1; omega, fun t => by have := t.1; omega⟩
theorem nXb {h w id i : Nat} (q : ¬ (id = 74 ∧ i = 3 * h + w)) : ¬ Xc 74 (3 * h + w) id i := q
theorem nYb {p h w id i : Nat} (q : ¬ ((id = 219 ∨ id = 220) ∧ i = 3 * (40 * p + h) + w)) : ¬ Yb p h w id i := q
theorem r6 {Y : Nat → Nat → Prop} {p n e d h : Nat} {u u' : St} {R : Int32} (r : RB Y p n e d u u') (hh : h < n) (h6 : u.1 216 0 (40 * p + h) = R) (hY : ¬ Y 216 (40 * p + h)) : u'.1 216 0 (40 * p + h) = R := by
  rw [r.qs 216 _ (by omega) (by omega) (by omega) (by omega) (by omega) hY]; exact h6
theorem ko_it {sT : St} {z cnt p d h k f e : Nat} {E : Nat → Nat} {K v : Int32} {s u s' u' : St} {g : Nat → Nat} {c : Option (Int32 × St)} {run : Nat → Option St} {Q : St → St → Nat → Nat → Prop} (I : IT sT z cnt E p d h Q s u k (h + 1) f e v s' u') (hc : c = some (v, s')) (hr : ∀ N, run N = r_readText_40 N u') (fr : ∀ w, w < 3 → FR s u p h w) (hK : ¬ K ∈ ([8, 15, 16, 17, 18, 20, 23] : List Int32) ∧ ¬ K ∈ ([18, 20] : List Int32) ∧ ¬ K = 20) (hq : ∀ s' u' f' e', Q s' u' f' e' → SC s' u' p f' e' h K) : KO sT z cnt E p d h K s u k (h + 1) f e g c run := by
  obtain ⟨a1, a2, a3⟩ := I
  rw [hc]
  rcases a3 with ⟨rfl, k', un', f', e', b1, b2, b3, b4, b5⟩ | ⟨rfl, fl⟩
  · refine ⟨1, s', rfl, CB1 a1 (Nat.le_refl _) (Nat.le_refl _), Or.inl ⟨rfl, u', k', h + 1, un', f', e', g, 0, b1, by omega, Nat.le_refl _, b2, b3, b4, RB1 a2 (Nat.le_refl _) (Nat.le_refl _), fun _ _ => rfl, fun a h1 h2 => by omega, ⟨hq _ _ _ _ b5, fun w hw => ((fr w hw).to (Nat.lt_succ_self _) hw a1 a2 nXs nYs).bf, fun t => absurd t hK.1, fun t => absurd t hK.2.1, fun t => absurd t hK.2.2⟩, hr⟩⟩
  · exact KO.bad fl (CB1 a1 (Nat.le_refl _) (Nat.le_refl _)) (RB1 a2 (Nat.le_refl _) (Nat.le_refl _)) hr
theorem ko_cond {sT : St} {z cnt p d h k un f e : Nat} {E : Nat → Nat} {K : Int32} {s u : St} {g : Nat → Nat} {c : Option (Int32 × St)} {C : St → Option (Int32 × St)} (X : CX sT z cnt E) (hp : p < 12) (H : BS sT z cnt E p s u k (h + 1) un f e d) (c0 : ∀ s', k_isCondition (nI h) s = some (0, s') → c = some (0, s')) (c1 : ∀ s', k_isCondition (nI h) s = some (1, s') → c = C s')
    (rest : ∀ s' u' k' un' f' e', f ≤ f' → e ≤ e' → BS sT z cnt E p s' u' k' (h + 1) un' f' e' d → CB (Xsc h) p (h + 1) f s s' → RB (Ysc p h) p (h + 1) e d u u' → XPF s' u' p h f' e' → KO sT z cnt E p d h K s' u' k' (h + 1) f' e' g (C s') (fun N => cal (r_openBody (nI (40 * p + h)) 0 u') (r_readText_40 N))) :
    KO sT z cnt E p d h K s u k (h + 1) f e g c (fun N => cal (r_readStatement_254 (nI (40 * p + h)) u) (r_readText_40 N)) := by
  obtain ⟨v, s', u', a1, a2, a3, a4, a5⟩ := sk_cond X hp H (Nat.lt_succ_self h)
  have hr : ∀ N, cal (r_readStatement_254 (nI (40 * p + h)) u) (r_readText_40 N) = cal (r_openBody (nI (40 * p + h)) 0 u') (r_readText_40 N) := fun N => by rw [a2, cal_id]
  rcases a5 with ⟨rfl, k', un', f', e', b1, b2, b3, b4, b5⟩ | ⟨rfl, fl⟩
  · rw [c1 s' a1]
    exact KO.pre (m := 0) (CB1 a3 (Nat.le_refl _) (Nat.le_refl _)) (RB1 a4 (Nat.le_refl _) (Nat.le_refl _)) b1 (Nat.le_refl _) b2 b3 (by omega) (fun _ _ => rfl) hr (rest s' u' k' un' f' e' b2 b3 b4 a3 a4 b5)
  · rw [c0 s' a1]
    exact KO.bad fl (CB1 a3 (Nat.le_refl _) (Nat.le_refl _)) (RB1 a4 (Nat.le_refl _) (Nat.le_refl _)) (fun N => by rw [hr, b_open fl.b, cal_s])
theorem ko_else {sT : St} {z cnt p d h k n un f e nF : Nat} {E : Nat → Nat} {K R : Int32} {s u : St} {g : Nat → Nat} {c : Option (Int32 × St)} {fM : Fx2} (IM : GM sT z cnt E p nF fM) (H : BS sT z cnt E p s u k n un f e d) (hh : h < n) (hR : R = 1 ∨ R = 18) (h6 : u.1 216 0 (40 * p + h) = R) (hg : g h = d) (fr : FR s u p h 1) (hF : 2 + 4 * (8 - d) ≤ nF) (st : ∀ a, h + 1 ≤ a → a < n → StX g s u p n f e a)
    (c0 : ∀ s', fM (nI h) (nI d) s = some (0, s') → c = some (0, s')) (c1 : ∀ s', fM (nI h) (nI d) s = some (1, s') → c = some (1, s'))
    (fin : ∀ s' u' n' f' e' g', n ≤ n' → f ≤ f' → e ≤ e' → CB (Xc 74 (3 * h + 1)) p n f s s' → RB (Yb p h 1) p n e d u u' → (∀ a, a < n → g' a = g a) → BF g' s' u' p n' h 1 → FIN g' s' u' p n' f' e' h K) :
    KO sT z cnt E p d h K s u k n f e g c (fun N => cal (RC (nI (40 * p + h)) 0 R u) (r_readText_40 N)) := by
  obtain ⟨v, s', a1, a2, a3⟩ := IM d h s u k n un f e g R H hh hR h6 hg fr.2.2 hF
  rcases a3 with ⟨rfl, u', k', n', un', f', e', g', m, b1, b2, b3, b4, b5, b6, b7, b8, b9, b10, b11⟩ | ⟨rfl, k', u', m, b1, b2, b3, b4, b5, b6, b7, b8⟩
  · rw [c1 s' a1]
    have st' : ∀ a, h + 1 ≤ a → a < n' → StX g' s' u' p n' f' e' a := fun a h1 h2 => by
      rcases Nat.lt_or_ge a n with h3 | h3
      · exact (st a h1 h3).to h3 h3 b3 b8 a2 b7 b4 b5 (fun id i1 i2 t => by have := t.1; omega) (fun w' hw' t => by have := t.2; omega) (fun id i1 i2 i3 i4 t => by have := t.1; omega) (fun id w' i1 i2 t => by have := t.2; omega)
      · exact b9 a h3 h2
    refine ⟨1, s', rfl, CBb a2 (by omega) hh, Or.inl ⟨rfl, u', k', n', un', f', e', g', m, b1, b2, b3, b4, b5, b6, RBb b7 (by omega) hh, fun a ha => b8 a (by omega), st', fin s' u' n' f' e' g' b3 b4 b5 a2 b7 b8 ?_, b11⟩⟩
    rcases b10 with ⟨t1, t2⟩ | t
    · exact Or.inl ⟨by rw [t1]; exact fr.1, by rw [t2]; exact fr.2.1⟩
    · exact t.2
  · rw [c0 s' a1]
    exact ⟨0, s', rfl, CBb a2 (by omega) hh, Or.inr ⟨rfl, k', u', m, b1, b2, b3, b4, b5, RBb b6 (by omega) hh, b7, b8⟩⟩
theorem sc_v {s u : St} {p f e h : Nat} {K : Int32} (hK : ¬ K ∈ ([2, 9, 18] : List Int32) ∧ ¬ K ∈ ([9, 11] : List Int32) ∧ ¬ K = 14 ∧ ¬ K = 23) (hx : K ∈ ([2, 5, 6, 8, 11, 13, 14] : List Int32) → XPF s u p h f e) : SC s u p f e h K := ⟨fun q => absurd q hK.1, fun q => absurd q hK.2.1, fun q => absurd q hK.2.2.1, fun q => absurd q hK.2.2.2, hx⟩
/-- MASK, HARD, OPEN -/
theorem ko_def {sT : St} {z cnt p d h k un f e nF : Nat} {E : Nat → Nat} {K R : Int32} {s u : St} {g : Nat → Nat} {fS : Fx3} {fT : Fx1} {fB : Fx3} {fM : Fx2} (IB : GB sT z cnt E p nF fB) (H : BS sT z cnt E p s u k (h + 1) un f e d) (hg : g h = d) (h6 : u.1 216 0 (40 * p + h) = R) (fr : ∀ w, w < 3 → FR s u p h w) (hF : 1 + 4 * (8 - d) ≤ nF) (hK : K ∈ ([15, 16, 17] : List Int32)) (hR : R ∈ ([10, 11, 12] : List Int32)) :
    KO sT z cnt E p d h K s u k (h + 1) f e g (k_statement_530 fS fT fB fM (nI d) (nI h) s) (fun N => cal (r_readStatement_446 (nI (40 * p + h)) u) (r_readText_40 N)) := by
  have e446 : ∀ N, cal (r_readStatement_446 (nI (40 * p + h)) u) (r_readText_40 N) = cal (r_openBody (nI (40 * p + h)) (nI 0) u) (r_readText_40 N) := fun N => by unfold r_readStatement_446; rw [cal_id]; rfl
  simp only [e446]
  have nR : ¬ R = 1 ∧ ¬ R = 13 ∧ ¬ R = 15 ∧ ¬ R = 18 := ⟨fun q => by rw [q] at hR; revert hR; decide, fun q => by rw [q] at hR; revert hR; decide, fun q => by rw [q] at hR; revert hR; decide, fun q => by rw [q] at hR; revert hR; decide⟩
  have nK : (¬ K ∈ ([2, 9, 18] : List Int32) ∧ ¬ K ∈ ([9, 11] : List Int32) ∧ ¬ K = 14 ∧ ¬ K = 23) ∧ (¬ K ∈ ([2, 5, 6, 8, 11, 13, 14] : List Int32)) ∧ ¬ K ∈ ([18, 20] : List Int32) ∧ ¬ K = 20 := by
    simp only [List.mem_cons, List.not_mem_nil, or_false] at hK
    rcases hK with rfl | rfl | rfl <;> decide
  refine KO.body (w := 0) (R := R) (C := fun s' => some (1, s')) IB H (Nat.lt_succ_self h) (by omega) (fr 0 (by omega)).2.2 hg h6 hF (fun a h1 h2 => by omega) (fun s' q => ?_) (fun s' q => ?_) (fun s' u' k' n' un' f' e' g' m1 m2 m3' m4 b1 b2 b3 b4 b5 b6 => ?_)
  · unfold k_statement_530; rw [show fB (nI h) 0 (nI d) s = _ from q, cal2_s, gz zo0]
  · unfold k_statement_530; rw [show fB (nI h) 0 (nI d) s = _ from q, cal2_s, gz zo1]
  · refine KO.end b1 b5 ⟨sc_v nK.1 (fun q => absurd q nK.2.1), bf3 b6.2 ((fr 1 (by omega)).to (Nat.lt_succ_self h) (by omega) b2 b3 (nXb (by omega)) ⟨nYb (by omega), nYb (by omega)⟩).bf ((fr 2 (by omega)).to (Nat.lt_succ_self h) (by omega) b2 b3 (nXb (by omega)) ⟨nYb (by omega), nYb (by omega)⟩).bf, fun _ => b6.1, fun q => absurd q nK.2.2.1, fun q => absurd q nK.2.2.2⟩ (fun N => by rw [rc_pl (Or.inl nR), cal_s])
/-- WHILE -/
theorem ko_while {sT : St} {z cnt p d h k un f e nF : Nat} {E : Nat → Nat} {s u : St} {g : Nat → Nat} {fS : Fx3} {fT : Fx1} {fB : Fx3} {fM : Fx2} (X : CX sT z cnt E) (hp : p < 12) (IB : GB sT z cnt E p nF fB) (H : BS sT z cnt E p s u k (h + 1) un f e d) (hg : g h = d) (h6 : u.1 216 0 (40 * p + h) = 3) (fr : ∀ w, w < 3 → FR s u p h w) (hF : 1 + 4 * (8 - d) ≤ nF) :
    KO sT z cnt E p d h 8 s u k (h + 1) f e g (cal2 (k_isCondition (nI h) s) fun v23 s22 => if v23 = 0 then (k_statement_266 fS fT fB fM s22) else (cal2 (fB (nI h) (0 : Int32) (nI d) s22) fun v25 s24 => if v25 = 0 then (k_statement_266 fS fT fB fM s24) else (some ((1 : Int32), s24)))) (fun N => cal (r_readStatement_254 (nI (40 * p + h)) u) (r_readText_40 N)) := by
  unfold k_statement_266
  refine ko_cond (C := fun s' => (cal2 (fB (nI h) (0 : Int32) (nI d) s') fun v25 s24 => if v25 = 0 then some (0, s24) else (some ((1 : Int32), s24)))) X hp H (fun s' q => by rw [q, cal2_s, if_pos rfl]) (fun s' q => by rw [q, cal2_s, if_neg (by decide)]) (fun s1 u1 k1 un1 f1 e1 l1 l2 a1 a2 a3 a4 => ?_)
  have fr1 : ∀ w, w < 3 → FR s1 u1 p h w := fun w hw => (fr w hw).to (Nat.lt_succ_self h) hw a2 a3 nXs nYs
  refine KO.body (w := 0) (R := 3) (C := fun s' => some (1, s')) IB a1 (Nat.lt_succ_self h) (by omega) (fr1 0 (by omega)).2.2 hg (r6 a3 (Nat.lt_succ_self h) h6 (fun t => by have := t.1; omega)) hF (fun a h1 h2 => by omega) (fun s' q => by rw [show fB (nI h) 0 (nI d) s1 = _ from q, cal2_s, if_pos rfl]) (fun s' q => by rw [show fB (nI h) 0 (nI d) s1 = _ from q, cal2_s, if_neg (by decide)]) (fun s' u' k' n' un' f' e' g' m1 m2 m3' m4 b1 b2 b3 b4 b5 b6 => ?_)
  refine KO.end b1 b5 ⟨sc_v (by decide) (fun _ => a4.to (Nat.lt_succ_self h) b2 b3 m3' m4 ⟨nXb (by omega), nXb (by omega)⟩ (nYb (by omega))), bf3 b6.2 ((fr1 1 (by omega)).to (Nat.lt_succ_self h) (by omega) b2 b3 (nXb (by omega)) ⟨nYb (by omega), nYb (by omega)⟩).bf ((fr1 2 (by omega)).to (Nat.lt_succ_self h) (by omega) b2 b3 (nXb (by omega)) ⟨nYb (by omega), nYb (by omega)⟩).bf, fun _ => b6.1, fun q => absurd q (by decide), fun q => absurd q (by decide)⟩ (fun N => by rw [rc_pl (Or.inl (by decide)), cal_s])
/-- IF -/
theorem ko_if {sT : St} {z cnt p d h k un f e nF : Nat} {E : Nat → Nat} {s u : St} {g : Nat → Nat} {fS : Fx3} {fT : Fx1} {fB : Fx3} {fM : Fx2} (X : CX sT z cnt E) (hp : p < 12) (IB : GB sT z cnt E p nF fB) (IM : GM sT z cnt E p nF fM) (H : BS sT z cnt E p s u k (h + 1) un f e d) (hg : g h = d) (h6 : u.1 216 0 (40 * p + h) = 1) (fr : ∀ w, w < 3 → FR s u p h w) (hF : 2 + 4 * (8 - d) ≤ nF) :
    KO sT z cnt E p d h 6 s u k (h + 1) f e g (cal2 (k_isCondition (nI h) s) fun v17 s16 => if v17 = 0 then (k_statement_242 fS fT fB fM s16) else (cal2 (fB (nI h) (0 : Int32) (nI d) s16) fun v19 s18 => if v19 = 0 then (k_statement_242 fS fT fB fM s18) else (cal2 (fM (nI h) (nI d) s18) fun v21 s20 => if v21 = 0 then (k_statement_242 fS fT fB fM s20) else (some ((1 : Int32), s20))))) (fun N => cal (r_readStatement_254 (nI (40 * p + h)) u) (r_readText_40 N)) := by
  unfold k_statement_242
  refine ko_cond (C := fun s' => (cal2 (fB (nI h) (0 : Int32) (nI d) s') fun v19 s18 => if v19 = 0 then some (0, s18) else (cal2 (fM (nI h) (nI d) s18) fun v21 s20 => if v21 = 0 then some (0, s20) else (some ((1 : Int32), s20))))) X hp H (fun s' q => by rw [q, cal2_s, if_pos rfl]) (fun s' q => by rw [q, cal2_s, if_neg (by decide)]) (fun s1 u1 k1 un1 f1 e1 l1 l2 a1 a2 a3 a4 => ?_)
  have fr1 : ∀ w, w < 3 → FR s1 u1 p h w := fun w hw => (fr w hw).to (Nat.lt_succ_self h) hw a2 a3 nXs nYs
  have h61 := r6 a3 (Nat.lt_succ_self h) h6 (fun t => by have := t.1; omega)
  refine KO.body (w := 0) (R := 1) (C := fun s' => (cal2 (fM (nI h) (nI d) s') fun v21 s20 => if v21 = 0 then some (0, s20) else (some ((1 : Int32), s20)))) IB a1 (Nat.lt_succ_self h) (by omega) (fr1 0 (by omega)).2.2 hg h61 (by omega) (fun a h1 h2 => by omega) (fun s' q => by rw [show fB (nI h) 0 (nI d) s1 = _ from q, cal2_s, if_pos rfl]) (fun s' q => by rw [show fB (nI h) 0 (nI d) s1 = _ from q, cal2_s, if_neg (by decide)]) (fun s2 u2 k2 n2 un2 f2 e2 g2 m1 m2 m3' m4 b1 b2 b3 b4 b5 b6 => ?_)
  have xp2 : XPF s2 u2 p h f2 e2 := a4.to (Nat.lt_succ_self h) b2 b3 m3' m4 ⟨nXb (by omega), nXb (by omega)⟩ (nYb (by omega))
  have fr2 : ∀ w, w < 3 → w ≠ 0 → FR s2 u2 p h w := fun w hw h0 => (fr1 w hw).to (Nat.lt_succ_self h) hw b2 b3 (nXb (by omega)) ⟨nYb (by omega), nYb (by omega)⟩
  refine ko_else IM b1 m2 (Or.inl rfl) (r6 b3 (Nat.lt_succ_self h) h61 (nYb (by omega))) (by rw [b4 h (Nat.lt_succ_self h)]; exact hg) (fr2 1 (by omega) (by omega)) hF b5 (fun s' q => by rw [q, cal2_s, if_pos rfl]) (fun s' q => by rw [q, cal2_s, if_neg (by decide)]) (fun s' u' n' f' e' g' l3 l4 l5 c1 c2 c3 c4 => ?_)
  exact ⟨sc_v (by decide) (fun _ => xp2.to m2 c1 c2 l4 l5 ⟨nXb (by omega), nXb (by omega)⟩ (nYb (by omega))), bf3 (b6.to m2 (by omega) l3 c3 c1 c2 (nXb (by omega)) ⟨nYb (by omega), nYb (by omega)⟩).2 c4 ((fr2 2 (by omega) (by omega)).to m2 (by omega) c1 c2 (nXb (by omega)) ⟨nYb (by omega), nYb (by omega)⟩).bf, fun q => absurd q (by decide), fun q => absurd q (by decide), fun q => absurd q (by decide)⟩
/-- WITHIN -/
theorem ko_within {sT : St} {z cnt p d h k un f e nF : Nat} {E : Nat → Nat} {s u : St} {g : Nat → Nat} {fS : Fx3} {fT : Fx1} {fB : Fx3} {fM : Fx2} (X : CX sT z cnt E) (hp : p < 12) (IB : GB sT z cnt E p nF fB) (IM : GM sT z cnt E p nF fM) (H : BS sT z cnt E p s u k (h + 1) un f e d) (hg : g h = d) (h6 : u.1 216 0 (40 * p + h) = 18) (fr : ∀ w, w < 3 → FR s u p h w) (hF : 2 + 4 * (8 - d) ≤ nF) :
    KO sT z cnt E p d h 23 s u k (h + 1) f e g (cal2 (k_isNumberOf (nI h) (4 : Int32) (1000000000 : Int32) s) fun v69 s68 => if v69 = 0 then (k_statement_528 fS fT fB fM s68) else (cal2 (fB (nI h) (0 : Int32) (nI d) s68) fun v71 s70 => if v71 = 0 then (k_statement_528 fS fT fB fM s70) else (cal2 (fM (nI h) (nI d) s70) fun v73 s72 => if v73 = 0 then (k_statement_528 fS fT fB fM s72) else (some ((1 : Int32), s72))))) (fun N => cal (cal (r_takeNumber (nI (40 * p + h)) (999999999 : Int64) u) fun s59 => cal (r_openBody (nI (40 * p + h)) (0 : Int32) s59) fun s61 => some s61) (r_readText_40 N)) := by
  unfold k_statement_528
  have n4 := H.n4
  obtain ⟨v, s1, u1, a1, a2, a3, a4, a5⟩ := it_num (o := h) (B := 1000000000) X hp H (by omega) (by decide) hb9
  rw [show k_isNumberOf (nI h) 4 1000000000 s = _ from a1, cal2_s, a2, cal_s, cal_id]
  have C1 : CB (Xsc h) p (h + 1) f s s1 := CBc (by omega) a3
  have R1 : RB (Ysc p h) p (h + 1) e d u u1 := RBc (by omega) a4
  rcases a5 with ⟨rfl, H1, nm⟩ | ⟨rfl, fl⟩
  · rw [if_neg (by decide)]
    have fr1 : ∀ w, w < 3 → FR s1 u1 p h w := fun w hw => (fr w hw).to (Nat.lt_succ_self h) hw C1 R1 nXs nYs
    have h61 := r6 a4 (Nat.lt_succ_self h) h6 (nXc (by omega))
    refine KO.pre (m := 0) (CB1 C1 (Nat.le_refl _) (Nat.le_refl _)) (RB1 R1 (Nat.le_refl _) (Nat.le_refl _)) (Nat.le_succ k) (Nat.le_refl _) (Nat.le_refl _) (Nat.le_refl _) (by omega) (fun _ _ => rfl) (fun N => rfl) ?_
    refine KO.body (w := 0) (R := 18) (C := fun s' => (cal2 (fM (nI h) (nI d) s') fun v21 s20 => if v21 = 0 then some (0, s20) else (some ((1 : Int32), s20)))) IB H1 (Nat.lt_succ_self h) (by omega) (fr1 0 (by omega)).2.2 hg h61 (by omega) (fun a h1 h2 => by omega) (fun s' q => by rw [show fB (nI h) 0 (nI d) s1 = _ from q, cal2_s, if_pos rfl]) (fun s' q => by rw [show fB (nI h) 0 (nI d) s1 = _ from q, cal2_s, if_neg (by decide)]) (fun s2 u2 k2 n2 un2 f2 e2 g2 m1 m2 m3' m4 b1 b2 b3 b4 b5 b6 => ?_)
    have nm2 : NMF 1000000000 s2 u2 p h := (show NMF 1000000000 s1 u1 p h from nm).to (Nat.lt_succ_self h) b2 b3 (nXb (by omega)) (nYb (by omega))
    have fr2 : ∀ w, w < 3 → w ≠ 0 → FR s2 u2 p h w := fun w hw h0 => (fr1 w hw).to (Nat.lt_succ_self h) hw b2 b3 (nXb (by omega)) ⟨nYb (by omega), nYb (by omega)⟩
    refine ko_else IM b1 m2 (Or.inr rfl) (r6 b3 (Nat.lt_succ_self h) h61 (nYb (by omega))) (by rw [b4 h (Nat.lt_succ_self h)]; exact hg) (fr2 1 (by omega) (by omega)) hF b5 (fun s' q => by rw [q, cal2_s, if_pos rfl]) (fun s' q => by rw [q, cal2_s, if_neg (by decide)]) (fun s' u' n' f' e' g' l3 l4 l5 c1 c2 c3 c4 => ?_)
    have dn := b6.to m2 (by omega) l3 c3 c1 c2 (nXb (by omega)) ⟨nYb (by omega), nYb (by omega)⟩
    exact ⟨⟨fun q => absurd q (by decide), fun q => absurd q (by decide), fun q => absurd q (by decide), fun _ => nm2.to m2 c1 c2 (nXb (by omega)) (nYb (by omega)), fun q => absurd q (by decide)⟩, bf3 dn.2 c4 ((fr2 2 (by omega) (by omega)).to m2 (by omega) c1 c2 (nXb (by omega)) ⟨nYb (by omega), nYb (by omega)⟩).bf, fun _ => dn.1, fun q => absurd q (by decide), fun q => absurd q (by decide)⟩
  · rw [if_pos rfl]
    exact KO.bad fl (CB1 C1 (Nat.le_refl _) (Nat.le_refl _)) (RB1 R1 (Nat.le_refl _) (Nat.le_refl _)) (fun N => by rw [b_open fl.b, cal_s])
