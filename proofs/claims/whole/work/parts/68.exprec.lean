/-! exps on both sides: by descent -/
def evF (s : St) (p : Nat) : Nat → Nat → Nat → Nat → Prop
  | 0, _, n, n' => n = n'
  | m + 1, k, n, n' => (((s.1 75 p k = 4 ∨ s.1 75 p k = 2) → n < 60) ∧ (s.1 75 p k = 2 → okN 10 (s.1 76 p k)) ∧ (s.1 75 p k = 24 → 1 ≤ n ∧ n ≤ 60) ∧ ((¬ s.1 75 p k = 4 ∧ ¬ s.1 75 p k = 2 ∧ ¬ s.1 75 p k = 24) → 2 ≤ n ∧ n ≤ 60)) ∧ evF s p m (k + 1) (wkn p k n s) n'
theorem evF_ok {s : St} {p : Nat} : ∀ m k n, evF s p m k n 1 → evOK s p m k n
  | 0, _, _, h => h
  | m + 1, k, n, h => ⟨h.1.1, h.1.2.1, h.1.2.2.1, h.1.2.2.2, evF_ok m _ _ h.2⟩
theorem evF_app {s : St} {p m' n2 : Nat} : ∀ m k n n1, evF s p m k n n1 → evF s p m' (k + m) n1 n2 → evF s p (m + m') k n n2
  | 0, k, n, n1, h, h' => by have h : n = n1 := h; subst h; rw [Nat.zero_add]; exact h'
  | m + 1, k, n, n1, h, h' => by
    rw [show m + 1 + m' = (m + m') + 1 by omega]
    exact ⟨h.1, evF_app m (k + 1) _ n1 h.2 (by rw [show k + 1 + m = k + (m + 1) by omega]; exact h')⟩
theorem evF_to {s s' : St} {p n' : Nat} : ∀ m k n, (∀ i, k ≤ i → i < k + m → s'.1 75 p i = s.1 75 p i ∧ s'.1 76 p i = s.1 76 p i) → evF s p m k n n' → evF s' p m k n n'
  | 0, _, _, _, h => h
  | m + 1, k, n, he, h => by
    have e := he k (by omega) (by omega)
    have w : wkn p k n s' = wkn p k n s := by unfold wkn; rw [e.1]
    unfold evF at *
    rw [e.1, e.2, w]
    exact ⟨h.1, evF_to m (k + 1) _ (fun i h1 h2 => he i (by omega) (by omega)) h.2⟩
theorem evF_op {s : St} {p k n : Nat} {x : Int32} (h : s.1 75 p k = x) (hx : ¬ x = 4 ∧ ¬ x = 2 ∧ ¬ x = 24) (hn : 2 ≤ n ∧ n ≤ 60) : evF s p 1 k n (n - 1) := by
  refine ⟨⟨fun z => ?_, fun z => ?_, fun z => ?_, fun _ => hn⟩, ?_⟩
  · rw [h] at z; rcases z with z | z
    · exact absurd z hx.1
    · exact absurd z hx.2.1
  · rw [h] at z; exact absurd z hx.2.1
  · rw [h] at z; exact absurd z hx.2.2
  · show wkn p k n s = n - 1
    unfold wkn; rw [h, if_neg hx.1, if_neg hx.2.1, if_neg hx.2.2]
theorem PD_to {s s' : St} {p f : Nat} : ∀ a Pe, (∀ i, a ≤ i → i < a + Pe.length → s'.1 75 p (f + i) = s.1 75 p (f + i)) → PD s p f a Pe → PD s' p f a Pe
  | _, [], _, _ => trivial
  | a, x :: r, he, h => ⟨(he a (Nat.le_refl _) (by have : (x :: r).length = r.length + 1 := rfl; omega)).trans h.1, PD_to (a + 1) r (fun i h1 h2 => he i (by omega) (by have : (x :: r).length = r.length + 1 := rfl; omega)) h.2⟩
theorem PD_snoc {s : St} {p f : Nat} {x : Int32} : ∀ a Pe, PD s p f a Pe → s.1 75 p (f + (a + Pe.length)) = x → PD s p f a (Pe ++ [x])
  | a, [], _, h => ⟨h, trivial⟩
  | a, y :: r, hP, h => ⟨hP.1, PD_snoc (a + 1) r hP.2 (by have : (y :: r).length = r.length + 1 := rfl; rw [show a + 1 + r.length = a + (y :: r).length by omega]; exact h)⟩
/-- a code more on the class's side -/
theorem xs_code {sT s u : St} {z cnt p f e k un c a w lv : Nat} {E : Nat → Nat} {Q : List Int32} {x y : Int32} (h : XS sT z cnt E p f e s u k un c a w lv Q) (ha : a ≤ c) : XS sT z cnt E p f e (adC s p (f + c) x y) u k un (c + 1) a w lv Q := by
  refine ⟨h.at.to (ad_o (by decide)) (fun id _ _ => by funext o i; exact ad_o (by omega)) (fun _ _ _ => rfl) rfl, by rw [ad_o (by decide)]; exact h.pp, h.rd, by rw [ad_o (by decide)]; exact h.u1, h.u2, h.bd, ad_v.2.2, h.ac, fun i i1 i2 => CdR_to (h.aa i i1 (by omega)) (ad_q (Or.inl rfl) (by omega)) (ad_q (Or.inr rfl) (by omega)) rfl rfl rfl, fun i i1 i2 => by omega, h.pq, h.op, h.le, h.zc⟩
theorem xs_neg {sT s u : St} {z cnt p f e k un c a w lv : Nat} {E : Nat → Nat} {Q : List Int32} {y : Int32} (h : XS sT z cnt E p f e s u k un c a w lv Q) (ha : c < a) : XS sT z cnt E p f e (adC s p (f + c) 24 y) u k un (c + 1) a w lv Q := by
  refine ⟨h.at.to (ad_o (by decide)) (fun id _ _ => by funext o i; exact ad_o (by omega)) (fun _ _ _ => rfl) rfl, by rw [ad_o (by decide)]; exact h.pp, h.rd, by rw [ad_o (by decide)]; exact h.u1, h.u2, h.bd, ad_v.2.2, h.ac, fun i i1 i2 => ?_, fun i i1 i2 => h.ah i (by omega) i2, h.pq, h.op, h.le, h.zc⟩
  by_cases ei : i = c
  · subst ei
    exact Or.inr (Or.inr (Or.inl ⟨ad_v.1, h.ah i (Nat.le_refl _) i1⟩))
  · exact CdR_to (h.aa i i1 (by omega)) (ad_q (Or.inl rfl) (by omega)) (ad_q (Or.inr rfl) (by omega)) rfl rfl rfl
def RUN (x wi : Int32) (u : St) (k : Nat) (u' : St) (k' : Nat) : Prop := ∀ N, r_exp_45 (N + (k' - k)) x wi 1 u = r_exp_45 N x 0 1 u'
def FLX (sT : St) (cnt p e : Nat) (x wi : Int32) (u : St) (k : Nat) (s' : St) : Prop := ∃ k' u', k ≤ k' ∧ k' < cnt ∧ s'.1 50 0 0 = nI k' ∧ FAx p e u u' ∧ u'.1 208 0 0 = 1 ∧ u'.1 209 0 0 = sT.1 98 0 k' ∧ ∀ N, r_exp_45 (N + (k' - k) + 2) x wi 1 u = some (x, u')
theorem FLX.pre {sT : St} {cnt p e k k1 : Nat} {x wi : Int32} {u u1 s' : St} (h : FLX sT cnt p e x 0 u1 k1 s') (hk : k ≤ k1) (R : RUN x wi u k u1 k1) (F : FAx p e u u1) : FLX sT cnt p e x wi u k s' := by
  obtain ⟨k', u', a1, a2, a3, a4, a5, a6, a7⟩ := h
  refine ⟨k', u', by omega, a2, a3, F.trans a4, a5, a6, fun N => ?_⟩
  rw [show N + (k' - k) + 2 = (N + (k' - k1) + 2) + (k1 - k) by omega, R]; exact a7 N
theorem FLX.step {sT : St} {cnt p e k : Nat} {x wi wj : Int32} {u u1 s' : St} (h : FLX sT cnt p e x wj u1 (k + 1) s') (R : ∀ N, r_exp_45 (N + 1) x wi 1 u = r_exp_45 N x wj 1 u1) (F : FAx p e u u1) : FLX sT cnt p e x wi u k s' := by
  obtain ⟨k', u', a1, a2, a3, a4, a5, a6, a7⟩ := h
  refine ⟨k', u', by omega, a2, a3, F.trans a4, a5, a6, fun N => ?_⟩
  rw [show N + (k' - k) + 2 = (N + (k' - (k + 1)) + 2) + 1 by omega, R]; exact a7 N
theorem FAx_mis {p e : Nat} {u : St} : FAx p e u (misU u) := by
  have so : ∀ id, ¬ (id = 208 ∨ id = 209) → (misU u).1 id = u.1 id := fun id q => by unfold misU; rw [si_id (by omega), si_id (by omega)]
  exact ⟨fun id z => so id (by omega), fun _ _ => rfl, fun q _ => ⟨by rw [so 215 (by omega)], by rw [so 212 (by omega)]⟩, fun id i z _ => by rw [so id (by omega)], fun _ _ => rfl, fun z => by unfold misU at z; rw [si_o (by decide), si_eq] at z; exact absurd z (by decide)⟩
/-- a unary that cannot stand there -/
theorem flx_here {sT s u : St} {z cnt p f e k un c a w lv : Nat} {E : Nat → Nat} {Q : List Int32} {x : Int32} (hp : p < 12) (h : XS sT z cnt E p f e s u k un c a w lv Q) (hr : r_readUnary u = some (0, misU u)) (hA : e + a + Q.length + 1 < 200) (hl : Q.length < 63) : FLX sT cnt p e x 1 u k s := by
  have so : ∀ id, ¬ (id = 208 ∨ id = 209) → (misU u).1 id = u.1 id := fun id q => by unfold misU; rw [si_id (by omega), si_id (by omega)]
  have hb : (misU u).1 208 0 0 = 1 := by unfold misU; rw [si_o (by decide), si_eq]
  have h9 : (misU u).1 209 0 0 = sT.1 98 0 k := by unfold misU; rw [si_eq]; exact h.at.tv.1
  obtain ⟨u', r1, r2, r3, r4⟩ := ex_bad (x := x) (e := e) (A := e + a) hp hb (h.pq.to (so 228 (by omega)) (so 229 (by omega))) (by rw [so 227 (by omega)]; exact h.rd) (by rw [so 215 (by omega)]; exact h.ac) (by omega) hA hl
  have F0 : FAx p e u (misU u) := FAx_mis
  refine ⟨k, u', Nat.le_refl _, h.at.kl, h.at.at5, F0.trans r2, r3, by rw [r4]; exact h9, fun N => ?_⟩
  rw [show N + (k - k) + 2 = (N + 1) + 1 by omega, ex_want h.bd hr, r_exp_45.eq_2, if_neg (by decide), bnd_d, hb, if_neg (by decide)]; exact r1
/-- where a ')' is wanting -/
theorem flx_close {sT s u : St} {z cnt p f e k un c a w lv : Nat} {E : Nat → Nat} {Q : List Int32} {x : Int32} (hp : p < 12) (h : XS sT z cnt E p f e s u k un c a w (lv + 1) Q) (hlv : lv + 1 ≤ 9) (h41 : ¬ KK sT k = 41) (hg : stg (KK sT k) ≤ 1) (hc : stg (KK sT k) = 1 → ¬ u.1 231 0 (lv + 1) = 0) (hA : e + a + Q.length + 1 < 200) (hl : Q.length < 63) : FLX sT cnt p e x 0 u k s := by
  have so : ∀ id, ¬ (id = 208 ∨ id = 209) → (misU u).1 id = u.1 id := fun id q => by unfold misU; rw [si_id (by omega), si_id (by omega)]
  have hb : (misU u).1 208 0 0 = 1 := by unfold misU; rw [si_o (by decide), si_eq]
  have h9 : (misU u).1 209 0 0 = sT.1 98 0 k := by unfold misU; rw [si_eq]; exact h.at.tv.1
  obtain ⟨u', r1, r2, r3, r4⟩ := ex_bad (x := x) (e := e) (A := e + a) hp hb (h.pq.to (so 228 (by omega)) (so 229 (by omega))) (by rw [so 227 (by omega)]; exact h.rd) (by rw [so 215 (by omega)]; exact h.ac) (by omega) hA hl
  have F0 : FAx p e u (misU u) := FAx_mis
  refine ⟨k, u', Nat.le_refl _, h.at.kl, h.at.at5, F0.trans r2, r3, by rw [r4]; exact h9, fun N => ?_⟩
  rw [show N + (k - k) + 2 = N + 2 by omega, ex_stop h hlv (Or.inl h41) hg hc N]
  have e274 : r_exp_274 x (misU u) = r_exp_285 x (misU u) := by
    unfold r_exp_274
    rw [bnd_d, so 232 (by omega), h.le, if_neg (nI_nle (by omega) (by omega)), r_mis1 hb, cal_s]
  unfold r_exp_274
  rw [bnd_d, h.le, if_neg (nI_nle (by omega) (by omega)), r_mis h.bd, cal_s, ← e274]; exact r1
/-- an exp's part that stands: from token k to k', codes c to c' -/
def OKX (p f e : Nat) (x wi : Int32) (s u s' u' : St) (k k' un un' c c' n1 n2 : Nat) : Prop := (k ≤ k') ∧ (un ≤ un') ∧ (un' ≤ 60) ∧ (c ≤ c') ∧ (FCx p (f + c) s s') ∧ (FAx p e u u') ∧ (∀ n0, n0 + n1 + (un' - un) ≤ 60 → evF s' p (c' - c) (f + c) (n0 + n1) (n0 + n2)) ∧ (RUN x wi u k u' k')
theorem OKX.k1 {p f e : Nat} {x wi : Int32} {s u s' u' : St} {k k' un un' c c' n1 n2 : Nat} (h : OKX p f e x wi s u s' u' k k' un un' c c' n1 n2) : k ≤ k' := h.1
theorem OKX.u1 {p f e : Nat} {x wi : Int32} {s u s' u' : St} {k k' un un' c c' n1 n2 : Nat} (h : OKX p f e x wi s u s' u' k k' un un' c c' n1 n2) : un ≤ un' := h.2.1
theorem OKX.u6 {p f e : Nat} {x wi : Int32} {s u s' u' : St} {k k' un un' c c' n1 n2 : Nat} (h : OKX p f e x wi s u s' u' k k' un un' c c' n1 n2) : un' ≤ 60 := h.2.2.1
theorem OKX.c1 {p f e : Nat} {x wi : Int32} {s u s' u' : St} {k k' un un' c c' n1 n2 : Nat} (h : OKX p f e x wi s u s' u' k k' un un' c c' n1 n2) : c ≤ c' := h.2.2.2.1
theorem OKX.fc {p f e : Nat} {x wi : Int32} {s u s' u' : St} {k k' un un' c c' n1 n2 : Nat} (h : OKX p f e x wi s u s' u' k k' un un' c c' n1 n2) : FCx p (f + c) s s' := h.2.2.2.2.1
theorem OKX.fa {p f e : Nat} {x wi : Int32} {s u s' u' : St} {k k' un un' c c' n1 n2 : Nat} (h : OKX p f e x wi s u s' u' k k' un un' c c' n1 n2) : FAx p e u u' := h.2.2.2.2.2.1
theorem OKX.ev {p f e : Nat} {x wi : Int32} {s u s' u' : St} {k k' un un' c c' n1 n2 : Nat} (h : OKX p f e x wi s u s' u' k k' un un' c c' n1 n2) : ∀ n0, n0 + n1 + (un' - un) ≤ 60 → evF s' p (c' - c) (f + c) (n0 + n1) (n0 + n2) := h.2.2.2.2.2.2.1
theorem OKX.rn {p f e : Nat} {x wi : Int32} {s u s' u' : St} {k k' un un' c c' n1 n2 : Nat} (h : OKX p f e x wi s u s' u' k k' un un' c c' n1 n2) : RUN x wi u k u' k' := h.2.2.2.2.2.2.2
theorem FCx.up {p f f' : Nat} {s s' : St} (h : FCx p f' s s') (hf : f ≤ f') : FCx p f s s' := ⟨h.o1, h.o2, h.qp, fun id i z z2 => h.qc id i z (by omega)⟩
theorem OKX.trans {p f e k k1 k2 un un1 un2 c c1 c2 n1 n2 n3 : Nat} {x wi : Int32} {s u s1 u1 s2 u2 : St} (h : OKX p f e x wi s u s1 u1 k k1 un un1 c c1 n1 n2) (h' : OKX p f e x 0 s1 u1 s2 u2 k1 k2 un1 un2 c1 c2 n2 n3) (hn : n2 ≤ n1 + (un1 - un)) : OKX p f e x wi s u s2 u2 k k2 un un2 c c2 n1 n3 := by
  have a1 := h.k1; have a2 := h'.k1; have b1 := h.u1; have b2 := h'.u1; have d1 := h.c1; have d2 := h'.c1
  refine ⟨by omega, by omega, h'.u6, by omega, h.fc.trans (h'.fc.up (by omega)), h.fa.trans h'.fa, fun n0 hn0 => ?_, fun N => ?_⟩
  · have e1 := h.ev n0 (by omega)
    have e2 := h'.ev n0 (by omega)
    rw [show c2 - c = (c1 - c) + (c2 - c1) by omega]
    refine evF_app _ _ _ (n0 + n2) (evF_to _ _ _ (fun i i1 i2 => ⟨h'.fc.qc 75 i (Or.inl rfl) (by omega), h'.fc.qc 76 i (Or.inr rfl) (by omega)⟩) e1) ?_
    rw [show f + c + (c1 - c) = f + c1 by omega]; exact e2
  · rw [show N + (k2 - k) = (N + (k2 - k1)) + (k1 - k) by omega, h.rn, h'.rn]
