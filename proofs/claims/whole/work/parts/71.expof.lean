/-! texts on both sides: what stays, and an exp of a statement -/
theorem evOK_to {s s' : St} {p : Nat} : ∀ m k n, (∀ i, k ≤ i → i < k + m → s'.1 75 p i = s.1 75 p i ∧ s'.1 76 p i = s.1 76 p i) → evOK s p m k n → evOK s' p m k n
  | 0, _, _, _, h => h
  | m + 1, k, n, he, h => by
    have e := he k (by omega) (by omega)
    have w : wkn p k n s' = wkn p k n s := by unfold wkn; rw [e.1]
    unfold evOK at *
    rw [e.1, e.2, w]
    exact ⟨h.1, h.2.1, h.2.2.1, h.2.2.2.1, evOK_to m (k + 1) _ (fun i h1 h2 => he i (by omega) (by omega)) h.2.2.2.2⟩
/-- what the class keeps while it reads: p the PROGRAM, n its statements, f its codes -/
def CB (X : Nat → Nat → Prop) (p n f : Nat) (s s' : St) : Prop := (∀ id, ¬ (id = 50 ∨ (64 ≤ id ∧ id ≤ 76)) → s'.1 id = s.1 id) ∧ (s'.2 = s.2) ∧ (∀ id o i, 64 ≤ id → id ≤ 76 → o ≠ p → s'.1 id o i = s.1 id o i) ∧ (∀ id i, 68 ≤ id → id ≤ 73 → i < n → ¬ X id i → s'.1 id p i = s.1 id p i) ∧ (∀ i, i < 3 * n ∨ i = 120 → ¬ X 74 i → s'.1 74 p i = s.1 74 p i) ∧ (∀ id i, id = 75 ∨ id = 76 → i < f → s'.1 id p i = s.1 id p i) ∧ (GV s → GV s')
theorem CB.o1 {X : Nat → Nat → Prop} {p n f : Nat} {s s' : St} (h : CB X p n f s s') : ∀ id, ¬ (id = 50 ∨ (64 ≤ id ∧ id ≤ 76)) → s'.1 id = s.1 id := h.1
theorem CB.o2 {X : Nat → Nat → Prop} {p n f : Nat} {s s' : St} (h : CB X p n f s s') : s'.2 = s.2 := h.2.1
theorem CB.qp {X : Nat → Nat → Prop} {p n f : Nat} {s s' : St} (h : CB X p n f s s') : ∀ id o i, 64 ≤ id → id ≤ 76 → o ≠ p → s'.1 id o i = s.1 id o i := h.2.2.1
theorem CB.qs {X : Nat → Nat → Prop} {p n f : Nat} {s s' : St} (h : CB X p n f s s') : ∀ id i, 68 ≤ id → id ≤ 73 → i < n → ¬ X id i → s'.1 id p i = s.1 id p i := h.2.2.2.1
theorem CB.q4 {X : Nat → Nat → Prop} {p n f : Nat} {s s' : St} (h : CB X p n f s s') : ∀ i, i < 3 * n ∨ i = 120 → ¬ X 74 i → s'.1 74 p i = s.1 74 p i := h.2.2.2.2.1
theorem CB.qc {X : Nat → Nat → Prop} {p n f : Nat} {s s' : St} (h : CB X p n f s s') : ∀ id i, id = 75 ∨ id = 76 → i < f → s'.1 id p i = s.1 id p i := h.2.2.2.2.2.1
theorem CB.gv {X : Nat → Nat → Prop} {p n f : Nat} {s s' : St} (h : CB X p n f s s') : GV s → GV s' := h.2.2.2.2.2.2
theorem CB.refl {X : Nat → Nat → Prop} {p n f : Nat} (s : St) : CB X p n f s s := ⟨fun _ _ => rfl, rfl, fun _ _ _ _ _ _ => rfl, fun _ _ _ _ _ _ => rfl, fun _ _ _ => rfl, fun _ _ _ _ => rfl, id⟩
theorem CB.trans {X : Nat → Nat → Prop} {p n f : Nat} {s t v : St} (h : CB X p n f s t) (h' : CB X p n f t v) : CB X p n f s v :=
  ⟨fun id z => (h'.o1 id z).trans (h.o1 id z), h'.o2.trans h.o2, fun id o i a b c => (h'.qp id o i a b c).trans (h.qp id o i a b c), fun id i a b c d => (h'.qs id i a b c d).trans (h.qs id i a b c d), fun i a b => (h'.q4 i a b).trans (h.q4 i a b), fun id i a b => (h'.qc id i a b).trans (h.qc id i a b), fun g => h'.gv (h.gv g)⟩
theorem CB.mono {X X' : Nat → Nat → Prop} {p n f n' f' : Nat} {s t : St} (h : CB X p n f s t) (hX : ∀ id i, X id i → X' id i ∨ (id ≤ 73 ∧ n' ≤ i) ∨ (id = 74 ∧ 3 * n' ≤ i ∧ i ≠ 120)) (hn : n' ≤ n) (hf : f' ≤ f) : CB X' p n' f' s t :=
  ⟨h.o1, h.o2, h.qp, fun id i a b c d => h.qs id i a b (by omega) (fun q => by rcases hX id i q with q | q | q; (· exact d q); (· omega); (· omega)), fun i a b => h.q4 i (by omega) (fun q => by rcases hX 74 i q with q | q | q; (· exact b q); (· omega); (· omega)), fun id i a b => h.qc id i a (by omega), h.gv⟩
/-- one number more, of the PROGRAM that is read -/
theorem CB.si {X : Nat → Nat → Prop} {p n f : Nat} {s t : St} {id i : Nat} {x : Int32} (h : CB X p n f s t) (hi : (64 ≤ id ∧ id ≤ 67) ∨ (68 ≤ id ∧ id ≤ 73 ∧ (n ≤ i ∨ X id i)) ∨ (id = 74 ∧ ((3 * n ≤ i ∧ i ≠ 120) ∨ X id i))) (hv : val id i x) : CB X p n f s (si t id p i x) := by
  refine h.trans ⟨fun a z => si_id (by omega), rfl, fun a o b z1 z2 z3 => si_ne (fun z => z3 z.2.1), fun a b z1 z2 z3 z4 => si_ne (fun z => ?_), fun b z1 z2 => si_ne (fun z => ?_), fun a b z1 z2 => si_o (by omega), fun g => GV_si g hv⟩
  · obtain ⟨rfl, -, rfl⟩ := z
    rcases hi with q | ⟨-, -, q⟩ | ⟨q, -⟩
    · omega
    · rcases q with q | q
      · omega
      · exact z4 q
    · omega
  · obtain ⟨rfl, -, rfl⟩ := z
    rcases hi with q | q | ⟨-, q⟩
    · omega
    · omega
    · rcases q with q | q
      · omega
      · exact z2 q
theorem CB_at {X : Nat → Nat → Prop} {p n f : Nat} {s t : St} {x : Int32} (h : CB X p n f s t) : CB X p n f s (si t 50 0 0 x) :=
  h.trans ⟨fun a z => si_id (by omega), rfl, fun a o b z1 z2 z3 => si_o (by omega), fun a b z1 z2 z3 z4 => si_o (by omega), fun b z1 z2 => si_o (by omega), fun a b z1 z2 => si_o (by omega), fun g => GV_si g trivial⟩
theorem FCx.cb {X : Nat → Nat → Prop} {p n f : Nat} {s t : St} (h : FCx p f s t) : CB X p n f s t := by
  refine ⟨fun id z => h.o1 id (by omega), h.o2, fun id o i a b c => ?_, fun id i a b c d => by rw [h.o1 id (by omega)], fun i a b => by rw [h.o1 74 (by omega)], h.qc, fun g id o i => ?_⟩
  · by_cases q : id = 65 ∨ id = 67 ∨ id = 75 ∨ id = 76
    · exact h.qp id o i q c
    · rw [h.o1 id (by omega)]
  · by_cases q : id = 50 ∨ id = 65 ∨ id = 67 ∨ id = 75 ∨ id = 76
    · rcases q with rfl | rfl | rfl | rfl | rfl <;> trivial
    · rw [h.o1 id q]; exact g id o i
/-- what the reference keeps while it reads: d the bodies it is within -/
def RB (X : Nat → Nat → Prop) (p n e d : Nat) (u u' : St) : Prop := (∀ id, ¬ ((202 ≤ id ∧ id ≤ 209) ∨ (211 ≤ id ∧ id ≤ 225) ∨ (228 ≤ id ∧ id ≤ 236)) → u'.1 id = u.1 id) ∧ (∀ id, ¬ (id = 206 ∨ id = 226) → u'.2 id = u.2 id) ∧ (∀ id q, 211 ≤ id → id ≤ 215 → q ≠ p → u'.1 id 0 q = u.1 id 0 q) ∧ (¬ X 214 p → u'.1 214 0 p = u.1 214 0 p) ∧ (∀ id i, 216 ≤ id → id ≤ 223 → id ≠ 219 → id ≠ 220 → i < 40 * p + n ∨ 40 * p + 40 ≤ i → ¬ X id i → u'.1 id 0 i = u.1 id 0 i) ∧ (∀ id i, id = 219 ∨ id = 220 → i < 3 * (40 * p + n) ∨ 3 * (40 * p + 40) ≤ i → ¬ X id i → u'.1 id 0 i = u.1 id 0 i) ∧ (∀ id i, id = 224 ∨ id = 225 → (i < 200 * p + e ∨ 200 * p + 200 ≤ i) → u'.1 id 0 i = u.1 id 0 i) ∧ (∀ i, (i < 200 * p + e ∨ 200 * p + 200 ≤ i) → u'.2 226 0 i = u.2 226 0 i) ∧ (∀ id i, 233 ≤ id → id ≤ 235 → i ≤ d → ¬ X id i → u'.1 id 0 i = u.1 id 0 i) ∧ (u'.1 208 0 0 = 0 → u.1 208 0 0 = 0 ∧ u'.1 209 = u.1 209)
theorem RB.o1 {X : Nat → Nat → Prop} {p n e d : Nat} {u u' : St} (h : RB X p n e d u u') : ∀ id, ¬ ((202 ≤ id ∧ id ≤ 209) ∨ (211 ≤ id ∧ id ≤ 225) ∨ (228 ≤ id ∧ id ≤ 236)) → u'.1 id = u.1 id := h.1
theorem RB.o2 {X : Nat → Nat → Prop} {p n e d : Nat} {u u' : St} (h : RB X p n e d u u') : ∀ id, ¬ (id = 206 ∨ id = 226) → u'.2 id = u.2 id := h.2.1
theorem RB.q5 {X : Nat → Nat → Prop} {p n e d : Nat} {u u' : St} (h : RB X p n e d u u') : ∀ id q, 211 ≤ id → id ≤ 215 → q ≠ p → u'.1 id 0 q = u.1 id 0 q := h.2.2.1
theorem RB.qf {X : Nat → Nat → Prop} {p n e d : Nat} {u u' : St} (h : RB X p n e d u u') : ¬ X 214 p → u'.1 214 0 p = u.1 214 0 p := h.2.2.2.1
theorem RB.qs {X : Nat → Nat → Prop} {p n e d : Nat} {u u' : St} (h : RB X p n e d u u') : ∀ id i, 216 ≤ id → id ≤ 223 → id ≠ 219 → id ≠ 220 → i < 40 * p + n ∨ 40 * p + 40 ≤ i → ¬ X id i → u'.1 id 0 i = u.1 id 0 i := h.2.2.2.2.1
theorem RB.qb {X : Nat → Nat → Prop} {p n e d : Nat} {u u' : St} (h : RB X p n e d u u') : ∀ id i, id = 219 ∨ id = 220 → i < 3 * (40 * p + n) ∨ 3 * (40 * p + 40) ≤ i → ¬ X id i → u'.1 id 0 i = u.1 id 0 i := h.2.2.2.2.2.1
theorem RB.qa {X : Nat → Nat → Prop} {p n e d : Nat} {u u' : St} (h : RB X p n e d u u') : ∀ id i, id = 224 ∨ id = 225 → (i < 200 * p + e ∨ 200 * p + 200 ≤ i) → u'.1 id 0 i = u.1 id 0 i := h.2.2.2.2.2.2.1
theorem RB.q2 {X : Nat → Nat → Prop} {p n e d : Nat} {u u' : St} (h : RB X p n e d u u') : ∀ i, (i < 200 * p + e ∨ 200 * p + 200 ≤ i) → u'.2 226 0 i = u.2 226 0 i := h.2.2.2.2.2.2.2.1
theorem RB.ql {X : Nat → Nat → Prop} {p n e d : Nat} {u u' : St} (h : RB X p n e d u u') : ∀ id i, 233 ≤ id → id ≤ 235 → i ≤ d → ¬ X id i → u'.1 id 0 i = u.1 id 0 i := h.2.2.2.2.2.2.2.2.1
theorem RB.q9 {X : Nat → Nat → Prop} {p n e d : Nat} {u u' : St} (h : RB X p n e d u u') : u'.1 208 0 0 = 0 → u.1 208 0 0 = 0 ∧ u'.1 209 = u.1 209 := h.2.2.2.2.2.2.2.2.2
theorem RB.refl {X : Nat → Nat → Prop} {p n e d : Nat} (u : St) : RB X p n e d u u := ⟨fun _ _ => rfl, fun _ _ => rfl, fun _ _ _ _ _ => rfl, fun _ => rfl, fun _ _ _ _ _ _ _ _ => rfl, fun _ _ _ _ _ => rfl, fun _ _ _ _ => rfl, fun _ _ => rfl, fun _ _ _ _ _ _ => rfl, fun z => ⟨z, rfl⟩⟩
theorem RB.trans {X : Nat → Nat → Prop} {p n e d : Nat} {u v w : St} (h : RB X p n e d u v) (k : RB X p n e d v w) : RB X p n e d u w :=
  ⟨fun id z => (k.o1 id z).trans (h.o1 id z), fun id z => (k.o2 id z).trans (h.o2 id z), fun a b c d e => (k.q5 a b c d e).trans (h.q5 a b c d e), fun a => (k.qf a).trans (h.qf a), fun a b c d e f g i => (k.qs a b c d e f g i).trans (h.qs a b c d e f g i), fun a b c d e => (k.qb a b c d e).trans (h.qb a b c d e), fun a b c d => (k.qa a b c d).trans (h.qa a b c d), fun a b => (k.q2 a b).trans (h.q2 a b), fun a b c d e f => (k.ql a b c d e f).trans (h.ql a b c d e f), fun z => ⟨(h.q9 (k.q9 z).1).1, (k.q9 z).2.trans (h.q9 (k.q9 z).1).2⟩⟩
theorem RB.mono {X X' : Nat → Nat → Prop} {p n e d n' e' d' : Nat} {u v : St} (h : RB X p n e d u v) (hX : ∀ id i, X id i → X' id i ∨ (216 ≤ id ∧ id ≤ 223 ∧ id ≠ 219 ∧ id ≠ 220 ∧ 40 * p + n' ≤ i ∧ i < 40 * p + 40) ∨ ((id = 219 ∨ id = 220) ∧ 3 * (40 * p + n') ≤ i ∧ i < 3 * (40 * p + 40)) ∨ (233 ≤ id ∧ id ≤ 235 ∧ d' < i)) (hn : n' ≤ n) (he : e' ≤ e) (hd : d' ≤ d) : RB X' p n' e' d' u v :=
  ⟨h.o1, h.o2, h.q5, fun a => h.qf (fun q => by rcases hX _ _ q with q | q | q | q; (· exact a q); (· omega); (· omega); (· omega)), fun a b c d e f g i => h.qs a b c d e f (by omega) (fun q => by rcases hX _ _ q with q | q | q | q; (· exact i q); (· omega); (· omega); (· omega)), fun a b c d e => h.qb a b c (by omega) (fun q => by rcases hX _ _ q with q | q | q | q; (· exact e q); (· omega); (· omega); (· omega)), fun a b c d => h.qa a b c (by omega), fun a b => h.q2 a (by omega), fun a b c d e f => h.ql a b c d (by omega) (fun q => by rcases hX _ _ q with q | q | q | q; (· exact f q); (· omega); (· omega); (· omega)), h.q9⟩
/-- one number more: of those that no other PROGRAM and no statement before has -/
theorem RB.si {X : Nat → Nat → Prop} {p n e d : Nat} {u v : St} {id i : Nat} {x : Int32} (h : RB X p n e d u v) (hi : (202 ≤ id ∧ id ≤ 207) ∨ (211 ≤ id ∧ id ≤ 215 ∧ id ≠ 214 ∧ i = p) ∨ (id = 214 ∧ i = p ∧ X 214 p) ∨ (216 ≤ id ∧ id ≤ 223 ∧ id ≠ 219 ∧ id ≠ 220 ∧ ((40 * p + n ≤ i ∧ i < 40 * p + 40) ∨ X id i)) ∨ ((id = 219 ∨ id = 220) ∧ ((3 * (40 * p + n) ≤ i ∧ i < 3 * (40 * p + 40)) ∨ X id i)) ∨ (228 ≤ id ∧ id ≤ 232) ∨ (233 ≤ id ∧ id ≤ 235 ∧ (d < i ∨ X id i)) ∨ id = 236) : RB X p n e d u (si v id 0 i x) := by
  refine h.trans ⟨fun a z => si_id (by omega), fun _ _ => rfl, fun a q z1 z2 z3 => si_ne (fun z => by omega), fun a => ?_, fun a b c1 c2 c3 c4 c5 c6 => ?_, fun a b c1 c2 c3 => ?_, fun a b c1 c2 => si_o (by omega), fun _ _ => rfl, fun a b c1 c2 c3 c4 => ?_, fun z => ⟨by rw [si_o (by omega)] at z; exact z, si_id (by omega)⟩⟩
  · by_cases q : id = 214
    · exfalso; subst q; rcases hi with q | q | q | q | q | q | q | q <;> first | omega | exact a q.2.2
    · exact si_o (by omega)
  · by_cases q : a = id ∧ b = i
    · exfalso
      obtain ⟨rfl, rfl⟩ := q
      rcases hi with q | q | q | ⟨q1, q2, q3, q4, q | q⟩ | q | q | q | q <;> first | omega | exact c6 q
    · exact si_ne (fun z => q ⟨z.1, z.2.2⟩)
  · by_cases q : a = id ∧ b = i
    · exfalso
      obtain ⟨rfl, rfl⟩ := q
      rcases hi with q | q | q | q | ⟨q1, q | q⟩ | q | q | q <;> first | omega | exact c3 q
    · exact si_ne (fun z => q ⟨z.1, z.2.2⟩)
  · by_cases q : a = id ∧ b = i
    · exfalso
      obtain ⟨rfl, rfl⟩ := q
      rcases hi with q | q | q | q | q | q | ⟨q1, q2, q | q⟩ | q <;> first | omega | exact c4 q
    · exact si_ne (fun z => q ⟨z.1, z.2.2⟩)
theorem RB.fx {X : Nat → Nat → Prop} {p n e d : Nat} {u v w : St} (h : RB X p n e d u v) (f : FX v w) : RB X p n e d u w :=
  h.trans ⟨fun id z => f.1 id (by omega), fun id z => f.2 id (by omega), fun a b c d e => by rw [f.1 a (by omega)], fun a => by rw [f.1 214 (by omega)], fun a b c d e f' g i => by rw [f.1 a (by omega)], fun a b c d e => by rw [f.1 a (by omega)], fun a b c d => by rw [f.1 a (by omega)], fun a b => by rw [f.2 226 (by decide)], fun a b c d e f' => by rw [f.1 a (by omega)], fun z => ⟨by rw [f.1 208 (by omega)] at z; exact z, f.1 209 (by omega)⟩⟩
theorem FAx.rb {X : Nat → Nat → Prop} {p n e d : Nat} {u v : St} (h : FAx p e u v) : RB X p n e d u v := by
  refine ⟨fun id z => h.o1 id (by omega), h.o2, fun a b c d e => ?_, fun a => by rw [h.o1 214 (by omega)], fun a b c d e f' g i => by rw [h.o1 a (by omega)], fun a b c d e => by rw [h.o1 a (by omega)], h.qa, h.q2, fun a b c d e f' => by rw [h.o1 a (by omega)], h.q9⟩
  by_cases q : a = 215 ∨ a = 212
  · rcases q with rfl | rfl
    · exact (h.q5 b e).1
    · exact (h.q5 b e).2
  · rw [h.o1 a (by omega)]
/-- both sides within a text: k the token, n statements, un unaries, f codes, e acts, d bodies -/
def BS (sT : St) (z cnt : Nat) (E : Nat → Nat) (p : Nat) (s u : St) (k n un f e d : Nat) : Prop := (At sT z cnt E s u k) ∧ (s.1 49 0 0 = nI p) ∧ (u.1 227 0 0 = nI p) ∧ (s.1 64 p 0 = nI n) ∧ (u.1 211 0 p = nI n) ∧ (n ≤ 40) ∧ (s.1 65 p 0 = nI un) ∧ (u.1 212 0 p = nI un) ∧ (un ≤ 60) ∧ (∃ D, D ≤ 8 ∧ s.1 66 p 0 = nI D ∧ u.1 213 0 p = nI D) ∧ (u.1 208 0 0 = 0) ∧ (s.1 67 p 0 = nI f) ∧ (f ≤ 2 * un) ∧ (u.1 215 0 p = nI e) ∧ (e ≤ 2 * un) ∧ (u.1 236 0 0 = nI d) ∧ (d ≤ 8)
theorem BS.at {sT : St} {z cnt : Nat} {E : Nat → Nat} {p : Nat} {s u : St} {k n un f e d : Nat} (h : BS sT z cnt E p s u k n un f e d) : At sT z cnt E s u k := h.1
theorem BS.pp {sT : St} {z cnt : Nat} {E : Nat → Nat} {p : Nat} {s u : St} {k n un f e d : Nat} (h : BS sT z cnt E p s u k n un f e d) : s.1 49 0 0 = nI p := h.2.1
theorem BS.rd {sT : St} {z cnt : Nat} {E : Nat → Nat} {p : Nat} {s u : St} {k n un f e d : Nat} (h : BS sT z cnt E p s u k n un f e d) : u.1 227 0 0 = nI p := h.2.2.1
theorem BS.n1 {sT : St} {z cnt : Nat} {E : Nat → Nat} {p : Nat} {s u : St} {k n un f e d : Nat} (h : BS sT z cnt E p s u k n un f e d) : s.1 64 p 0 = nI n := h.2.2.2.1
theorem BS.n2 {sT : St} {z cnt : Nat} {E : Nat → Nat} {p : Nat} {s u : St} {k n un f e d : Nat} (h : BS sT z cnt E p s u k n un f e d) : u.1 211 0 p = nI n := h.2.2.2.2.1
theorem BS.n4 {sT : St} {z cnt : Nat} {E : Nat → Nat} {p : Nat} {s u : St} {k n un f e d : Nat} (h : BS sT z cnt E p s u k n un f e d) : n ≤ 40 := h.2.2.2.2.2.1
theorem BS.u1 {sT : St} {z cnt : Nat} {E : Nat → Nat} {p : Nat} {s u : St} {k n un f e d : Nat} (h : BS sT z cnt E p s u k n un f e d) : s.1 65 p 0 = nI un := h.2.2.2.2.2.2.1
theorem BS.u2 {sT : St} {z cnt : Nat} {E : Nat → Nat} {p : Nat} {s u : St} {k n un f e d : Nat} (h : BS sT z cnt E p s u k n un f e d) : u.1 212 0 p = nI un := h.2.2.2.2.2.2.2.1
theorem BS.u6 {sT : St} {z cnt : Nat} {E : Nat → Nat} {p : Nat} {s u : St} {k n un f e d : Nat} (h : BS sT z cnt E p s u k n un f e d) : un ≤ 60 := h.2.2.2.2.2.2.2.2.1
theorem BS.dp {sT : St} {z cnt : Nat} {E : Nat → Nat} {p : Nat} {s u : St} {k n un f e d : Nat} (h : BS sT z cnt E p s u k n un f e d) : ∃ D, D ≤ 8 ∧ s.1 66 p 0 = nI D ∧ u.1 213 0 p = nI D := h.2.2.2.2.2.2.2.2.2.1
theorem BS.bd {sT : St} {z cnt : Nat} {E : Nat → Nat} {p : Nat} {s u : St} {k n un f e d : Nat} (h : BS sT z cnt E p s u k n un f e d) : u.1 208 0 0 = 0 := h.2.2.2.2.2.2.2.2.2.2.1
theorem BS.cc {sT : St} {z cnt : Nat} {E : Nat → Nat} {p : Nat} {s u : St} {k n un f e d : Nat} (h : BS sT z cnt E p s u k n un f e d) : s.1 67 p 0 = nI f := h.2.2.2.2.2.2.2.2.2.2.2.1
theorem BS.ff {sT : St} {z cnt : Nat} {E : Nat → Nat} {p : Nat} {s u : St} {k n un f e d : Nat} (h : BS sT z cnt E p s u k n un f e d) : f ≤ 2 * un := h.2.2.2.2.2.2.2.2.2.2.2.2.1
theorem BS.ac {sT : St} {z cnt : Nat} {E : Nat → Nat} {p : Nat} {s u : St} {k n un f e d : Nat} (h : BS sT z cnt E p s u k n un f e d) : u.1 215 0 p = nI e := h.2.2.2.2.2.2.2.2.2.2.2.2.2.1
theorem BS.ee {sT : St} {z cnt : Nat} {E : Nat → Nat} {p : Nat} {s u : St} {k n un f e d : Nat} (h : BS sT z cnt E p s u k n un f e d) : e ≤ 2 * un := h.2.2.2.2.2.2.2.2.2.2.2.2.2.2.1
theorem BS.wi {sT : St} {z cnt : Nat} {E : Nat → Nat} {p : Nat} {s u : St} {k n un f e d : Nat} (h : BS sT z cnt E p s u k n un f e d) : u.1 236 0 0 = nI d := h.2.2.2.2.2.2.2.2.2.2.2.2.2.2.2.1
theorem BS.d8 {sT : St} {z cnt : Nat} {E : Nat → Nat} {p : Nat} {s u : St} {k n un f e d : Nat} (h : BS sT z cnt E p s u k n un f e d) : d ≤ 8 := h.2.2.2.2.2.2.2.2.2.2.2.2.2.2.2.2
def XpQ (s u : St) (p o f m e : Nat) : Prop := s.1 71 p o = nI f ∧ s.1 72 p o = nI (f + m) ∧ (∀ i, i < m → CdR s u p (f + i) (200 * p + e + i)) ∧ u.1 224 0 (200 * p + e + m) = 4 ∧ evOK s p m f 0
/-- how a failure stands: the class at token k', the reference BAD there -/
def FL (sT : St) (cnt : Nat) (k : Nat) (s' u' : St) : Prop := ∃ k', k ≤ k' ∧ k' < cnt ∧ s'.1 50 0 0 = nI k' ∧ u'.1 208 0 0 = 1 ∧ u'.1 209 0 0 = sT.1 98 0 k'
def Xof (o : Nat) : Nat → Nat → Prop := fun id i => (id = 71 ∨ id = 72) ∧ i = o
def X0 : Nat → Nat → Prop := fun _ _ => False
theorem ex_of {sT s u : St} {z cnt p k n un f e d o : Nat} {E : Nat → Nat} (X : CX sT z cnt E) (hp : p < 12) (h : BS sT z cnt E p s u k n un f e d) (ho : o < 40) :
    ∃ v s' u', k_isExpOf (nI o) s = some (v, s') ∧ r_exp u = some (nI (200 * p + e), u') ∧ CB (Xof o) p n f s s' ∧ RB X0 p n e d u u' ∧ ((v = 1 ∧ ∃ k' un' m, k ≤ k' ∧ BS sT z cnt E p s' u' k' n un' (f + m) (e + m + 1) d ∧ XpQ s' u' p o f m e) ∨ (v = 0 ∧ FL sT cnt k s' u')) := by
  have c8 := X.c8
  have ff := h.ff; have ee := h.ee; have u6 := h.u6
  generalize hs4 : si s 71 p o (nI f) = s4
  generalize hu7 : si (si (si (si u 229 0 0 0) 230 0 0 0) 232 0 0 0) 231 0 0 0 = u7
  have so : ∀ id, id ≠ 71 → s4.1 id = s.1 id := fun id q => by rw [← hs4]; exact si_id q
  have uo : ∀ id, ¬ (229 ≤ id ∧ id ≤ 232) → u7.1 id = u.1 id := fun id q => by rw [← hu7, si_id (by omega), si_id (by omega), si_id (by omega), si_id (by omega)]
  have u2 : u7.2 = u.2 := by rw [← hu7]; rfl
  have F7 : FAx p e u u7 := by rw [← hu7]; exact ((((FAx.refl u).si (by omega)).si (by omega)).si (by omega)).si (by omega)
  have hX : XS sT z cnt E p f e s4 u7 k un 0 0 0 0 [] := by
    refine ⟨h.at.to (by rw [so 50 (by decide)]) (fun id a b => so id (by omega)) (fun id a b => uo id (by omega)) (by rw [u2]), by rw [so 49 (by decide)]; exact h.pp, by rw [uo 227 (by omega)]; exact h.rd, by rw [so 65 (by decide)]; exact h.u1, by rw [uo 212 (by omega)]; exact h.u2, by rw [uo 208 (by omega)]; exact h.bd, by rw [so 67 (by decide)]; exact h.cc, by rw [uo 215 (by omega)]; exact h.ac, fun i i1 => by omega, fun i _ i1 => by omega, ⟨?_, trivial⟩, ?_, ?_, fun j hj => ?_⟩
    · rw [← hu7, si_o (by decide), si_o (by decide), si_o (by decide), si_eq]; rfl
    · rw [← hu7, si_o (by decide), si_o (by decide), si_eq]; rfl
    · rw [← hu7, si_o (by decide), si_eq]; rfl
    · obtain rfl : j = 0 := by omega
      rw [← hu7, si_eq]; exact zo0
  have h231 : u7.1 231 0 0 = 0 := by rw [← hu7, si_eq]
  have CB4 : CB (Xof o) p n f s s4 := by rw [← hs4]; exact (CB.refl s).si (Or.inr (Or.inl ⟨by omega, by omega, Or.inr ⟨Or.inl rfl, rfl⟩⟩)) trivial
  have hx : (200 : Int32) * nI p + nI e = nI (200 * p + e) := m200 p e
  have hR : r_exp u = r_exp_45 900 (nI (200 * p + e)) 1 1 u7 := by
    unfold r_exp
    simp only [bnd_d]
    rw [h.rd, gI (by omega) (by decide), nI_clamp (by omega), h.ac, grd_t ⟨ibN (n := 0) (by decide) (by decide), zo0⟩, hx]
    show r_exp_45 900 _ 1 1 (si (si (si (si u 229 0 0 0) 230 0 0 0) 232 0 0 0) 231 0 0 0) = _
    rw [hu7]
  have hK : ∀ v s5, (XF 40).1 0 s4 = some (v, s5) → zo v → s5.1 49 0 0 = nI p → ∀ c, s5.1 67 p 0 = c → k_isExpOf (nI o) s = some (v, si s5 72 p o c) := fun v s5 a1 a2 a3 c a4 => by
    unfold k_isExpOf
    rw [h.pp, gI (by omega) (by decide), nI_clamp (by omega), gI (by omega) (by decide), bnd_d, h.cc, gI ho (by decide), nI_clamp (by omega), hs4, a1, cal2_s, a3, gI (by omega) (by decide), nI_clamp (by omega), gI (by omega) (by decide), bnd_d, a4, gI ho (by decide), gz a2]
  obtain ⟨v, s5, g1, g2, g3⟩ := (gAll (x := nI (200 * p + e)) (f := f) (e := e) (un0 := un) (p := p) X hp (by omega) (by omega) 40).1 0 s4 u7 k un 0 0 [] hX trivial trivial (by omega) (by omega) (Nat.le_refl _) u6 (by show 0 + 0 ≤ _; omega) (by show 0 ≤ _; omega) (fun _ => h231) (by omega)
  have g1 : (XF 40).1 0 s4 = some (v, s5) := g1
  have CB5 : CB (Xof o) p n f s s5 := CB4.trans g2.cb
  rcases g3 with ⟨rfl, u1, k', un', c', a', Pe, o1, o2, o3, o4, o5, o6, o7, o8, o9, o10⟩ | ⟨rfl, k', u', q1, q2, q3, q4, q5, q6, q7⟩
  · have uu := o10 rfl; have u6' := o1.u6; have kl := o2.at.kl; have k1 := o1.k1
    have o7 : c' + 0 + 1 ≤ 2 * (un' - un) := o7
    have o4 : Pe.length ≤ 3 := o4
    obtain ⟨u2', r1, r2, r3, r4⟩ := xs_red hp ⟨Nat.le_refl 1, by decide⟩ (show stops 1 [] from trivial) Pe a' 70 u1 o2 o5 o6 o3 (by omega) (by show Pe.length + 0 < 63; omega) (by omega)
    have h232 : u1.1 232 0 0 = 0 := o2.le
    have hst : r_exp_45 900 (nI (200 * p + e)) 1 1 u7 = some (nI (200 * p + e), acU u2' p (e + c') 4 (-1) 0) := by
      have e9 : (900 : Nat) = ((898 - (k' - k)) + 2) + (k' - k) := by omega
      rw [e9, o1.rn, ex_stop o2 (by omega) (Or.inr rfl) (by rcases o8 with q | q <;> omega) (fun q => by rcases o8 with q' | q'; (· omega); (· exact q'.2.2))]
      unfold r_exp_274
      rw [bnd_d, h232, if_pos (by decide)]
      unfold r_exp_285 r_reduce
      rw [show r_reduce_0 70 1 u1 = _ from r1, cal_s, r_act_eq hp (by omega) r2.rd r2.ac, cal_s]
    have FA : FAx p e u (acU u2' p (e + c') 4 (-1) 0) := ((F7.trans o1.fa).trans r3).act ⟨by omega, by omega⟩
    have s10 : ∀ id, id ≠ 72 → (si s5 72 p o (nI (f + c'))).1 id = s5.1 id := fun id q => si_id q
    have CB10 : CB (Xof o) p n f s (si s5 72 p o (nI (f + c'))) := CB5.si (Or.inr (Or.inl ⟨by omega, by omega, Or.inr ⟨Or.inr rfl, rfl⟩⟩)) trivial
    have so5 : ∀ id, ¬ (id = 71 ∨ id = 50 ∨ id = 65 ∨ id = 67 ∨ id = 75 ∨ id = 76) → s5.1 id = s.1 id := fun id q => by rw [g2.o1 id (by omega), so id (by omega)]
    refine ⟨1, _, _, hK 1 s5 g1 zo1 o2.pp _ o2.cc, by rw [hR, hst], CB10, FA.rb, Or.inl ⟨rfl, k', un', c', o1.k1, ⟨?_, ?_, ?_, ?_, ?_, h.n4, ?_, ?_, u6', ?_, ?_, ?_, by omega, ?_, by omega, ?_, h.d8⟩, ?_, si_eq, fun i hi => ?_, by rw [Nat.add_assoc]; exact ac_v.1, ?_⟩⟩
    · exact r2.at.to (by rw [s10 50 (by decide)]) (fun id a b => s10 id (by omega)) (fun id a b => ac_id (by omega)) (by rw [ac_2 (by decide)])
    · rw [s10 49 (by decide)]; exact o2.pp
    · rw [ac_id (by decide)]; exact r2.rd
    · rw [s10 64 (by decide), so5 64 (by decide)]; exact h.n1
    · rw [FA.o1 211 (by omega)]; exact h.n2
    · rw [s10 65 (by decide)]; exact o2.u1
    · rw [ac_id (by decide)]; exact r2.u2
    · rw [s10 66 (by decide), so5 66 (by decide), FA.o1 213 (by omega)]; exact h.dp
    · rw [ac_id (by decide)]; exact r2.bd
    · rw [s10 67 (by decide)]; exact o2.cc
    · exact ac_215
    · rw [FA.o1 236 (by omega)]; exact h.wi
    · rw [s10 71 (by decide), g2.o1 71 (by decide), ← hs4]; exact si_eq
    · exact CdR_to (r2.aa i hi hi) (by rw [s10 75 (by decide)]) (by rw [s10 76 (by decide)]) (ac_q (Or.inl rfl) (by omega)) (ac_q (Or.inr rfl) (by omega)) (ac_q2 (by omega))
    · have ev := evF_ok _ _ _ (o1.ev 0 (by omega))
      rw [Nat.sub_zero, Nat.add_zero] at ev
      exact evOK_to _ _ _ (fun i _ _ => ⟨by rw [s10 75 (by decide)], by rw [s10 76 (by decide)]⟩) ev
  · have kl : k ≤ k' := q1
    have hpp : s5.1 49 0 0 = nI p := by rw [g2.o1 49 (by decide), so 49 (by decide)]; exact h.pp
    have e9 : (900 : Nat) = (898 - (k' - k)) + (k' - k) + 2 := by omega
    refine ⟨0, _, u', hK 0 s5 g1 zo0 hpp _ rfl, by rw [hR, e9, q7], CB5.si (Or.inr (Or.inl ⟨by omega, by omega, Or.inr ⟨Or.inr rfl, rfl⟩⟩)) trivial, (F7.trans q4).rb, Or.inr ⟨rfl, k', q1, q2, by rw [si_o (by decide)]; exact q3, q5, q6⟩⟩
