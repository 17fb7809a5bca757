/-! exps on both sides: tokens, acts, the pile -/
def CX (sT : St) (z cnt : Nat) (E : Nat → Nat) : Prop := (z ≤ 800) ∧ (cnt ≤ 801) ∧ (0 < cnt) ∧ (∀ k, k < cnt → NXT sT z (E k) (E (k + 1)) k) ∧ (sT.1 96 0 (cnt - 1) = 0) ∧ (∀ k, k + 1 < cnt → ¬ sT.1 96 0 k = 0)
theorem CX.z8 {sT : St} {z cnt : Nat} {E : Nat → Nat} (h : CX sT z cnt E) : z ≤ 800 := h.1
theorem CX.c8 {sT : St} {z cnt : Nat} {E : Nat → Nat} (h : CX sT z cnt E) : cnt ≤ 801 := h.2.1
theorem CX.c0 {sT : St} {z cnt : Nat} {E : Nat → Nat} (h : CX sT z cnt E) : 0 < cnt := h.2.2.1
theorem CX.nx {sT : St} {z cnt : Nat} {E : Nat → Nat} (h : CX sT z cnt E) : ∀ k, k < cnt → NXT sT z (E k) (E (k + 1)) k := h.2.2.2.1
theorem CX.en {sT : St} {z cnt : Nat} {E : Nat → Nat} (h : CX sT z cnt E) : sT.1 96 0 (cnt - 1) = 0 := h.2.2.2.2.1
theorem CX.ne {sT : St} {z cnt : Nat} {E : Nat → Nat} (h : CX sT z cnt E) : ∀ k, k + 1 < cnt → ¬ sT.1 96 0 k = 0 := h.2.2.2.2.2
def KK (sT : St) (k : Nat) : Int32 := sT.1 96 0 k
/-- both sides stand at token k -/
def At (sT : St) (z cnt : Nat) (E : Nat → Nat) (s u : St) (k : Nat) : Prop := (k < cnt) ∧ (s.1 50 0 0 = nI k) ∧ (s.1 96 0 = sT.1 96 0) ∧ (s.1 97 0 = sT.1 97 0) ∧ (s.1 98 0 = sT.1 98 0) ∧ (TU sT u z) ∧ (u.1 202 0 0 = nI (E (k + 1))) ∧ (TkV (sT.1 96 0 k) (sT.1 97 0 k) (sT.1 98 0 k) u)
theorem At.kl {sT : St} {z cnt : Nat} {E : Nat → Nat} {s u : St} {k : Nat} (h : At sT z cnt E s u k) : k < cnt := h.1
theorem At.at5 {sT : St} {z cnt : Nat} {E : Nat → Nat} {s u : St} {k : Nat} (h : At sT z cnt E s u k) : s.1 50 0 0 = nI k := h.2.1
theorem At.t6 {sT : St} {z cnt : Nat} {E : Nat → Nat} {s u : St} {k : Nat} (h : At sT z cnt E s u k) : s.1 96 0 = sT.1 96 0 := h.2.2.1
theorem At.t7 {sT : St} {z cnt : Nat} {E : Nat → Nat} {s u : St} {k : Nat} (h : At sT z cnt E s u k) : s.1 97 0 = sT.1 97 0 := h.2.2.2.1
theorem At.t8 {sT : St} {z cnt : Nat} {E : Nat → Nat} {s u : St} {k : Nat} (h : At sT z cnt E s u k) : s.1 98 0 = sT.1 98 0 := h.2.2.2.2.1
theorem At.tu {sT : St} {z cnt : Nat} {E : Nat → Nat} {s u : St} {k : Nat} (h : At sT z cnt E s u k) : TU sT u z := h.2.2.2.2.2.1
theorem At.nx {sT : St} {z cnt : Nat} {E : Nat → Nat} {s u : St} {k : Nat} (h : At sT z cnt E s u k) : u.1 202 0 0 = nI (E (k + 1)) := h.2.2.2.2.2.2.1
theorem At.tv {sT : St} {z cnt : Nat} {E : Nat → Nat} {s u : St} {k : Nat} (h : At sT z cnt E s u k) : TkV (sT.1 96 0 k) (sT.1 97 0 k) (sT.1 98 0 k) u := h.2.2.2.2.2.2.2
theorem At.nxt {sT s u : St} {z cnt k : Nat} {E : Nat → Nat} (X : CX sT z cnt E) (h : At sT z cnt E s u k) (hK : ¬ KK sT k = 0) : ∃ u', r_next u = some u' ∧ FX u u' ∧ At sT z cnt E (si s 50 0 0 (nI (k + 1))) u' (k + 1) := by
  have hl : k + 1 < cnt := by
    have := h.kl
    rcases Nat.lt_or_ge (k + 1) cnt with q | q
    · exact q
    · exact absurd (by unfold KK; rw [show k = cnt - 1 by omega]; exact X.en) hK
  have z8 := X.z8
  obtain ⟨u', r1, r2, r3, r4⟩ := X.nx (k + 1) hl u 900 h.tu h.nx (by omega)
  refine ⟨u', r1, r2, hl, si_eq, ?_, ?_, ?_, h.tu.fx r2, r3, r4⟩
  · rw [si_id (by decide)]; exact h.t6
  · rw [si_id (by decide)]; exact h.t7
  · rw [si_id (by decide)]; exact h.t8
/-- while neither side reads on -/
theorem At.to {sT s u s' u' : St} {z cnt k : Nat} {E : Nat → Nat} (h : At sT z cnt E s u k) (e5 : s'.1 50 0 0 = s.1 50 0 0) (e6 : ∀ id, 96 ≤ id → id ≤ 98 → s'.1 id = s.1 id) (eu : ∀ id, 200 ≤ id → id ≤ 207 → u'.1 id = u.1 id) (e2 : u'.2 206 = u.2 206) : At sT z cnt E s' u' k := by
  refine ⟨h.kl, e5.trans h.at5, by rw [e6 96 (by omega) (by omega)]; exact h.t6, by rw [e6 97 (by omega) (by omega)]; exact h.t7, by rw [e6 98 (by omega) (by omega)]; exact h.t8, ⟨h.tu.1, by rw [eu 201 (by omega) (by omega)]; exact h.tu.2.1, fun i hi => by rw [eu 200 (by omega) (by omega)]; exact h.tu.2.2 i hi⟩, by rw [eu 202 (by omega) (by omega)]; exact h.nx, ?_⟩
  have := h.tv
  unfold TkV at *
  rw [eu 203 (by omega) (by omega), eu 204 (by omega) (by omega), eu 205 (by omega) (by omega), eu 207 (by omega) (by omega), e2]; exact this
theorem isG_lt {g : Nat} (h : isG g = true) : 35 ≤ g ∧ g < 126 := by
  have := of_decide_eq_true h
  simp only [List.mem_cons, List.not_mem_nil, or_false] at this
  omega
theorem tv_sign {K V P : Int32} {u : St} {c : Nat} (h : TkV K V P u) (hc : isG c = true) : r_isSign (nI c) u = some (if K = nI c then 1 else 0, u) := by
  have hc2 := isG_lt hc
  unfold r_isSign r_isSign_20
  rw [bnd_d, bnd_d]
  have no : ∀ q : Nat, q < 35 → ¬ nI q = nI c := fun q hq e => by have := (nI_eq (by omega) (by omega)).mp e; omega
  rcases h.2 with ⟨a, b⟩ | ⟨a, b | ⟨b, -⟩⟩ | ⟨a, _, _, _, b, _⟩ | ⟨a, _, _, _, b, _⟩ | ⟨a, _, _, _, b, _⟩ | ⟨w, w1, a, b⟩ | ⟨g, g1, a, b, d⟩
  · rw [b, a, if_neg (by decide), if_neg (show ¬ (0 : Int32) = nI c from no 0 (by decide))]
  · rw [b, a, if_neg (by decide), if_neg (show ¬ (1 : Int32) = nI c from no 1 (by decide))]
  · rw [b, a, if_neg (by decide), if_neg (show ¬ (1 : Int32) = nI c from no 1 (by decide))]
  · rw [b, a, if_neg (by decide), if_neg (show ¬ (2 : Int32) = nI c from no 2 (by decide))]
  · rw [b, a, if_neg (by decide), if_neg (show ¬ (3 : Int32) = nI c from no 3 (by decide))]
  · rw [b, a, if_neg (by decide), if_neg (show ¬ (4 : Int32) = nI c from no 4 (by decide))]
  · rw [b, a, if_neg (show ¬ nI (10 + w) = 4 from fun q => by have := (nI_eq (b := 4) (by omega) (by decide)).mp q; omega), if_neg (no (5 + w) (by omega))]
  · rw [b, d, a, if_pos rfl]
    by_cases e : nI g = nI c
    · rw [if_pos e, if_pos e]
    · rw [if_neg e, if_neg e]
/-- what kind of token it is, by the reference's registers -/
theorem tv_num {K V P : Int32} {u : St} (h : TkV K V P u) : (u.1 203 0 0 = 3 ↔ K = 4) := by
  rcases h.2 with ⟨a, b⟩ | ⟨a, b | ⟨b, -⟩⟩ | ⟨a, _, _, _, b, _⟩ | ⟨a, _, _, _, b, _⟩ | ⟨a, _, _, _, b, _⟩ | ⟨w, w1, a, b⟩ | ⟨g, g1, a, b, d⟩
  · rw [a, b]; decide
  · rw [a, b]; decide
  · rw [a, b]; decide
  · rw [a, b]; decide
  · rw [a, b]; decide
  · rw [a, b]; decide
  · rw [a, b]
    constructor
    · intro q; have := (nI_eq (b := 3) (by omega) (by decide)).mp q; omega
    · intro q; have := (nI_eq (b := 4) (by omega) (by decide)).mp q; omega
  · have := isG_lt g1
    rw [a, b]
    constructor
    · intro q; exact absurd q (by decide)
    · intro q; have := (nI_eq (b := 4) (by omega) (by decide)).mp q; omega
theorem tv_loc {K V P : Int32} {u : St} (h : TkV K V P u) : r_isLocal u = some (if K = 2 then 1 else 0, u) := by
  unfold r_isLocal r_isLocal_21
  rw [bnd_d, bnd_d]
  rcases h.2 with ⟨a, b⟩ | ⟨a, b | ⟨b, l, l1, l2, l3⟩⟩ | ⟨a, l, l1, _, b, l3⟩ | ⟨a, l, l1, _, b, l3⟩ | ⟨a, _, _, _, b, _⟩ | ⟨w, w1, a, b⟩ | ⟨g, g1, a, b, d⟩
  · rw [b, a, if_neg (by decide), if_neg (by decide)]
  · rw [b, a, if_neg (by decide), if_neg (by decide)]
  · rw [b, a, if_pos rfl, l3, if_pos (show nI l < 16 from nI_lt (b := 16) l2 (by decide)), if_neg (by decide)]
  · rw [b, a, if_pos rfl, l3, if_neg (show ¬ nI (16 + l) < 16 from nI_nlt (b := 16) (by omega) (by omega)), if_pos rfl]
  · rw [b, a, if_pos rfl, l3, if_pos (show nI l < 16 from nI_lt (b := 16) (by omega) (by decide)), if_neg (by decide)]
  · rw [b, a, if_neg (by decide), if_neg (by decide)]
  · rw [b, a, if_neg (show ¬ nI (10 + w) = 2 from fun q => by have := (nI_eq (b := 2) (by omega) (by decide)).mp q; omega), if_neg (show ¬ nI (5 + w) = 2 from fun q => by have := (nI_eq (b := 2) (by omega) (by decide)).mp q; omega)]
  · have := isG_lt g1
    rw [b, a, if_neg (by decide), if_neg (show ¬ nI g = 2 from fun q => by have := (nI_eq (b := 2) (by omega) (by decide)).mp q; omega)]
theorem k_is_eq {sT s u : St} {z cnt k : Nat} {E : Nat → Nat} {x : Int32} (X : CX sT z cnt E) (h : At sT z cnt E s u k) : k_is x s = if KK sT k = x then some (1, si s 50 0 0 (nI (k + 1))) else some (0, s) := by
  have c8 := X.c8
  have kl := h.kl
  unfold k_is
  rw [bnd_d, h.at5, gI (by omega) (by decide), nI_clamp (by omega), h.t6, bnd_d, bnd_d, nI_1]; rfl
/-! acts -/
def acU (u : St) (p a : Nat) (x y : Int32) (v : Int64) : St := sl (si (si (si u 215 0 p (nI (a + 1))) 224 0 (200 * p + a) x) 225 0 (200 * p + a) y) 226 0 (200 * p + a) v
theorem r_act_eq {u : St} {p a : Nat} {x y : Int32} {v : Int64} (hp : p < 12) (ha : a < 200) (h7 : u.1 227 0 0 = nI p) (h5 : u.1 215 0 p = nI a) : r_act x y v u = some (acU u p a x y v) := by
  unfold r_act acU
  rw [bnd_d, h7, bnd_d, gI (by omega) (by decide), nI_clamp (by omega), h5, bnd_d, gI (by omega) (by decide), gI (by omega) (by decide), nI_clamp (by omega), h5, nI_1, m200, gI (by omega) (by decide), nI_clamp (by omega), gI (by omega) (by decide), gI (by omega) (by decide)]
theorem ac_o {u : St} {p a id o e : Nat} {x y : Int32} {v : Int64} (h : ¬ (id = 215 ∨ id = 224 ∨ id = 225)) : (acU u p a x y v).1 id o e = u.1 id o e := by
  unfold acU; rw [sl_1, si_o (by omega), si_o (by omega), si_o (by omega)]
theorem ac_id {u : St} {p a id : Nat} {x y : Int32} {v : Int64} (h : ¬ (id = 215 ∨ id = 224 ∨ id = 225)) : (acU u p a x y v).1 id = u.1 id := by funext o e; exact ac_o h
theorem ac_2 {u : St} {p a id : Nat} {x y : Int32} {v : Int64} (h : id ≠ 226) : (acU u p a x y v).2 id = u.2 id := by unfold acU; rw [sl_id h]; rfl
theorem ac_215 {u : St} {p a : Nat} {x y : Int32} {v : Int64} : (acU u p a x y v).1 215 0 p = nI (a + 1) := by unfold acU; rw [sl_1, si_o (by decide), si_o (by decide), si_eq]
theorem ac_q {u : St} {p a id e : Nat} {x y : Int32} {v : Int64} (h : id = 224 ∨ id = 225) (he : e ≠ 200 * p + a) : (acU u p a x y v).1 id 0 e = u.1 id 0 e := by
  unfold acU; rw [sl_1, si_ne (fun z => he z.2.2), si_ne (fun z => he z.2.2), si_o (by omega)]
theorem ac_v {u : St} {p a : Nat} {x y : Int32} {v : Int64} : (acU u p a x y v).1 224 0 (200 * p + a) = x ∧ (acU u p a x y v).1 225 0 (200 * p + a) = y ∧ (acU u p a x y v).2 226 0 (200 * p + a) = v := by
  unfold acU
  refine ⟨by rw [sl_1, si_o (by decide), si_eq], by rw [sl_1, si_eq], sl_e⟩
theorem ac_q2 {u : St} {p a e : Nat} {x y : Int32} {v : Int64} (he : e ≠ 200 * p + a) : (acU u p a x y v).2 226 0 e = u.2 226 0 e := by unfold acU; rw [sl_q he]; rfl
/-! the pile, its top first -/
def pq (f : Nat → Int32) : List Int32 → Prop
  | [] => True
  | x :: r => f r.length = x ∧ pq f r
def PQ (u : St) (Q : List Int32) : Prop := u.1 229 0 0 = nI Q.length ∧ pq (fun i => u.1 228 0 i) Q
theorem pq_to {f g : Nat → Int32} : ∀ Q, (∀ i, i < Q.length → g i = f i) → pq f Q → pq g Q
  | [], _, _ => trivial
  | x :: r, h, hq => ⟨(h r.length (Nat.lt_succ_self _)).trans hq.1, pq_to r (fun i hi => h i (Nat.lt_succ_of_lt hi)) hq.2⟩
theorem PQ.to {u u' : St} {Q : List Int32} (h : PQ u Q) (e8 : u'.1 228 = u.1 228) (e9 : u'.1 229 = u.1 229) : PQ u' Q := by unfold PQ at *; rw [e8, e9]; exact h
theorem PQ.push {u : St} {Q : List Int32} {x : Int32} (h : PQ u Q) : PQ (si (si u 228 0 Q.length x) 229 0 0 (nI (Q.length + 1))) (x :: Q) := by
  refine ⟨si_eq, by show (si _ _ _ _ _).1 228 0 Q.length = x; rw [si_o (by decide), si_eq], pq_to Q (fun i hi => ?_) h.2⟩
  show (si _ _ _ _ _).1 228 0 i = u.1 228 0 i
  rw [si_o (by decide), si_q (by omega)]
theorem PQ.pop {u : St} {Q : List Int32} {x : Int32} (h : PQ u (x :: Q)) : PQ (si u 229 0 0 (nI Q.length)) Q := ⟨si_eq, pq_to Q (fun i _ => si_o (by decide)) h.2.2⟩
theorem PQ.top {u : St} {Q : List Int32} {x : Int32} (h : PQ u (x :: Q)) : u.1 228 0 Q.length = x := h.2.1
/-- how strong a sign is -/
def stg (x : Int32) : Nat := if x = 42 then 3 else if x = 43 then 2 else if x = 45 then 2 else if x = 60 then 1 else if x = 61 then 1 else if x = 35 then 1 else 0
theorem r_stg (x : Int32) (u : St) : r_strengthOf x u = some (nI (stg x), u) := by
  unfold r_strengthOf r_strengthOf_22 r_strengthOf_44 stg
  by_cases h1 : x = 42
  · rw [if_pos h1, if_pos h1]; rfl
  rw [if_neg h1, if_neg h1]
  by_cases h2 : x = 43
  · rw [if_pos h2, if_pos h2]; rfl
  rw [if_neg h2, if_neg h2]
  by_cases h3 : x = 45
  · rw [if_pos h3, if_pos h3]; rfl
  rw [if_neg h3, if_neg h3]
  by_cases h4 : x = 60
  · rw [if_pos h4, if_pos h4]; rfl
  rw [if_neg h4, if_neg h4]
  by_cases h5 : x = 61
  · rw [if_pos h5, if_pos h5]; rfl
  rw [if_neg h5, if_neg h5]
  by_cases h6 : x = 35
  · rw [if_pos h6, if_pos h6]; rfl
  rw [if_neg h6, if_neg h6]; rfl
theorem stg_le (x : Int32) : stg x ≤ 3 := by
  unfold stg
  split
  · omega
  · split
    · omega
    · split
      · omega
      · split
        · omega
        · split
          · omega
          · split <;> omega
/-- a reduce stops at this pile -/
def stops (n : Nat) : List Int32 → Prop
  | [] => True
  | x :: _ => x = 40 ∨ x = 1000 ∨ stg x < n
/-- acts against codes: the first a of this exp -/
def AA (s u : St) (p f e a : Nat) : Prop := ∀ i, i < a → CdR s u p (f + i) (200 * p + e + i)
def PD (s : St) (p f : Nat) : Nat → List Int32 → Prop
  | _, [] => True
  | a, x :: r => s.1 75 p (f + a) = x ∧ PD s p f (a + 1) r
theorem stg_op {x : Int32} (h : 1 ≤ stg x) : x ∈ ([42, 43, 45, 60, 61, 35] : List Int32) := by
  unfold stg at h
  simp only [List.mem_cons, List.not_mem_nil, or_false]
  by_cases h1 : x = 42
  · exact Or.inl h1
  by_cases h2 : x = 43
  · exact Or.inr (Or.inl h2)
  by_cases h3 : x = 45
  · exact Or.inr (Or.inr (Or.inl h3))
  by_cases h4 : x = 60
  · exact Or.inr (Or.inr (Or.inr (Or.inl h4)))
  by_cases h5 : x = 61
  · exact Or.inr (Or.inr (Or.inr (Or.inr (Or.inl h5))))
  by_cases h6 : x = 35
  · exact Or.inr (Or.inr (Or.inr (Or.inr (Or.inr h6))))
  rw [if_neg h1, if_neg h2, if_neg h3, if_neg h4, if_neg h5, if_neg h6] at h; omega
/-- what the acts of an exp leave as it was -/
def FAx (p e : Nat) (u u' : St) : Prop := (∀ id, ¬ (id = 215 ∨ id = 224 ∨ id = 225 ∨ id = 228 ∨ id = 229 ∨ id = 230 ∨ id = 231 ∨ id = 232 ∨ id = 212 ∨ (202 ≤ id ∧ id ≤ 209)) → u'.1 id = u.1 id) ∧ (∀ id, ¬ (id = 206 ∨ id = 226) → u'.2 id = u.2 id) ∧ (∀ q, q ≠ p → u'.1 215 0 q = u.1 215 0 q ∧ u'.1 212 0 q = u.1 212 0 q) ∧ (∀ id i, id = 224 ∨ id = 225 → (i < 200 * p + e ∨ 200 * p + 200 ≤ i) → u'.1 id 0 i = u.1 id 0 i) ∧ (∀ i, (i < 200 * p + e ∨ 200 * p + 200 ≤ i) → u'.2 226 0 i = u.2 226 0 i) ∧ (u'.1 208 0 0 = 0 → u.1 208 0 0 = 0 ∧ u'.1 209 = u.1 209)
theorem FAx.o1 {p e : Nat} {u u' : St} (h : FAx p e u u') : ∀ id, ¬ (id = 215 ∨ id = 224 ∨ id = 225 ∨ id = 228 ∨ id = 229 ∨ id = 230 ∨ id = 231 ∨ id = 232 ∨ id = 212 ∨ (202 ≤ id ∧ id ≤ 209)) → u'.1 id = u.1 id := h.1
theorem FAx.o2 {p e : Nat} {u u' : St} (h : FAx p e u u') : ∀ id, ¬ (id = 206 ∨ id = 226) → u'.2 id = u.2 id := h.2.1
theorem FAx.q5 {p e : Nat} {u u' : St} (h : FAx p e u u') : ∀ q, q ≠ p → u'.1 215 0 q = u.1 215 0 q ∧ u'.1 212 0 q = u.1 212 0 q := h.2.2.1
theorem FAx.qa {p e : Nat} {u u' : St} (h : FAx p e u u') : ∀ id i, id = 224 ∨ id = 225 → (i < 200 * p + e ∨ 200 * p + 200 ≤ i) → u'.1 id 0 i = u.1 id 0 i := h.2.2.2.1
theorem FAx.q2 {p e : Nat} {u u' : St} (h : FAx p e u u') : ∀ i, (i < 200 * p + e ∨ 200 * p + 200 ≤ i) → u'.2 226 0 i = u.2 226 0 i := h.2.2.2.2.1
theorem FAx.q9 {p e : Nat} {u u' : St} (h : FAx p e u u') : u'.1 208 0 0 = 0 → u.1 208 0 0 = 0 ∧ u'.1 209 = u.1 209 := h.2.2.2.2.2
theorem FAx.refl {p e : Nat} (u : St) : FAx p e u u := ⟨fun _ _ => rfl, fun _ _ => rfl, fun _ _ => ⟨rfl, rfl⟩, fun _ _ _ _ => rfl, fun _ _ => rfl, fun z => ⟨z, rfl⟩⟩
theorem FAx.trans {p e : Nat} {u v w : St} (h : FAx p e u v) (h' : FAx p e v w) : FAx p e u w := ⟨fun id z => (h'.o1 id z).trans (h.o1 id z), fun id z => (h'.o2 id z).trans (h.o2 id z), fun q z => ⟨(h'.q5 q z).1.trans (h.q5 q z).1, (h'.q5 q z).2.trans (h.q5 q z).2⟩, fun id i z z2 => (h'.qa id i z z2).trans (h.qa id i z z2), fun i z => (h'.q2 i z).trans (h.q2 i z), fun z => ⟨(h.q9 (h'.q9 z).1).1, (h'.q9 z).2.trans (h.q9 (h'.q9 z).1).2⟩⟩
theorem FAx.si {p e : Nat} {u v : St} {id i : Nat} {x : Int32} (h : FAx p e u v) (hi : id = 228 ∨ id = 229 ∨ id = 230 ∨ id = 231 ∨ id = 232 ∨ (202 ≤ id ∧ id ≤ 207)) : FAx p e u (si v id 0 i x) :=
  h.trans ⟨fun a z => si_id (by omega), fun _ _ => rfl, fun q _ => ⟨si_o (by omega), si_o (by omega)⟩, fun a j z _ => si_o (by omega), fun _ _ => rfl, fun z => ⟨by rw [si_o (by omega)] at z; exact z, si_id (by omega)⟩⟩
theorem FAx.act {p e : Nat} {u v : St} {a : Nat} {x y : Int32} {w : Int64} (h : FAx p e u v) (ha : e ≤ a ∧ a < 200) : FAx p e u (acU v p a x y w) := by
  refine h.trans ⟨fun id z => ac_id (by omega), fun id z => ac_2 (by omega), fun q z => ⟨?_, by rw [ac_o (by omega)]⟩, fun id i z z2 => ac_q z (by omega), fun i z => ac_q2 (by omega), fun z => ⟨by rw [ac_o (by omega)] at z; exact z, ac_id (by omega)⟩⟩
  unfold acU; rw [sl_1, si_o (by decide), si_o (by decide), si_q z]
theorem FAx.fx {p e : Nat} {u v w : St} (h : FAx p e u v) (f : FX v w) : FAx p e u w :=
  h.trans ⟨fun id z => f.1 id (by omega), fun id z => f.2 id (by omega), fun q _ => ⟨by rw [f.1 215 (by omega)], by rw [f.1 212 (by omega)]⟩, fun id i z _ => by rw [f.1 id (by omega)], fun i _ => by rw [f.2 226 (by omega)], fun z => ⟨by rw [f.1 208 (by omega)] at z; exact z, f.1 209 (by omega)⟩⟩
