/-! exps on both sides: the steps -/
def XS (sT : St) (z cnt : Nat) (E : Nat → Nat) (p f e : Nat) (s u : St) (k un c a w lv : Nat) (Q : List Int32) : Prop := (At sT z cnt E s u k) ∧ (s.1 49 0 0 = nI p) ∧ (u.1 227 0 0 = nI p) ∧ (s.1 65 p 0 = nI un) ∧ (u.1 212 0 p = nI un) ∧ (u.1 208 0 0 = 0) ∧ (s.1 67 p 0 = nI (f + c)) ∧ (u.1 215 0 p = nI (e + a)) ∧ (∀ i, i < a → i < c → CdR s u p (f + i) (200 * p + e + i)) ∧ (∀ i, c ≤ i → i < a → u.1 224 0 (200 * p + e + i) = 3) ∧ (PQ u Q) ∧ (u.1 230 0 0 = nI w) ∧ (u.1 232 0 0 = nI lv) ∧ (∀ j, j ≤ lv → zo (u.1 231 0 j))
theorem XS.at {sT : St} {z cnt : Nat} {E : Nat → Nat} {p f e : Nat} {s u : St} {k un c a w lv : Nat} {Q : List Int32} (h : XS sT z cnt E p f e s u k un c a w lv Q) : At sT z cnt E s u k := h.1
theorem XS.pp {sT : St} {z cnt : Nat} {E : Nat → Nat} {p f e : Nat} {s u : St} {k un c a w lv : Nat} {Q : List Int32} (h : XS sT z cnt E p f e s u k un c a w lv Q) : s.1 49 0 0 = nI p := h.2.1
theorem XS.rd {sT : St} {z cnt : Nat} {E : Nat → Nat} {p f e : Nat} {s u : St} {k un c a w lv : Nat} {Q : List Int32} (h : XS sT z cnt E p f e s u k un c a w lv Q) : u.1 227 0 0 = nI p := h.2.2.1
theorem XS.u1 {sT : St} {z cnt : Nat} {E : Nat → Nat} {p f e : Nat} {s u : St} {k un c a w lv : Nat} {Q : List Int32} (h : XS sT z cnt E p f e s u k un c a w lv Q) : s.1 65 p 0 = nI un := h.2.2.2.1
theorem XS.u2 {sT : St} {z cnt : Nat} {E : Nat → Nat} {p f e : Nat} {s u : St} {k un c a w lv : Nat} {Q : List Int32} (h : XS sT z cnt E p f e s u k un c a w lv Q) : u.1 212 0 p = nI un := h.2.2.2.2.1
theorem XS.bd {sT : St} {z cnt : Nat} {E : Nat → Nat} {p f e : Nat} {s u : St} {k un c a w lv : Nat} {Q : List Int32} (h : XS sT z cnt E p f e s u k un c a w lv Q) : u.1 208 0 0 = 0 := h.2.2.2.2.2.1
theorem XS.cc {sT : St} {z cnt : Nat} {E : Nat → Nat} {p f e : Nat} {s u : St} {k un c a w lv : Nat} {Q : List Int32} (h : XS sT z cnt E p f e s u k un c a w lv Q) : s.1 67 p 0 = nI (f + c) := h.2.2.2.2.2.2.1
theorem XS.ac {sT : St} {z cnt : Nat} {E : Nat → Nat} {p f e : Nat} {s u : St} {k un c a w lv : Nat} {Q : List Int32} (h : XS sT z cnt E p f e s u k un c a w lv Q) : u.1 215 0 p = nI (e + a) := h.2.2.2.2.2.2.2.1
theorem XS.aa {sT : St} {z cnt : Nat} {E : Nat → Nat} {p f e : Nat} {s u : St} {k un c a w lv : Nat} {Q : List Int32} (h : XS sT z cnt E p f e s u k un c a w lv Q) : ∀ i, i < a → i < c → CdR s u p (f + i) (200 * p + e + i) := h.2.2.2.2.2.2.2.2.1
theorem XS.ah {sT : St} {z cnt : Nat} {E : Nat → Nat} {p f e : Nat} {s u : St} {k un c a w lv : Nat} {Q : List Int32} (h : XS sT z cnt E p f e s u k un c a w lv Q) : ∀ i, c ≤ i → i < a → u.1 224 0 (200 * p + e + i) = 3 := h.2.2.2.2.2.2.2.2.2.1
theorem XS.pq {sT : St} {z cnt : Nat} {E : Nat → Nat} {p f e : Nat} {s u : St} {k un c a w lv : Nat} {Q : List Int32} (h : XS sT z cnt E p f e s u k un c a w lv Q) : PQ u Q := h.2.2.2.2.2.2.2.2.2.2.1
theorem XS.op {sT : St} {z cnt : Nat} {E : Nat → Nat} {p f e : Nat} {s u : St} {k un c a w lv : Nat} {Q : List Int32} (h : XS sT z cnt E p f e s u k un c a w lv Q) : u.1 230 0 0 = nI w := h.2.2.2.2.2.2.2.2.2.2.2.1
theorem XS.le {sT : St} {z cnt : Nat} {E : Nat → Nat} {p f e : Nat} {s u : St} {k un c a w lv : Nat} {Q : List Int32} (h : XS sT z cnt E p f e s u k un c a w lv Q) : u.1 232 0 0 = nI lv := h.2.2.2.2.2.2.2.2.2.2.2.2.1
theorem XS.zc {sT : St} {z cnt : Nat} {E : Nat → Nat} {p f e : Nat} {s u : St} {k un c a w lv : Nat} {Q : List Int32} (h : XS sT z cnt E p f e s u k un c a w lv Q) : ∀ j, j ≤ lv → zo (u.1 231 0 j) := h.2.2.2.2.2.2.2.2.2.2.2.2.2
/-- what reading an exp leaves of the PROGRAM's rows -/
def FCx (p f : Nat) (s s' : St) : Prop := (∀ id, ¬ (id = 50 ∨ id = 65 ∨ id = 67 ∨ id = 75 ∨ id = 76) → s'.1 id = s.1 id) ∧ (s'.2 = s.2) ∧ (∀ id o i, id = 65 ∨ id = 67 ∨ id = 75 ∨ id = 76 → o ≠ p → s'.1 id o i = s.1 id o i) ∧ (∀ id i, id = 75 ∨ id = 76 → i < f → s'.1 id p i = s.1 id p i)
theorem FCx.o1 {p f : Nat} {s s' : St} (h : FCx p f s s') : ∀ id, ¬ (id = 50 ∨ id = 65 ∨ id = 67 ∨ id = 75 ∨ id = 76) → s'.1 id = s.1 id := h.1
theorem FCx.o2 {p f : Nat} {s s' : St} (h : FCx p f s s') : s'.2 = s.2 := h.2.1
theorem FCx.qp {p f : Nat} {s s' : St} (h : FCx p f s s') : ∀ id o i, id = 65 ∨ id = 67 ∨ id = 75 ∨ id = 76 → o ≠ p → s'.1 id o i = s.1 id o i := h.2.2.1
theorem FCx.qc {p f : Nat} {s s' : St} (h : FCx p f s s') : ∀ id i, id = 75 ∨ id = 76 → i < f → s'.1 id p i = s.1 id p i := h.2.2.2
theorem FCx.refl {p f : Nat} (s : St) : FCx p f s s := ⟨fun _ _ => rfl, rfl, fun _ _ _ _ _ => rfl, fun _ _ _ _ => rfl⟩
theorem FCx.trans {p f : Nat} {s v w : St} (h : FCx p f s v) (h' : FCx p f v w) : FCx p f s w := ⟨fun id z => (h'.o1 id z).trans (h.o1 id z), h'.o2.trans h.o2, fun id o i z z2 => (h'.qp id o i z z2).trans (h.qp id o i z z2), fun id i z z2 => (h'.qc id i z z2).trans (h.qc id i z z2)⟩
def adC (s : St) (p n : Nat) (x y : Int32) : St := si (si (si s 75 p n x) 76 p n y) 67 p 0 (nI (n + 1))
theorem k_aC {s : St} {p n : Nat} {x y : Int32} (hn : n < 120) (h : s.1 67 p 0 = nI n) : k_addCode p x y s = some (1, adC s p n x y) := by
  unfold k_addCode adC
  rw [bnd_d, h, if_pos (show nI n < 120 from nI_lt (b := 120) hn (by decide)), bnd_d, gI (by omega) (by decide), nI_clamp (by omega), bnd_d, si_o (by decide), h, gI (by omega) (by decide), nI_clamp (by omega), bnd_d, si_o (by decide), si_o (by decide), h, bnd_d, nI_1]
theorem ad_o {s : St} {p n id o i : Nat} {x y : Int32} (h : ¬ (id = 67 ∨ id = 75 ∨ id = 76)) : (adC s p n x y).1 id o i = s.1 id o i := by unfold adC; rw [si_o (by omega), si_o (by omega), si_o (by omega)]
theorem ad_q {s : St} {p n id i : Nat} {x y : Int32} (h : id = 75 ∨ id = 76) (hi : i ≠ n) : (adC s p n x y).1 id p i = s.1 id p i := by unfold adC; rw [si_o (by omega), si_ne (fun z => hi z.2.2), si_ne (fun z => hi z.2.2)]
theorem ad_v {s : St} {p n : Nat} {x y : Int32} : (adC s p n x y).1 75 p n = x ∧ (adC s p n x y).1 76 p n = y ∧ (adC s p n x y).1 67 p 0 = nI (n + 1) := by
  unfold adC; exact ⟨by rw [si_o (by decide), si_o (by decide), si_eq], by rw [si_o (by decide), si_eq], si_eq⟩
theorem ad_F {s : St} {p f n : Nat} {x y : Int32} (hn : f ≤ n) : FCx p f s (adC s p n x y) := by
  refine ⟨fun id z => ?_, rfl, fun id o i z z2 => ?_, fun id i z z2 => ad_q z (by omega)⟩
  · funext o i; exact ad_o (by omega)
  · unfold adC; rw [si_ne (fun q => z2 q.2.1), si_ne (fun q => z2 q.2.1), si_ne (fun q => z2 q.2.1)]
theorem CdR_to {s u s' u' : St} {p f e : Nat} (h : CdR s u p f e) (e5 : s'.1 75 p f = s.1 75 p f) (e6 : s'.1 76 p f = s.1 76 p f) (a4 : u'.1 224 0 e = u.1 224 0 e) (a5 : u'.1 225 0 e = u.1 225 0 e) (a6 : u'.2 226 0 e = u.2 226 0 e) : CdR s' u' p f e := by
  unfold CdR at *; rw [e5, e6, a4, a5, a6]; exact h
/-- one more act on the reference's side: the next pending code -/
theorem xs_emit {sT s u : St} {z cnt p f e k un c a w lv : Nat} {E : Nat → Nat} {x : Int32} {Q : List Int32} (hp : p < 12) (h : XS sT z cnt E p f e s u k un c a w lv (x :: Q)) (hca : a < c) (hx : 1 ≤ stg x) (hcode : s.1 75 p (f + a) = x) (h2 : e + a < 200) :
    r_act x (-1) 0 (si u 229 0 0 (nI Q.length)) = some (acU (si u 229 0 0 (nI Q.length)) p (e + a) x (-1) 0) ∧ XS sT z cnt E p f e s (acU (si u 229 0 0 (nI Q.length)) p (e + a) x (-1) 0) k un c (a + 1) w lv Q ∧ FAx p e u (acU (si u 229 0 0 (nI Q.length)) p (e + a) x (-1) 0) ∧ (∀ id, id = 230 ∨ id = 231 ∨ id = 232 ∨ (200 ≤ id ∧ id ≤ 209) → (acU (si u 229 0 0 (nI Q.length)) p (e + a) x (-1) 0).1 id = u.1 id) := by
  have so : ∀ id, ¬ (id = 215 ∨ id = 224 ∨ id = 225 ∨ id = 229) → (acU (si u 229 0 0 (nI Q.length)) p (e + a) x (-1) 0).1 id = u.1 id := fun id q => by rw [ac_id (by omega), si_id (by omega)]
  refine ⟨r_act_eq hp h2 (by rw [si_o (by decide)]; exact h.rd) (by rw [si_o (by decide)]; exact h.ac), ⟨h.at.to rfl (fun _ _ _ => rfl) (fun id q1 q2 => so id (by omega)) (by rw [ac_2 (by decide)]; rfl), h.pp, by rw [so 227 (by omega)]; exact h.rd, h.u1, by rw [so 212 (by omega)]; exact h.u2, by rw [so 208 (by omega)]; exact h.bd, h.cc, by rw [ac_215]; rfl, fun i i1 i2 => ?_, fun i i1 i2 => ?_, ?_, by rw [so 230 (by omega)]; exact h.op, by rw [so 232 (by omega)]; exact h.le, fun j hj => by rw [so 231 (by omega)]; exact h.zc j hj⟩, (FAx.si (FAx.refl u) (by omega)).act (by omega), fun id q => so id (by omega)⟩
  · by_cases ei : i = a
    · subst ei
      rw [show 200 * p + e + i = 200 * p + (e + i) by omega]
      refine Or.inr (Or.inr (Or.inr ⟨by rw [hcode]; exact stg_op hx, ?_⟩))
      rw [ac_v.1, hcode]
    · refine CdR_to (h.aa i (by omega) i2) rfl rfl ?_ ?_ ?_
      · rw [ac_q (Or.inl rfl) (by omega), si_o (by decide)]
      · rw [ac_q (Or.inr rfl) (by omega), si_o (by decide)]
      · rw [ac_q2 (by omega)]; rfl
  · omega
  · exact (h.pq.pop).to (ac_id (by decide)) (ac_id (by decide))
theorem red_step {u : St} {Q : List Int32} {x y : Int32} {N : Nat} (h : PQ u (x :: Q)) (hl : Q.length < 63) : r_reduce_0 (N + 1) y u = if x = 40 then some u else if x = 1000 then some u else if nI (stg x) < y then some u else (cal (r_act x (-1) 0 (si u 229 0 0 (nI Q.length))) fun s14 => r_reduce_0 N y s14) := by
  have h1 : u.1 229 0 0 = nI (Q.length + 1) := h.1
  rw [r_reduce_0.eq_2]
  simp only [bnd_d, h1, nI_pred]
  rw [if_neg (nI_nle (by omega) (by omega)), gI (by omega) (by decide), nI_clamp (by omega), h.top, gI (by omega) (by decide), gI (by omega) (by decide), r_stg, cal2_s]
  simp only [bnd_d, h1, nI_pred, si_eq]
  rw [gI (by omega) (by decide), nI_clamp (by omega), si_o (by decide), h.top]
theorem red_nil {u : St} {y : Int32} {N : Nat} (h : PQ u []) : r_reduce_0 (N + 1) y u = some u := by
  have h1 : u.1 229 0 0 = nI 0 := h.1
  rw [r_reduce_0.eq_2, bnd_d, h1, if_pos (by decide)]
/-- reduce, down to a pile that stops it -/
theorem xs_red {sT s : St} {z cnt p f e k un c w lv n : Nat} {E : Nat → Nat} {B : List Int32} (hp : p < 12) (hn : 1 ≤ n ∧ n ≤ 3) (hB : stops n B) : ∀ (Pe : List Int32) (a N : Nat) (u : St), XS sT z cnt E p f e s u k un c a w lv (Pe ++ B) → c = a + Pe.length → PD s p f a Pe → (∀ x, x ∈ Pe → n ≤ stg x) → e + c < 200 → Pe.length + B.length < 63 → Pe.length < N →
    ∃ u', r_reduce_0 N (nI n) u = some u' ∧ XS sT z cnt E p f e s u' k un c c w lv B ∧ FAx p e u u' ∧ (∀ id, id = 230 ∨ id = 231 ∨ id = 232 ∨ (200 ≤ id ∧ id ≤ 209) → u'.1 id = u.1 id) := by
  intro Pe
  induction Pe with
  | nil =>
    intro a N u h hc hP hS h2 hl hN
    obtain ⟨N, rfl⟩ : ∃ q, N = q + 1 := ⟨N - 1, by have : 0 < N := hN; omega⟩
    have hc : c = a := hc
    subst hc
    refine ⟨u, ?_, h, FAx.refl u, fun _ _ => rfl⟩
    have h : XS sT z cnt E p f e s u k un c c w lv B := h
    cases B with
    | nil => exact red_nil h.pq
    | cons x r =>
      have hr : 0 + (r.length + 1) < 63 := hl
      have g3 := stg_le x
      rw [red_step h.pq (by omega)]
      by_cases q1 : x = 40
      · rw [if_pos q1]
      · rw [if_neg q1]
        by_cases q2 : x = 1000
        · rw [if_pos q2]
        · rw [if_neg q2, if_pos]
          rcases hB with q | q | q
          · exact absurd q q1
          · exact absurd q q2
          · exact nI_lt q (by omega)
  | cons x r ih =>
    intro a N u h hc hP hS h2 hl hN
    have hN : r.length + 1 < N := hN
    obtain ⟨N, rfl⟩ : ∃ q, N = q + 1 := ⟨N - 1, by omega⟩
    have hc : c = a + (r.length + 1) := hc
    have hl : r.length + 1 + B.length < 63 := hl
    have el : (r ++ B).length = r.length + B.length := List.length_append
    have h : XS sT z cnt E p f e s u k un c a w lv (x :: (r ++ B)) := h
    have hx := hS x (List.mem_cons_self ..)
    have s40 : stg 40 = 0 := by decide
    have s1000 : stg 1000 = 0 := by decide
    have x1 : ¬ x = 40 := fun q => by rw [q] at hx; omega
    have x2 : ¬ x = 1000 := fun q => by rw [q] at hx; omega
    obtain ⟨r1, r2, r3, r4⟩ := xs_emit hp h (by omega) (by omega) hP.1 (by omega)
    obtain ⟨u', i1, i2, i3, i4⟩ := ih (a + 1) N _ r2 (by omega) hP.2 (fun y hy => hS y (List.mem_cons_of_mem _ hy)) h2 (by omega) (by omega)
    refine ⟨u', ?_, i2, r3.trans i3, fun id q => (i4 id q).trans (r4 id q)⟩
    have g3 := stg_le x
    rw [red_step h.pq (by omega), if_neg x1, if_neg x2, if_neg (nI_nlt hx (by omega)), r1, cal_s]
    exact i1
def noM : List Int32 → Prop
  | [] => True
  | x :: _ => ¬ x = 1000
/-- an operand is there: minuses go -/
theorem xs_pop {sT s : St} {z cnt p f e k un c lv : Nat} {E : Nat → Nat} {B : List Int32} (hp : p < 12) (hB : noM B) : ∀ (j a w N : Nat) (u : St), XS sT z cnt E p f e s u k un c a w lv (List.replicate j 1000 ++ B) → c ≤ a → j ≤ w → w ≤ 8 → e + a + j < 200 → j + B.length < 63 → j < N →
    ∃ u', r_operandIsThere_0 N u = some u' ∧ XS sT z cnt E p f e s u' k un c (a + j) (w - j) lv B ∧ FAx p e u u' ∧ (∀ id, id = 231 ∨ id = 232 ∨ (200 ≤ id ∧ id ≤ 209) → u'.1 id = u.1 id) := by
  intro j
  induction j with
  | zero =>
    intro a w N u h hc hj hw h2 hl hN
    obtain ⟨N, rfl⟩ : ∃ q, N = q + 1 := ⟨N - 1, by omega⟩
    have h : XS sT z cnt E p f e s u k un c a w lv B := h
    refine ⟨u, ?_, h, FAx.refl u, fun _ _ => rfl⟩
    cases B with
    | nil =>
      have h1 : u.1 229 0 0 = nI 0 := h.pq.1
      rw [r_operandIsThere_0.eq_2, bnd_d, h1, if_pos (by decide)]
    | cons x r =>
      have h1 : u.1 229 0 0 = nI (r.length + 1) := h.pq.1
      have hl : 0 + (r.length + 1) < 63 := hl
      rw [r_operandIsThere_0.eq_2]
      simp only [bnd_d, h1, nI_pred]
      rw [if_neg (nI_nle (by omega) (by omega)), gI (by omega) (by decide), nI_clamp (by omega), h.pq.top, if_neg hB]
  | succ j ih =>
    intro a w N u h hc hj hw h2 hl hN
    obtain ⟨N, rfl⟩ : ∃ q, N = q + 1 := ⟨N - 1, by omega⟩
    have h : XS sT z cnt E p f e s u k un c a w lv (1000 :: (List.replicate j 1000 ++ B)) := h
    have el : (List.replicate j (1000 : Int32) ++ B).length = j + B.length := by rw [List.length_append, List.length_replicate]
    generalize hQ : List.replicate j (1000 : Int32) ++ B = Q at h el ih
    have h1' : u.1 229 0 0 = nI (Q.length + 1) := h.pq.1
    have so : ∀ id, ¬ (id = 215 ∨ id = 224 ∨ id = 225 ∨ id = 229 ∨ id = 230) → (acU (si (si u 229 0 0 (nI Q.length)) 230 0 0 (nI (w - 1))) p (e + a) 3 (-1) 0).1 id = u.1 id := fun id q => by rw [ac_id (by omega), si_id (by omega), si_id (by omega)]
    have F : FAx p e u (acU (si (si u 229 0 0 (nI Q.length)) 230 0 0 (nI (w - 1))) p (e + a) 3 (-1) 0) := ((FAx.si (FAx.refl u) (by omega)).si (by omega)).act (by omega)
    have h1 : XS sT z cnt E p f e s (acU (si (si u 229 0 0 (nI Q.length)) 230 0 0 (nI (w - 1))) p (e + a) 3 (-1) 0) k un c (a + 1) (w - 1) lv Q := by
      refine ⟨h.at.to rfl (fun _ _ _ => rfl) (fun id q1 q2 => so id (by omega)) (by rw [ac_2 (by decide)]; rfl), h.pp, by rw [so 227 (by omega)]; exact h.rd, h.u1, by rw [so 212 (by omega)]; exact h.u2, by rw [so 208 (by omega)]; exact h.bd, h.cc, by rw [ac_215]; rfl, fun i i1 i2 => ?_, fun i i1 i2 => ?_, ?_, by rw [ac_o (by decide), si_eq], by rw [so 232 (by omega)]; exact h.le, fun j hj => by rw [so 231 (by omega)]; exact h.zc j hj⟩
      · refine CdR_to (h.aa i (by omega) i2) rfl rfl ?_ ?_ ?_
        · rw [ac_q (Or.inl rfl) (by omega), si_o (by decide), si_o (by decide)]
        · rw [ac_q (Or.inr rfl) (by omega), si_o (by decide), si_o (by decide)]
        · rw [ac_q2 (by omega)]; rfl
      · by_cases ei : i = a
        · subst ei; rw [show 200 * p + e + i = 200 * p + (e + i) by omega, ac_v.1]
        · rw [ac_q (Or.inl rfl) (by omega), si_o (by decide), si_o (by decide)]; exact h.ah i i1 (by omega)
      · exact (h.pq.pop).to (by rw [ac_id (by decide), si_id (by decide)]) (by rw [ac_id (by decide), si_id (by decide)])
    obtain ⟨u', i1, i2, i3, i4⟩ := ih (a + 1) (w - 1) N _ h1 (by omega) (by omega) (by omega) (by omega) (by omega) (by omega)
    refine ⟨u', ?_, ?_, F.trans i3, fun id q => (i4 id q).trans (so id (by omega))⟩
    · rw [r_operandIsThere_0.eq_2]
      simp only [bnd_d, h1', nI_pred]
      rw [if_neg (nI_nle (by omega) (by omega)), gI (by omega) (by decide), nI_clamp (by omega), h.pq.top, if_pos rfl, si_o (by decide), h.op, nI_s1 (by omega), r_act_eq (a := e + a) hp (by omega) (by rw [si_o (by decide), si_o (by decide)]; exact h.rd) (by rw [si_o (by decide), si_o (by decide)]; exact h.ac), cal_s]
      exact i1
    · rw [show a + (j + 1) = a + 1 + j by omega, show w - (j + 1) = w - 1 - j by omega]; exact i2
