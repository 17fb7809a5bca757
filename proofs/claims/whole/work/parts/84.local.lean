/-! a text changes nothing of the PROGRAMS before -/
def TYc (pc : Nat) (s s' : St) : Prop := (∀ id, id < 200 → ¬ (id = 49 ∨ id = 50 ∨ (64 ≤ id ∧ id ≤ 76) ∨ (96 ≤ id ∧ id ≤ 99) ∨ id = 129 ∨ id = 132 ∨ id = 133) → s'.1 id = s.1 id) ∧ (∀ id, id < 200 → s'.2 id = s.2 id) ∧ (∀ id o i, 64 ≤ id → id ≤ 76 → o ≠ pc → s'.1 id o i = s.1 id o i)
theorem TYc.o1 {pc : Nat} {s s' : St} (h : TYc pc s s') : ∀ id, id < 200 → ¬ (id = 49 ∨ id = 50 ∨ (64 ≤ id ∧ id ≤ 76) ∨ (96 ≤ id ∧ id ≤ 99) ∨ id = 129 ∨ id = 132 ∨ id = 133) → s'.1 id = s.1 id := h.1
theorem TYc.o2 {pc : Nat} {s s' : St} (h : TYc pc s s') : ∀ id, id < 200 → s'.2 id = s.2 id := h.2.1
theorem TYc.qp {pc : Nat} {s s' : St} (h : TYc pc s s') : ∀ id o i, 64 ≤ id → id ≤ 76 → o ≠ pc → s'.1 id o i = s.1 id o i := h.2.2
def TYu (pc : Nat) (u u' : St) : Prop := (∀ id, 200 ≤ id → ¬ (201 ≤ id ∧ id ≤ 236) → u'.1 id = u.1 id) ∧ (∀ id, 200 ≤ id → ¬ (id = 206 ∨ id = 226) → u'.2 id = u.2 id) ∧ (∀ id q, 211 ≤ id → id ≤ 215 → q ≠ pc → u'.1 id 0 q = u.1 id 0 q) ∧ (∀ id i, 216 ≤ id → id ≤ 223 → id ≠ 219 → id ≠ 220 → i < 40 * pc ∨ 40 * pc + 40 ≤ i → u'.1 id 0 i = u.1 id 0 i) ∧ (∀ id i, id = 219 ∨ id = 220 → i < 3 * (40 * pc) ∨ 3 * (40 * pc + 40) ≤ i → u'.1 id 0 i = u.1 id 0 i) ∧ (∀ id i, id = 224 ∨ id = 225 → (i < 200 * pc ∨ 200 * pc + 200 ≤ i) → u'.1 id 0 i = u.1 id 0 i) ∧ (∀ i, (i < 200 * pc ∨ 200 * pc + 200 ≤ i) → u'.2 226 0 i = u.2 226 0 i)
theorem TYu.o1 {pc : Nat} {u u' : St} (h : TYu pc u u') : ∀ id, 200 ≤ id → ¬ (201 ≤ id ∧ id ≤ 236) → u'.1 id = u.1 id := h.1
theorem TYu.o2 {pc : Nat} {u u' : St} (h : TYu pc u u') : ∀ id, 200 ≤ id → ¬ (id = 206 ∨ id = 226) → u'.2 id = u.2 id := h.2.1
theorem TYu.q5 {pc : Nat} {u u' : St} (h : TYu pc u u') : ∀ id q, 211 ≤ id → id ≤ 215 → q ≠ pc → u'.1 id 0 q = u.1 id 0 q := h.2.2.1
theorem TYu.qs {pc : Nat} {u u' : St} (h : TYu pc u u') : ∀ id i, 216 ≤ id → id ≤ 223 → id ≠ 219 → id ≠ 220 → i < 40 * pc ∨ 40 * pc + 40 ≤ i → u'.1 id 0 i = u.1 id 0 i := h.2.2.2.1
theorem TYu.qb {pc : Nat} {u u' : St} (h : TYu pc u u') : ∀ id i, id = 219 ∨ id = 220 → i < 3 * (40 * pc) ∨ 3 * (40 * pc + 40) ≤ i → u'.1 id 0 i = u.1 id 0 i := h.2.2.2.2.1
theorem TYu.qa {pc : Nat} {u u' : St} (h : TYu pc u u') : ∀ id i, id = 224 ∨ id = 225 → (i < 200 * pc ∨ 200 * pc + 200 ≤ i) → u'.1 id 0 i = u.1 id 0 i := h.2.2.2.2.2.1
theorem TYu.q2 {pc : Nat} {u u' : St} (h : TYu pc u u') : ∀ i, (i < 200 * pc ∨ 200 * pc + 200 ≤ i) → u'.2 226 0 i = u.2 226 0 i := h.2.2.2.2.2.2
theorem XR_sd {sd sd' : Nat → Nat → Nat} {p n k : Nat} {c r : Int32} (h : XR sd p n c r k) (hs : ∀ a, sd' p a = sd p a) : XR sd' p n c r k := by
  rcases h with h | ⟨a, a1, a2, a3, a4⟩
  · exact Or.inl h
  · exact Or.inr ⟨a, a1, a2, a3, by rw [hs]; exact a4⟩
theorem StR.loc {sd sd' : Nat → Nat → Nat} {s u s' u' : St} {pc p n a : Nat} (h : StR sd s u p n a) (C : TYc pc s s') (R : TYu pc u u') (hp : p ≠ pc) (ha : a < 40) (hs : ∀ a, sd' p a = sd p a) : StR sd' s' u' p n a := by
  have c : ∀ id i, 64 ≤ id → id ≤ 76 → s'.1 id p i = s.1 id p i := fun id i z1 z2 => C.qp id p i z1 z2 hp
  have r : ∀ id, 216 ≤ id → id ≤ 223 → id ≠ 219 → id ≠ 220 → u'.1 id 0 (40 * p + a) = u.1 id 0 (40 * p + a) := fun id z1 z2 z3 z4 => R.qs id _ z1 z2 z3 z4 (by omega)
  have b : ∀ id w, id = 219 ∨ id = 220 → w < 3 → u'.1 id 0 (3 * (40 * p + a) + w) = u.1 id 0 (3 * (40 * p + a) + w) := fun id w z1 z2 => R.qb id _ z1 (by omega)
  refine ⟨?_, ?_, fun w hw => ?_, ?_, ?_, ?_, ?_, ?_, ?_, ?_, ?_⟩
  · rw [c 68 _ (by omega) (by omega), r 216 (by omega) (by omega) (by omega) (by omega)]; exact h.kd
  · rw [c 73 _ (by omega) (by omega), r 217 (by omega) (by omega) (by omega) (by omega), hs]; exact XR_sd h.nx hs
  · rw [c 74 _ (by omega) (by omega), b 219 w (Or.inl rfl) hw, b 220 w (Or.inr rfl) hw, hs]
    rcases h.bd w hw with t | ⟨t1, t2, t3⟩
    · exact Or.inl t
    · exact Or.inr ⟨t1, t2, XR_sd t3 hs⟩
  · rw [c 68 _ (by omega) (by omega), b 220 0 (Or.inr rfl) (by omega)]; exact h.b0
  · rw [c 68 _ (by omega) (by omega), b 220 1 (Or.inr rfl) (by omega)]; exact h.b1
  · rw [c 68 _ (by omega) (by omega), b 220 2 (Or.inr rfl) (by omega)]; exact h.b2
  · rw [c 68 _ (by omega) (by omega), c 69 _ (by omega) (by omega), r 221 (by omega) (by omega) (by omega) (by omega)]; exact h.lt
  · rw [c 68 _ (by omega) (by omega), c 70 _ (by omega) (by omega), r 222 (by omega) (by omega) (by omega) (by omega)]; exact h.bx
  · rw [c 68 _ (by omega) (by omega), c 70 _ (by omega) (by omega), r 223 (by omega) (by omega) (by omega) (by omega)]; exact h.sn
  · rw [c 68 _ (by omega) (by omega), c 70 _ (by omega) (by omega), r 223 (by omega) (by omega) (by omega) (by omega)]; exact h.wn
  · intro q
    rw [c 68 _ (by omega) (by omega)] at q
    obtain ⟨f, m, e, x1, x2, x3, x4, ⟨x5, x6, x7⟩, x8, x9, x10⟩ := h.xp q
    have pe : ∀ i, i ≤ m → e + i < 200 * pc ∨ 200 * pc + 200 ≤ e + i := fun i hi => by
      rcases Nat.lt_or_ge p pc with t | t
      · left; omega
      · right; omega
    exact ⟨f, m, e, by rw [c 71 _ (by omega) (by omega)]; exact x1, by rw [c 72 _ (by omega) (by omega)]; exact x2, x3, by rw [r 218 (by omega) (by omega) (by omega) (by omega)]; exact x4, ⟨x5, x6, x7⟩, fun i hi => CdR_to (x8 i hi) (c 75 _ (by omega) (by omega)) (c 76 _ (by omega) (by omega)) (R.qa 224 _ (Or.inl rfl) (pe i (by omega))) (R.qa 225 _ (Or.inr rfl) (pe i (by omega))) (R.q2 _ (pe i (by omega))), by rw [R.qa 224 _ (Or.inl rfl) (pe m (Nat.le_refl _))]; exact x9, evOK_to _ _ _ (fun i _ _ => ⟨c 75 _ (by omega) (by omega), c 76 _ (by omega) (by omega)⟩) x10⟩
theorem PR.loc {sd sd' : Nat → Nat → Nat} {s u s' u' : St} {pc p : Nat} (h : PR sd s u p) (C : TYc pc s s') (R : TYu pc u u') (hp : p ≠ pc) (hs : ∀ a, sd' p a = sd p a) : PR sd' s' u' p := by
  have c : ∀ id i, 64 ≤ id → id ≤ 76 → s'.1 id p i = s.1 id p i := fun id i z1 z2 => C.qp id p i z1 z2 hp
  have r : ∀ id, 211 ≤ id → id ≤ 215 → u'.1 id 0 p = u.1 id 0 p := fun id z1 z2 => R.q5 id p z1 z2 hp
  have hn : nS s' p = nS s p := by unfold nS; rw [c 64 _ (by omega) (by omega)]
  have n4 := h.n4.2
  refine ⟨?_, ?_, ?_, ?_, fun a ha => ?_, ?_⟩
  · rw [hn, c 64 _ (by omega) (by omega)]; exact h.n4
  · rw [c 64 _ (by omega) (by omega), r 211 (by omega) (by omega)]; exact h.e1
  · rw [c 65 _ (by omega) (by omega), r 212 (by omega) (by omega)]; exact h.e2
  · rw [c 66 _ (by omega) (by omega), r 213 (by omega) (by omega)]; exact h.e3
  · rw [hn] at ha ⊢
    exact (h.st a ha).loc C R hp (by omega) hs
  · rw [hn, c 74 _ (by omega) (by omega), r 214 (by omega) (by omega)]; exact XR_sd h.en hs
theorem LvR.loc {sd sd' : Nat → Nat → Nat} {s u s' u' : St} {pc t p b a w : Nat} (h : LvR sd s u t p b a w) (C : TYc pc s s') (R : TYu pc u u') (hp : p ≠ pc) (n4 : nS s p ≤ 40) (hs : ∀ a, sd' p a = sd p a) : LvR sd' s' u' t p b a w := by
  have c : ∀ id i, 64 ≤ id → id ≤ 76 → s'.1 id p i = s.1 id p i := fun id i z1 z2 => C.qp id p i z1 z2 hp
  have hn : nS s' p = nS s p := by unfold nS; rw [c 64 _ (by omega) (by omega)]
  have ha := h.1.1; have hw := h.1.2
  unfold LvR TmR HdR at *
  rw [hn, C.o1 0 (by omega) (by omega), C.o1 1 (by omega) (by omega), C.o1 2 (by omega) (by omega), C.o1 3 (by omega) (by omega), C.o1 4 (by omega) (by omega), C.o1 5 (by omega) (by omega), C.o1 6 (by omega) (by omega), C.o1 8 (by omega) (by omega), C.o1 16 (by omega) (by omega), c 70 _ (by omega) (by omega), C.o2 7 (by omega), R.qs 216 (40 * p + a) (by omega) (by omega) (by omega) (by omega) (by omega), R.qb 220 (3 * (40 * p + a) + w) (Or.inr rfl) (by omega), R.o1 247 (by omega) (by omega), R.o1 248 (by omega) (by omega), R.o1 249 (by omega) (by omega), R.o1 251 (by omega) (by omega), R.o1 252 (by omega) (by omega), R.o1 254 (by omega) (by omega), R.o2 250 (by omega) (by omega), R.o2 253 (by omega) (by omega), hs]
  exact h
theorem RwR.loc {s u s' u' : St} {pc t d c : Nat} (h : RwR s u t d c) (C : TYc pc s s') (R : TYu pc u u') : RwR s' u' t d c := by
  have cn : ∀ m k, cn81 s' t 6 m k = cn81 s t 6 m k := fun m => by
    induction m with
    | zero => intro k; rfl
    | succ m ih => intro k; unfold cn81; rw [C.o1 81 (by omega) (by omega), ih]
  refine ⟨by rw [C.o1 80 (by omega) (by omega)]; exact h.cs, by rw [R.o1 255 (by omega) (by omega)]; exact h.cu, h.c22, fun k hk => ?_, ?_, ?_, by rw [cn]; exact h.ou⟩
  · have := h.en k hk
    unfold RwE at *
    rw [C.o1 81 (by omega) (by omega), C.o1 82 (by omega) (by omega), C.o2 83 (by omega), R.o1 256 (by omega) (by omega), R.o1 258 (by omega) (by omega), R.o2 257 (by omega) (by omega)]; exact this
  · rw [C.o1 81 (by omega) (by omega), C.o1 82 (by omega) (by omega)]; exact h.un
  · rw [C.o1 82 (by omega) (by omega), C.o1 4 (by omega) (by omega)]; exact h.tm
theorem TH.loc {sd sd' : Nat → Nat → Nat} {s u s' u' : St} {pc pc' t : Nat} (h : TH sd pc s u t) (C : TYc pc s s') (R : TYu pc u u') (hpc : pc ≤ pc') (n4 : ∀ p, p < pc → nS s p ≤ 40) (hs : ∀ p a, p < pc → sd' p a = sd p a) : TH sd' pc' s' u' t := by
  have cA : ∀ m, cntA s' t m = cntA s t m := fun m => by
    induction m with
    | zero => rfl
    | succ m ih => unfold cntA; rw [C.o1 4 (by omega) (by omega), ih]
  refine ⟨⟨?_, ?_, ?_, fun k hk => ?_⟩, ?_, ?_⟩
  · rw [C.o1 38 (by omega) (by omega), R.o1 240 (by omega) (by omega)]; exact h.tb.st
  · rw [C.o1 40 (by omega) (by omega), R.o1 243 (by omega) (by omega)]; exact h.tb.sp
  · rw [C.o2 43 (by omega), R.o2 244 (by omega) (by omega)]; exact h.tb.di
  · rw [C.o2 34 (by omega), R.o2 245 (by omega) (by omega)]; exact h.tb.lo k hk
  · rw [C.o1 32 (by omega) (by omega)]; exact h.nu
  · rw [C.o1 38 (by omega) (by omega)]
    rcases h.ru with ⟨r1, p, d, c, r2, T, P, Q⟩ | ⟨r1, I⟩
    · have hp : p ≠ pc := by omega
      have hs' : ∀ a, sd' p a = sd p a := fun a => hs p a r2
      have hn : nS s' p = nS s p := by unfold nS; rw [C.qp 64 p 0 (by omega) (by omega) hp]
      refine Or.inl ⟨r1, p, d, c, by omega, ⟨?_, ?_, ?_, T.d8, ?_, fun b b1 b2 => ?_, T.rw.loc C R, ?_⟩, ?_, ?_⟩
      · rw [C.o1 37 (by omega) (by omega)]; exact T.hp
      · rw [C.o1 41 (by omega) (by omega)]; exact T.ds
      · rw [R.o1 246 (by omega) (by omega)]; exact T.du
      · rw [C.o1 39 (by omega) (by omega), R.o1 242 (by omega) (by omega)]; exact T.st
      · obtain ⟨a, w, l⟩ := T.lv b b1 b2
        exact ⟨a, w, l.loc C R hp (n4 p r2) hs'⟩
      · rw [C.o1 42 (by omega) (by omega), cA]; exact T.aw
      · unfold PS at *
        rw [hn, C.o1 3 (by omega) (by omega), R.o1 241 (by omega) (by omega)]; exact XR_sd P hs'
      · unfold SP at *
        rw [hn, C.o1 44 (by omega) (by omega), C.o1 3 (by omega) (by omega)]
        rcases Q with Q | ⟨a, q1, q2, q3, q4⟩
        · exact Or.inl Q
        · exact Or.inr ⟨a, q1, q2, by rw [C.qp 68 p a (by omega) (by omega) hp]; exact q3, by rw [C.qp 70 p a (by omega) (by omega) hp]; exact q4⟩
    · refine Or.inr ⟨r1, ?_, ?_, ?_, ?_, ?_, ?_⟩
      · rw [C.o1 80 (by omega) (by omega)]; exact I.a0
      · rw [R.o1 255 (by omega) (by omega)]; exact I.a1
      · rw [C.o1 39 (by omega) (by omega)]; exact I.a2
      · rw [C.o1 41 (by omega) (by omega)]; exact I.a3
      · rw [C.o1 42 (by omega) (by omega)]; exact I.a4
      · rw [C.o1 44 (by omega) (by omega)]; exact I.a5
/-- the rest of the world, after a text -/
theorem WR.txt {sd sd' : Nat → Nat → Nat} {pc pc' n : Nat} {s u s' u' : St} (w : WR sd pc n s u) (C : TYc pc s s') (R : TYu pc u u') (hG : GV s') (hpc : pc ≤ pc') (hs : ∀ p a, p < pc → sd' p a = sd p a) (h12 : pc' ≤ 12) (h1 : s'.1 132 0 0 = nI pc') (h2 : u'.1 210 0 0 = nI pc') (hN : ∀ p, pc ≤ p → p < pc' → PR sd' s' u' p) : WR sd' pc' n s' u' := by
  obtain ⟨a1, a2, a3, a4⟩ := w.wc.pp
  refine ⟨⟨hG, w.wc.nr.lv (fun id z1 z2 => ⟨C.o1 id (by omega) (by omega), C.o2 id (by omega)⟩) (fun id z => ⟨by rw [R.o1 id (by omega) (by omega)], by rw [R.o2 id (by omega) (by omega)]⟩), by rw [C.o1 16 (by omega) (by omega)]; exact w.wc.ck, ⟨h12, h1, h2, fun p hp => ?_⟩, w.wc.sg.lb (C.o1 44 (by omega) (by omega)) (C.o1 80 (by omega) (by omega)) (C.o1 81 (by omega) (by omega)) (fun id z => by rw [R.o1 id (by omega) (by omega)]), fun b hb => by rw [C.o1 114 (by omega) (by omega), R.o1 238 (by omega) (by omega), C.o2 115 (by omega), R.o2 239 (by omega) (by omega)]; exact w.wc.bx b hb⟩, fun t ht => (w.th t ht).loc C R hpc (fun p hp => (a4 p hp).n4.2) hs⟩
  rcases Nat.lt_or_ge p pc with q | q
  · exact (a4 p q).loc C R (by omega) (fun a => hs p a q)
  · exact hN p q hp
