/-! evaluating the reference's mirror programs; rows of arrays pointwise -/
theorem grd_t {α β : Type} {G : Prop} [Decidable G] {x : α} {f : α → Option β} (h : G) : grd G x f = f x := if_pos h
theorem ibN {n N : Nat} (h : n < N) (hN : N < 2 ^ 31) : ib (nI n) N := ⟨nI_pos (by omega), nI_ge h hN⟩
theorem gI {α β : Type} {n N : Nat} {x : α} {f : α → Option β} (h : n < N) (hN : N < 2 ^ 31) : grd (ib (nI n) N) x f = f x := grd_t (ibN h hN)
theorem gZ {α β : Type} {n N : Nat} {v : Int32} {x : α} {f : α → Option β} (h : n < N) (hN : N < 2 ^ 31) (hv : zo v) : grd (ib (nI n) N ∧ zo v) x f = f x := grd_t ⟨ibN h hN, hv⟩
theorem gz {α β : Type} {v : Int32} {x : α} {f : α → Option β} (hv : zo v) : grd (zo v) x f = f x := grd_t hv
theorem zo0 : zo 0 := Or.inl rfl
theorem zo1 : zo 1 := Or.inr rfl
theorem bnd_d {α β : Type} {x : α} {f : α → Option β} : bnd x f = f x := rfl
theorem cal_s {α β : Type} {q : α} {f : α → Option β} : cal (some q) f = f q := rfl
theorem cal2_s {α β : Type} {v : α} {s : St} {f : α → St → Option β} : cal2 (some (v, s)) f = f v s := rfl
theorem m3 (a b : Nat) : (3 : Int32) * nI a + nI b = nI (3 * a + b) := nmul 3 rfl rfl
theorem m9 (a b : Nat) : (9 : Int32) * nI a + nI b = nI (9 * a + b) := nmul 9 rfl rfl
theorem m10 (a b : Nat) : (10 : Int32) * nI a + nI b = nI (10 * a + b) := nmul 10 rfl rfl
theorem m32 (a b : Nat) : (32 : Int32) * nI a + nI b = nI (32 * a + b) := nmul 32 rfl rfl
theorem m40 (a b : Nat) : (40 : Int32) * nI a + nI b = nI (40 * a + b) := nmul 40 rfl rfl
theorem m200 (a b : Nat) : (200 : Int32) * nI a + nI b = nI (200 * a + b) := nmul 200 rfl rfl
theorem nI_s1 {n : Nat} (h : 1 ≤ n) : nI n - 1 = nI (n - 1) := by
  obtain ⟨m, rfl⟩ : ∃ m, n = m + 1 := ⟨n - 1, by omega⟩
  rw [nI_pred, Nat.add_sub_cancel]
theorem nI_leiff {a b : Nat} (ha : a < 2 ^ 31) (hb : b < 2 ^ 31) : nI a ≤ nI b ↔ a ≤ b := ⟨fun h => Nat.not_lt.mp (fun q => nI_ge q ha h), fun h => nI_le h hb⟩
theorem nI_ltiff {a b : Nat} (ha : a < 2 ^ 31) (hb : b < 2 ^ 31) : nI a < nI b ↔ a < b := ⟨fun h => Nat.not_le.mp (fun q => absurd (nI_le q ha) (Int32.not_le.mpr h)), fun h => nI_lt h hb⟩
theorem nI_neg {a : Nat} (h : a < 2 ^ 31) : (nI a < 0) = False := eq_false (nI_pos h)
theorem nI_nn {a : Nat} (h : a < 2 ^ 31) : (0 ≤ nI a) = True := eq_true (nI_pos' h)
theorem si_o {s : St} {id o e a b c : Nat} {v : Int32} (h : a ≠ id) : (si s id o e v).1 a b c = s.1 a b c := si_ne (fun z => h z.1)
theorem si_q {s : St} {id o e o2 c : Nat} {v : Int32} (h : c ≠ e) : (si s id o e v).1 id o2 c = s.1 id o2 c := si_ne (fun z => h z.2.2)
theorem si_p {s : St} {id o e o2 c : Nat} {v : Int32} (h : o2 ≠ o) : (si s id o e v).1 id o2 c = s.1 id o2 c := si_ne (fun z => h z.2.1)
theorem sl_o {s : St} {id o e a b c : Nat} {v : Int64} (h : a ≠ id) : (sl s id o e v).2 a b c = s.2 a b c := by rw [sl_r, if_neg (fun z => h z.1)]
theorem sl_e {s : St} {id o e : Nat} {v : Int64} : (sl s id o e v).2 id o e = v := by rw [sl_r, if_pos ⟨rfl, rfl, rfl⟩]
theorem sl_q {s : St} {id o e o2 c : Nat} {v : Int64} (h : c ≠ e) : (sl s id o e v).2 id o2 c = s.2 id o2 c := by rw [sl_r, if_neg (fun z => h z.2.2)]
/-- places of two sides: below 200 the class's, from there on the reference's -/
def Cl (u v : St) : Prop := ∀ id, id < 200 → v.1 id = u.1 id ∧ v.2 id = u.2 id
def Rf (u v : St) : Prop := ∀ id, 200 ≤ id → v.1 id = u.1 id ∧ v.2 id = u.2 id
theorem Cl.refl (u : St) : Cl u u := fun _ _ => ⟨rfl, rfl⟩
theorem Rf.refl (u : St) : Rf u u := fun _ _ => ⟨rfl, rfl⟩
theorem Cl.trans {u v w : St} (h : Cl u v) (h2 : Cl v w) : Cl u w := fun id hi => ⟨(h2 id hi).1.trans (h id hi).1, (h2 id hi).2.trans (h id hi).2⟩
theorem Rf.trans {u v w : St} (h : Rf u v) (h2 : Rf v w) : Rf u w := fun id hi => ⟨(h2 id hi).1.trans (h id hi).1, (h2 id hi).2.trans (h id hi).2⟩
theorem Cl.si {u v : St} {id o e : Nat} {x : Int32} (hi : 200 ≤ id) (h : Cl u v) : Cl u (si v id o e x) := fun a ha => ⟨(by rw [si_id (by omega)]; exact (h a ha).1), (h a ha).2⟩
theorem sl_id {s : St} {id o e a : Nat} {v : Int64} (h : a ≠ id) : (sl s id o e v).2 a = s.2 a := by funext b c; exact sl_o h
theorem Cl.sl {u v : St} {id o e : Nat} {x : Int64} (hi : 200 ≤ id) (h : Cl u v) : Cl u (sl v id o e x) := fun a ha => ⟨(h a ha).1, (by rw [sl_id (by omega)]; exact (h a ha).2)⟩
theorem Rf.si {u v : St} {id o e : Nat} {x : Int32} (hi : id < 200) (h : Rf u v) : Rf u (si v id o e x) := fun a ha => ⟨(by rw [si_id (by omega)]; exact (h a ha).1), (h a ha).2⟩
theorem Rf.sl {u v : St} {id o e : Nat} {x : Int64} (hi : id < 200) (h : Rf u v) : Rf u (sl v id o e x) := fun a ha => ⟨(h a ha).1, (by rw [sl_id (by omega)]; exact (h a ha).2)⟩
/-! the class's row without its q-th -/
theorem shf_at (i : Nat) : ∀ (m k : Nat) (s : St) (id o e : Nat), (shf i m k s).1 id o e = if (id = 81 ∨ id = 82) ∧ o = i ∧ k ≤ e ∧ e < k + m then s.1 id o (e + 1) else s.1 id o e := by
  intro m
  induction m with
  | zero => intro k s id o e; rw [if_neg (by omega)]; rfl
  | succ m ih =>
    intro k s id o e
    show (shf i m (k + 1) (shf1 i k s)).1 id o e = _
    rw [ih]
    have h1 : ∀ e', (shf1 i k s).1 id o e' = if (id = 81 ∨ id = 82) ∧ o = i ∧ e' = k then s.1 id o (k + 1) else s.1 id o e' := by
      intro e'
      unfold shf1
      rw [sl_1]
      by_cases h2 : id = 82
      · subst h2
        by_cases h3 : o = i ∧ e' = k
        · obtain ⟨rfl, rfl⟩ := h3; rw [si_eq, if_pos ⟨Or.inr rfl, rfl, rfl⟩]
        · rw [si_ne (fun z => h3 z.2), if_neg (fun z => h3 z.2), si_ne (fun z => absurd z.1 (by decide))]
      · rw [si_ne (fun z => h2 z.1)]
        by_cases h1 : id = 81
        · subst h1
          by_cases h3 : o = i ∧ e' = k
          · obtain ⟨rfl, rfl⟩ := h3; rw [si_eq, if_pos ⟨Or.inl rfl, rfl, rfl⟩]
          · rw [si_ne (fun z => h3 z.2), if_neg (fun z => h3 z.2)]
        · rw [si_ne (fun z => h1 z.1), if_neg (fun z => z.1.elim h1 h2)]
    rw [h1, h1]
    by_cases c1 : (id = 81 ∨ id = 82) ∧ o = i
    · by_cases c2 : k + 1 ≤ e ∧ e < k + 1 + m
      · rw [if_pos ⟨c1.1, c1.2, c2⟩, if_neg (fun z => by omega), if_pos ⟨c1.1, c1.2, by omega⟩]
      · rw [if_neg (fun z => c2 z.2.2)]
        by_cases c3 : e = k
        · subst c3; rw [if_pos ⟨c1.1, c1.2, rfl⟩, if_pos ⟨c1.1, c1.2, by omega⟩]
        · rw [if_neg (fun z => c3 z.2.2), if_neg (fun z => by omega)]
    · rw [if_neg (fun z => c1 ⟨z.1, z.2.1⟩), if_neg (fun z => c1 ⟨z.1, z.2.1⟩), if_neg (fun z => c1 ⟨z.1, z.2.1⟩)]
theorem shf_at2 (i : Nat) : ∀ (m k : Nat) (s : St) (id o e : Nat), (shf i m k s).2 id o e = if id = 83 ∧ o = i ∧ k ≤ e ∧ e < k + m then s.2 id o (e + 1) else s.2 id o e := by
  intro m
  induction m with
  | zero => intro k s id o e; rw [if_neg (by omega)]; rfl
  | succ m ih =>
    intro k s id o e
    show (shf i m (k + 1) (shf1 i k s)).2 id o e = _
    rw [ih]
    have h1 : ∀ e', (shf1 i k s).2 id o e' = if id = 83 ∧ o = i ∧ e' = k then s.2 id o (k + 1) else s.2 id o e' := by
      intro e'
      unfold shf1
      by_cases h3 : id = 83 ∧ o = i ∧ e' = k
      · obtain ⟨rfl, rfl, rfl⟩ := h3; rw [sl_e, if_pos ⟨rfl, rfl, rfl⟩]
      · rw [sl_r, if_neg h3, if_neg h3]; rfl
    rw [h1, h1]
    by_cases c1 : id = 83 ∧ o = i
    · by_cases c2 : k + 1 ≤ e ∧ e < k + 1 + m
      · rw [if_pos ⟨c1.1, c1.2, c2⟩, if_neg (fun z => by omega), if_pos ⟨c1.1, c1.2, by omega⟩]
      · rw [if_neg (fun z => c2 z.2.2)]
        by_cases c3 : e = k
        · subst c3; rw [if_pos ⟨c1.1, c1.2, rfl⟩, if_pos ⟨c1.1, c1.2, by omega⟩]
        · rw [if_neg (fun z => c3 z.2.2), if_neg (fun z => by omega)]
    · rw [if_neg (fun z => c1 ⟨z.1, z.2.1⟩), if_neg (fun z => c1 ⟨z.1, z.2.1⟩), if_neg (fun z => c1 ⟨z.1, z.2.1⟩)]
/-! the reference's -/
def fr1 (t k : Nat) (u : St) : St := si (si (sl (si u 256 0 (32 * t + k) (u.1 256 0 (32 * t + k + 1))) 257 0 (32 * t + k) (u.2 257 0 (32 * t + k + 1))) 258 0 (32 * t + k) (u.1 258 0 (32 * t + k + 1))) 259 0 (32 * t + k) (u.1 259 0 (32 * t + k + 1))
def frL (t : Nat) : Nat → Nat → St → St
  | 0, _, u => u
  | m + 1, k, u => frL t m (k + 1) (fr1 t k u)
theorem fr1_1 (t k : Nat) (u : St) (id o e : Nat) : (fr1 t k u).1 id o e = if (id = 256 ∨ id = 258 ∨ id = 259) ∧ o = 0 ∧ e = 32 * t + k then u.1 id 0 (32 * t + k + 1) else u.1 id o e := by
  unfold fr1
  by_cases h3 : o = 0 ∧ e = 32 * t + k
  · obtain ⟨rfl, rfl⟩ := h3
    by_cases h : id = 259
    · subst h; rw [si_eq, if_pos ⟨Or.inr (Or.inr rfl), rfl, rfl⟩]
    by_cases h1 : id = 258
    · subst h1; rw [si_o (by decide), si_eq, if_pos ⟨Or.inr (Or.inl rfl), rfl, rfl⟩]
    by_cases h2 : id = 256
    · subst h2; rw [si_o (by decide), si_o (by decide), sl_1, si_eq, if_pos ⟨Or.inl rfl, rfl, rfl⟩]
    rw [si_o h, si_o h1, sl_1, si_o h2, if_neg (fun z => z.1.elim h2 (fun z => z.elim h1 h))]
  · rw [si_ne (fun z => h3 z.2), si_ne (fun z => h3 z.2), sl_1, si_ne (fun z => h3 z.2), if_neg (fun z => h3 z.2)]
theorem fr1_2 (t k : Nat) (u : St) (id o e : Nat) : (fr1 t k u).2 id o e = if id = 257 ∧ o = 0 ∧ e = 32 * t + k then u.2 id 0 (32 * t + k + 1) else u.2 id o e := by
  unfold fr1
  rw [si_2, si_2, sl_r]
  by_cases h3 : id = 257 ∧ o = 0 ∧ e = 32 * t + k
  · obtain ⟨rfl, rfl, rfl⟩ := h3; rw [if_pos ⟨rfl, rfl, rfl⟩, if_pos ⟨rfl, rfl, rfl⟩]
  · rw [if_neg h3, if_neg h3]; rfl
theorem frL_1 (t : Nat) : ∀ (m k : Nat) (u : St) (id o e : Nat), (frL t m k u).1 id o e = if (id = 256 ∨ id = 258 ∨ id = 259) ∧ o = 0 ∧ 32 * t + k ≤ e ∧ e < 32 * t + k + m then u.1 id o (e + 1) else u.1 id o e := by
  intro m
  induction m with
  | zero => intro k u id o e; rw [if_neg (by omega)]; rfl
  | succ m ih =>
    intro k u id o e
    show (frL t m (k + 1) (fr1 t k u)).1 id o e = _
    rw [ih, fr1_1, fr1_1]
    by_cases c1 : (id = 256 ∨ id = 258 ∨ id = 259) ∧ o = 0
    · obtain ⟨c0, rfl⟩ := c1
      by_cases c2 : 32 * t + (k + 1) ≤ e ∧ e < 32 * t + (k + 1) + m
      · rw [if_pos ⟨c0, rfl, c2⟩, if_neg (fun z => by omega), if_pos ⟨c0, rfl, by omega⟩]
      · rw [if_neg (fun z => c2 z.2.2)]
        by_cases c3 : e = 32 * t + k
        · subst c3; rw [if_pos ⟨c0, rfl, rfl⟩, if_pos ⟨c0, rfl, by omega⟩]
        · rw [if_neg (fun z => c3 z.2.2), if_neg (fun z => by omega)]
    · rw [if_neg (fun z => c1 ⟨z.1, z.2.1⟩), if_neg (fun z => c1 ⟨z.1, z.2.1⟩), if_neg (fun z => c1 ⟨z.1, z.2.1⟩)]
theorem frL_2 (t : Nat) : ∀ (m k : Nat) (u : St) (id o e : Nat), (frL t m k u).2 id o e = if id = 257 ∧ o = 0 ∧ 32 * t + k ≤ e ∧ e < 32 * t + k + m then u.2 id o (e + 1) else u.2 id o e := by
  intro m
  induction m with
  | zero => intro k u id o e; rw [if_neg (by omega)]; rfl
  | succ m ih =>
    intro k u id o e
    show (frL t m (k + 1) (fr1 t k u)).2 id o e = _
    rw [ih, fr1_2, fr1_2]
    by_cases c1 : id = 257 ∧ o = 0
    · obtain ⟨c0, rfl⟩ := c1
      by_cases c2 : 32 * t + (k + 1) ≤ e ∧ e < 32 * t + (k + 1) + m
      · rw [if_pos ⟨c0, rfl, c2⟩, if_neg (fun z => by omega), if_pos ⟨c0, rfl, by omega⟩]
      · rw [if_neg (fun z => c2 z.2.2)]
        by_cases c3 : e = 32 * t + k
        · subst c3; rw [if_pos ⟨c0, rfl, rfl⟩, if_pos ⟨c0, rfl, by omega⟩]
        · rw [if_neg (fun z => c3 z.2.2), if_neg (fun z => by omega)]
    · rw [if_neg (fun z => c1 ⟨z.1, z.2.1⟩), if_neg (fun z => c1 ⟨z.1, z.2.1⟩), if_neg (fun z => c1 ⟨z.1, z.2.1⟩)]
theorem r_fr12 (t c : Nat) (ht : t < 7) (hc : c ≤ 22) : ∀ (m k n : Nat) (u : St), k + m = c → m < n → u.1 255 0 t = nI c → r_fromRow_12 n (nI t) (nI k) u = some (frL t m k u) := by
  intro m
  induction m with
  | zero =>
    intro k n u hk hn hu
    obtain ⟨n, rfl⟩ : ∃ q, n = q + 1 := ⟨n - 1, by omega⟩
    rw [r_fromRow_12.eq_2, gI (by omega) (by decide), nI_clamp (by omega), hu, if_pos (nI_le (by omega) (by omega))]
    rfl
  | succ m ih =>
    intro k n u hk hn hu
    obtain ⟨n, rfl⟩ : ∃ q, n = q + 1 := ⟨n - 1, by omega⟩
    rw [r_fromRow_12.eq_2, gI (by omega) (by decide), nI_clamp (by omega), hu, if_neg (nI_ge (by omega) (by omega))]
    simp only [m32, nI_1]
    rw [gI (by omega) (by decide), gI (by omega) (by decide), gI (by omega) (by decide), gI (by omega) (by decide), gI (by omega) (by decide), gI (by omega) (by decide), gI (by omega) (by decide), gI (by omega) (by decide)]
    rw [nI_clamp (by omega), nI_clamp (by omega)]
    have e : si (si (sl (si u 256 0 (32 * t + k) (u.1 256 0 (32 * t + k + 1))) 257 0 (32 * t + k) ((si u 256 0 (32 * t + k) (u.1 256 0 (32 * t + k + 1))).2 257 0 (32 * t + k + 1))) 258 0 (32 * t + k) ((sl (si u 256 0 (32 * t + k) (u.1 256 0 (32 * t + k + 1))) 257 0 (32 * t + k) ((si u 256 0 (32 * t + k) (u.1 256 0 (32 * t + k + 1))).2 257 0 (32 * t + k + 1))).1 258 0 (32 * t + k + 1))) 259 0 (32 * t + k) ((si (sl (si u 256 0 (32 * t + k) (u.1 256 0 (32 * t + k + 1))) 257 0 (32 * t + k) ((si u 256 0 (32 * t + k) (u.1 256 0 (32 * t + k + 1))).2 257 0 (32 * t + k + 1))) 258 0 (32 * t + k) ((sl (si u 256 0 (32 * t + k) (u.1 256 0 (32 * t + k + 1))) 257 0 (32 * t + k) ((si u 256 0 (32 * t + k) (u.1 256 0 (32 * t + k + 1))).2 257 0 (32 * t + k + 1))).1 258 0 (32 * t + k + 1))).1 259 0 (32 * t + k + 1)) = fr1 t k u := by
      unfold fr1
      rw [si_2, si_o (by decide), sl_1, si_o (by decide), si_o (by decide)]
    rw [e]
    exact ih (k + 1) n _ (by omega) (by omega) (by rw [fr1_1, if_neg (by omega)]; exact hu)
/-- a row's q-th goes -/
def frS (u : St) (t c q : Nat) : St := frL t (c - 1 - q) q (si u 255 0 t (nI (c - 1)))
theorem r_from (t c q : Nat) (ht : t < 7) (hc : c ≤ 22) (hq : q < c) (u : St) (hu : u.1 255 0 t = nI c) : r_fromRow (nI t) (nI q) u = some (frS u t c q) := by
  unfold r_fromRow
  rw [gI (by omega) (by decide), nI_clamp (by omega), hu, gI (by omega) (by decide), nI_s1 (by omega)]
  exact r_fr12 t (c - 1) ht (by omega) (c - 1 - q) q 40 _ (by omega) (by omega) si_eq
theorem frS_1 (u : St) (t c q id e : Nat) : (frS u t c q).1 id 0 e = if (id = 256 ∨ id = 258 ∨ id = 259) ∧ 32 * t + q ≤ e ∧ e < 32 * t + q + (c - 1 - q) then u.1 id 0 (e + 1) else if id = 255 ∧ e = t then nI (c - 1) else u.1 id 0 e := by
  unfold frS
  rw [frL_1]
  by_cases h : (id = 256 ∨ id = 258 ∨ id = 259) ∧ 32 * t + q ≤ e ∧ e < 32 * t + q + (c - 1 - q)
  · rw [if_pos ⟨h.1, rfl, h.2⟩, if_pos h, si_o (by omega)]
  · rw [if_neg (fun z => h ⟨z.1, z.2.2⟩), if_neg h, si_r]
    by_cases h2 : id = 255 ∧ e = t
    · rw [if_pos ⟨h2.1, rfl, h2.2⟩, if_pos h2]
    · rw [if_neg (fun z => h2 ⟨z.1, z.2.2⟩), if_neg h2]
theorem frS_2 (u : St) (t c q id e : Nat) : (frS u t c q).2 id 0 e = if id = 257 ∧ 32 * t + q ≤ e ∧ e < 32 * t + q + (c - 1 - q) then u.2 id 0 (e + 1) else u.2 id 0 e := by
  unfold frS
  rw [frL_2, si_2]
  by_cases h : id = 257 ∧ 32 * t + q ≤ e ∧ e < 32 * t + q + (c - 1 - q)
  · rw [if_pos ⟨h.1, rfl, h.2⟩, if_pos h]
  · rw [if_neg (fun z => h ⟨z.1, z.2.2⟩), if_neg h]
theorem Cl_fr {u : St} {t c q : Nat} : Cl u (frS u t c q) := by
  have h1 : Cl u (si u 255 0 t (nI (c - 1))) := (Cl.refl u).si (by decide)
  refine h1.trans (fun id hi => ⟨?_, ?_⟩)
  · funext o e; unfold frS; rw [frL_1, if_neg (by omega)]
  · funext o e; unfold frS; rw [frL_2, if_neg (by omega)]
