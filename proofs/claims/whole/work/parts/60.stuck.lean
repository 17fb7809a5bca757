/-! would a TURN do a STEP: the shadow against the spare -/
theorem mirB_1 {s : St} {t k id o e : Nat} : (mirB s 6 k t k).1 id o e = if o = 6 ∧ id ≤ 8 ∧ id ≠ 7 ∧ e = k then s.1 id t k else s.1 id o e := by
  unfold mirB
  by_cases h : o = 6 ∧ e = k
  · obtain ⟨rfl, rfl⟩ := h
    by_cases h8 : id ≤ 8 ∧ id ≠ 7
    · rw [if_pos ⟨rfl, h8.1, h8.2, rfl⟩]
      rcases (show id = 0 ∨ id = 1 ∨ id = 2 ∨ id = 3 ∨ id = 4 ∨ id = 5 ∨ id = 6 ∨ id = 8 by omega) with rfl | rfl | rfl | rfl | rfl | rfl | rfl | rfl <;> simp (disch := decide) only [si_o, si_eq, sl_1]
    · rw [if_neg (fun z => h8 ⟨z.2.1, z.2.2.1⟩), si_o (by omega), sl_1, si_o (by omega), si_o (by omega), si_o (by omega), si_o (by omega), si_o (by omega), si_o (by omega), si_o (by omega)]
  · have hn : ∀ i : Nat, ¬ (id = i ∧ o = 6 ∧ e = k) := fun i z => h z.2
    rw [if_neg (fun z => h ⟨z.1, z.2.2.2⟩), si_ne (hn _), sl_1, si_ne (hn _), si_ne (hn _), si_ne (hn _), si_ne (hn _), si_ne (hn _), si_ne (hn _), si_ne (hn _)]
theorem mirB_2 {s : St} {t k id o e : Nat} : (mirB s 6 k t k).2 id o e = if id = 7 ∧ o = 6 ∧ e = k then s.2 7 t k else s.2 id o e := by
  unfold mirB
  rw [si_2, sl_r]; rfl
theorem mb_1 {t : Nat} (ht : t < 6) : ∀ (m k : Nat) (s : St) (id o e : Nat), (mbS 6 t m k s).1 id o e = if o = 6 ∧ id ≤ 8 ∧ id ≠ 7 ∧ k ≤ e ∧ e < k + m then s.1 id t e else s.1 id o e := by
  intro m
  induction m with
  | zero => intro k s id o e; rw [if_neg (by omega)]; rfl
  | succ m ih =>
    intro k s id o e
    show (mbS 6 t m (k + 1) (mirB s 6 k t k)).1 id o e = _
    rw [ih, mirB_1, mirB_1, if_neg (show ¬ (t = 6 ∧ id ≤ 8 ∧ id ≠ 7 ∧ e = k) by omega)]
    by_cases h : o = 6 ∧ id ≤ 8 ∧ id ≠ 7 ∧ k ≤ e ∧ e < k + (m + 1)
    · rw [if_pos h]
      by_cases h2 : k + 1 ≤ e
      · rw [if_pos ⟨h.1, h.2.1, h.2.2.1, h2, by omega⟩]
      · have : e = k := by omega
        rw [if_neg (fun z => h2 z.2.2.2.1), if_pos ⟨h.1, h.2.1, h.2.2.1, this⟩, this]
    · rw [if_neg h, if_neg (fun z => h ⟨z.1, z.2.1, z.2.2.1, by omega, by omega⟩), if_neg (fun z => h ⟨z.1, z.2.1, z.2.2.1, by omega, by omega⟩)]
theorem mb_2 {t : Nat} (ht : t < 6) : ∀ (m k : Nat) (s : St) (id o e : Nat), (mbS 6 t m k s).2 id o e = if id = 7 ∧ o = 6 ∧ k ≤ e ∧ e < k + m then s.2 7 t e else s.2 id o e := by
  intro m
  induction m with
  | zero => intro k s id o e; rw [if_neg (by omega)]; rfl
  | succ m ih =>
    intro k s id o e
    show (mbS 6 t m (k + 1) (mirB s 6 k t k)).2 id o e = _
    rw [ih, mirB_2, mirB_2, if_neg (show ¬ (7 = 7 ∧ t = 6 ∧ e = k) by omega)]
    by_cases h : id = 7 ∧ o = 6 ∧ k ≤ e ∧ e < k + (m + 1)
    · rw [if_pos h]
      by_cases h2 : k + 1 ≤ e
      · rw [if_pos ⟨h.1, h.2.1, h2, by omega⟩]
      · have : e = k := by omega
        rw [if_neg (fun z => h2 z.2.2.1), if_pos ⟨h.1, h.2.1, this⟩, this]
    · rw [if_neg h, if_neg (fun z => h ⟨z.1, z.2.1, by omega, by omega⟩), if_neg (fun z => h ⟨z.1, z.2.1, by omega, by omega⟩)]
theorem rmi_1 {t : Nat} (ht : t < 6) : ∀ (m k : Nat) (s : St) (id o e : Nat), (rmiS 6 t m k s).1 id o e = if o = 6 ∧ (id = 81 ∨ id = 82) ∧ k ≤ e ∧ e < k + m then s.1 id t e else s.1 id o e := by
  intro m
  induction m with
  | zero => intro k s id o e; rw [if_neg (by omega)]; rfl
  | succ m ih =>
    intro k s id o e
    have r1 : ∀ o e, (rmi1 6 t k s).1 id o e = if o = 6 ∧ (id = 81 ∨ id = 82) ∧ e = k then s.1 id t k else s.1 id o e := fun o e => by
      unfold rmi1
      rw [sl_1]
      by_cases h : o = 6 ∧ e = k
      · obtain ⟨rfl, rfl⟩ := h
        by_cases h2 : id = 82
        · subst h2; rw [si_eq, if_pos ⟨rfl, Or.inr rfl, rfl⟩]
        · rw [si_o h2]
          by_cases h1 : id = 81
          · subst h1; rw [si_eq, if_pos ⟨rfl, Or.inl rfl, rfl⟩]
          · rw [si_o h1, if_neg (by omega)]
      · rw [si_ne (fun z => h z.2), si_ne (fun z => h z.2), if_neg (fun z => h ⟨z.1, z.2.2⟩)]
    show (rmiS 6 t m (k + 1) (rmi1 6 t k s)).1 id o e = _
    rw [ih, r1, r1, if_neg (show ¬ (t = 6 ∧ (id = 81 ∨ id = 82) ∧ e = k) by omega)]
    by_cases h : o = 6 ∧ (id = 81 ∨ id = 82) ∧ k ≤ e ∧ e < k + (m + 1)
    · rw [if_pos h]
      by_cases h2 : k + 1 ≤ e
      · rw [if_pos ⟨h.1, h.2.1, h2, by omega⟩]
      · have : e = k := by omega
        rw [if_neg (fun z => h2 z.2.2.1), if_pos ⟨h.1, h.2.1, this⟩, this]
    · rw [if_neg h, if_neg (fun z => h ⟨z.1, z.2.1, by omega, by omega⟩), if_neg (fun z => h ⟨z.1, z.2.1, by omega, by omega⟩)]
theorem rmi_2 {t : Nat} (ht : t < 6) : ∀ (m k : Nat) (s : St) (id o e : Nat), (rmiS 6 t m k s).2 id o e = if id = 83 ∧ o = 6 ∧ k ≤ e ∧ e < k + m then s.2 83 t e else s.2 id o e := by
  intro m
  induction m with
  | zero => intro k s id o e; rw [if_neg (by omega)]; rfl
  | succ m ih =>
    intro k s id o e
    have r1 : ∀ id o e, (rmi1 6 t k s).2 id o e = if id = 83 ∧ o = 6 ∧ e = k then s.2 83 t k else s.2 id o e := fun id o e => by
      unfold rmi1; rw [sl_r]; rfl
    show (rmiS 6 t m (k + 1) (rmi1 6 t k s)).2 id o e = _
    rw [ih, r1, r1, if_neg (show ¬ (83 = 83 ∧ t = 6 ∧ e = k) by omega)]
    by_cases h : id = 83 ∧ o = 6 ∧ k ≤ e ∧ e < k + (m + 1)
    · rw [if_pos h]
      by_cases h2 : k + 1 ≤ e
      · rw [if_pos ⟨h.1, h.2.1, h2, by omega⟩]
      · have : e = k := by omega
        rw [if_neg (fun z => h2 z.2.2.1), if_pos ⟨h.1, h.2.1, this⟩, this]
    · rw [if_neg h, if_neg (fun z => h ⟨z.1, z.2.1, by omega, by omega⟩), if_neg (fun z => h ⟨z.1, z.2.1, by omega, by omega⟩)]
/-- the shadow's numbers -/
def Mi (t p d c : Nat) (s s' : St) : Prop := (Ac 6 s s') ∧ (∀ id, 16 ≤ id → id ≤ 21 → s'.1 id = s.1 id ∧ s'.2 id = s.2 id) ∧ (∀ id, id = 32 ∨ id = 37 ∨ id = 39 ∨ id = 41 ∨ id = 42 ∨ id = 44 ∨ id = 80 → s'.1 id 6 0 = s.1 id t 0) ∧ (∀ id b, id ≤ 8 → b ≤ d → s'.1 id 6 b = s.1 id t b ∨ id = 7) ∧ (∀ b, b ≤ d → s'.2 7 6 b = s.2 7 t b) ∧ (∀ id k, id = 81 ∨ id = 82 → k < c → s'.1 id 6 k = s.1 id t k) ∧ (∀ k, k < c → s'.2 83 6 k = s.2 83 t k)
theorem Mi.ac {t p d c : Nat} {s s' : St} (h : Mi t p d c s s') : Ac 6 s s' := h.1
theorem Mi.nt {t p d c : Nat} {s s' : St} (h : Mi t p d c s s') : ∀ id, 16 ≤ id → id ≤ 21 → s'.1 id = s.1 id ∧ s'.2 id = s.2 id := h.2.1
theorem Mi.ot {t p d c : Nat} {s s' : St} (h : Mi t p d c s s') : ∀ id, id = 32 ∨ id = 37 ∨ id = 39 ∨ id = 41 ∨ id = 42 ∨ id = 44 ∨ id = 80 → s'.1 id 6 0 = s.1 id t 0 := h.2.2.1
theorem Mi.bo {t p d c : Nat} {s s' : St} (h : Mi t p d c s s') : ∀ id b, id ≤ 8 → b ≤ d → s'.1 id 6 b = s.1 id t b ∨ id = 7 := h.2.2.2.1
theorem Mi.bh {t p d c : Nat} {s s' : St} (h : Mi t p d c s s') : ∀ b, b ≤ d → s'.2 7 6 b = s.2 7 t b := h.2.2.2.2.1
theorem Mi.ro {t p d c : Nat} {s s' : St} (h : Mi t p d c s s') : ∀ id k, id = 81 ∨ id = 82 → k < c → s'.1 id 6 k = s.1 id t k := h.2.2.2.2.2.1
theorem Mi.rv {t p d c : Nat} {s s' : St} (h : Mi t p d c s s') : ∀ k, k < c → s'.2 83 6 k = s.2 83 t k := h.2.2.2.2.2.2
theorem Mi_mir {sd : Nat → Nat → Nat} {s u : St} {t p d c : Nat} (ht : t < 6) (hp : p < 13) (h : TC sd s u t p d c) : Mi t p d c s (mirS s 6 t) := by
  have h8 := h.d8
  have hc := h.rw.c22
  have m0 : ∀ id o e, ¬ (o = 6 ∧ (id = 32 ∨ id = 37 ∨ id = 38 ∨ id = 39 ∨ id = 41 ∨ id = 42 ∨ id = 44)) → (mir0 s 6 t).1 id o e = s.1 id o e := fun id o e z => by
    unfold mir0
    rw [si_ne (fun q => z ⟨q.2.1, by omega⟩), si_ne (fun q => z ⟨q.2.1, by omega⟩), si_ne (fun q => z ⟨q.2.1, by omega⟩), si_ne (fun q => z ⟨q.2.1, by omega⟩), si_ne (fun q => z ⟨q.2.1, by omega⟩), si_ne (fun q => z ⟨q.2.1, by omega⟩), si_ne (fun q => z ⟨q.2.1, by omega⟩)]
  have m0v : ∀ id, id = 32 ∨ id = 37 ∨ id = 39 ∨ id = 41 ∨ id = 42 ∨ id = 44 → (mir0 s 6 t).1 id 6 0 = s.1 id t 0 := fun id z => by
    unfold mir0
    rcases z with rfl | rfl | rfl | rfl | rfl | rfl
    · simp (disch := decide) only [si_o, si_eq]
    · simp (disch := decide) only [si_o, si_eq]; rw [pN_of h.hp hp]; exact h.hp.symm
    · simp (disch := decide) only [si_o, si_eq]
    · simp (disch := decide) only [si_o, si_eq]
    · simp (disch := decide) only [si_o, si_eq]
    · simp (disch := decide) only [si_o, si_eq]
  have eN : cN (mir0 s 6 t) t = c := by
    unfold cN; rw [m0 _ _ _ (by omega), h.rw.cs, nI_clamp (by omega)]
  have hd : dN s t = d := dN_of h.ds h8
  have e1 : ∀ id o e, (mirS s 6 t).1 id o e = if o = 6 ∧ id ≤ 8 ∧ id ≠ 7 ∧ e ≤ d then (mir0 s 6 t).1 id t e else if o = 6 ∧ (id = 81 ∨ id = 82) ∧ e < c then (mir0 s 6 t).1 id t e else if id = 80 ∧ o = 6 ∧ e = 0 then (mir0 s 6 t).1 80 t 0 else (mir0 s 6 t).1 id o e := fun id o e => by
    unfold mirS rowMirS
    rw [hd, mb_1 ht, rmi_1 ht, rmi_1 ht, eN, si_r, si_r, if_neg (show ¬ (t = 6 ∧ (id = 81 ∨ id = 82) ∧ 0 ≤ e ∧ e < 0 + c) by omega), if_neg (show ¬ (id = 80 ∧ t = 6 ∧ e = 0) by omega)]
    by_cases q1 : o = 6 ∧ id ≤ 8 ∧ id ≠ 7 ∧ e ≤ d
    · rw [if_pos q1, if_pos ⟨q1.1, q1.2.1, q1.2.2.1, by omega, by omega⟩]
    · rw [if_neg q1, if_neg (fun z => q1 ⟨z.1, z.2.1, z.2.2.1, by omega⟩)]
      by_cases q2 : o = 6 ∧ (id = 81 ∨ id = 82) ∧ e < c
      · rw [if_pos q2, if_pos ⟨q2.1, q2.2.1, by omega, by omega⟩]
      · rw [if_neg q2, if_neg (fun z => q2 ⟨z.1, z.2.1, by omega⟩)]
  have e2 : ∀ id o e, (mirS s 6 t).2 id o e = if id = 7 ∧ o = 6 ∧ e ≤ d then s.2 7 t e else if id = 83 ∧ o = 6 ∧ e < c then s.2 83 t e else s.2 id o e := fun id o e => by
    unfold mirS rowMirS
    rw [hd, mb_2 ht, rmi_2 ht, rmi_2 ht, eN, if_neg (show ¬ (7 = 83 ∧ t = 6 ∧ 0 ≤ e ∧ e < 0 + c) by omega)]
    by_cases q1 : id = 7 ∧ o = 6 ∧ e ≤ d
    · rw [if_pos q1, if_pos ⟨q1.1, q1.2.1, by omega, by omega⟩]; rfl
    · rw [if_neg q1, if_neg (fun z => q1 ⟨z.1, z.2.1, by omega⟩)]
      by_cases q2 : id = 83 ∧ o = 6 ∧ e < c
      · rw [if_pos q2, if_pos ⟨q2.1, q2.2.1, by omega, by omega⟩]; rfl
      · rw [if_neg q2, if_neg (fun z => q2 ⟨z.1, z.2.1, by omega⟩)]; rfl
  refine ⟨fun id o e hn => ?_, fun id z1 z2 => ⟨?_, ?_⟩, fun id z => ?_, fun id b z1 z2 => ?_, fun b hb => ?_, fun id k z hk => ?_, fun k hk => ?_⟩
  · have hn1 : ¬ (o = 6 ∧ (id ≤ 8 ∨ (32 ≤ id ∧ id ≤ 46) ∨ (80 ≤ id ∧ id ≤ 83))) := fun z => hn (Or.inl ⟨z.2, z.1⟩)
    refine ⟨?_, ?_⟩
    · rw [e1, if_neg (fun z => hn1 ⟨z.1, by omega⟩), if_neg (fun z => hn1 ⟨z.1, by omega⟩), if_neg (fun z => hn1 ⟨z.2.1, by omega⟩), m0 _ _ _ (fun z => hn1 ⟨z.1, by omega⟩)]
    · rw [e2, if_neg (fun z => hn1 ⟨z.2.1, by omega⟩), if_neg (fun z => hn1 ⟨z.2.1, by omega⟩)]
  · funext o e; rw [e1, if_neg (by omega), if_neg (by omega), if_neg (by omega), m0 _ _ _ (by omega)]
  · funext o e; rw [e2, if_neg (by omega), if_neg (by omega)]
  · by_cases q : id = 80
    · subst q; rw [e1, if_neg (by omega), if_neg (by omega), if_pos ⟨rfl, rfl, rfl⟩, m0 _ _ _ (by omega)]
    · rw [e1, if_neg (by omega), if_neg (by omega), if_neg (by omega)]; exact m0v id (by omega)
  · by_cases q : id = 7
    · exact Or.inr q
    · left; rw [e1, if_pos ⟨rfl, z1, q, z2⟩, m0 _ _ _ (by omega)]
  · rw [e2, if_pos ⟨rfl, rfl, hb⟩]
  · rw [e1, if_neg (by omega), if_pos ⟨rfl, z, hk⟩, m0 _ _ _ (by omega)]
  · rw [e2, if_neg (by omega), if_pos ⟨rfl, rfl, hk⟩]
/-! the reference's spare -/
theorem n54 (i : Nat) : (54 : Int32) + nI i = nI (54 + i) := nI_add 54 i
theorem n192 (i : Nat) : (192 : Int32) + nI i = nI (192 + i) := nI_add 192 i
def cpL (t i : Nat) (u : St) : St := si (sl (si (si (sl (si (si (si u 247 0 (54 + i) (u.1 247 0 (9 * t + i))) 248 0 (54 + i) (u.1 248 0 (9 * t + i))) 249 0 (54 + i) (u.1 249 0 (9 * t + i))) 250 0 (54 + i) (u.2 250 0 (9 * t + i))) 251 0 (54 + i) (u.1 251 0 (9 * t + i))) 252 0 (54 + i) (u.1 252 0 (9 * t + i))) 253 0 (54 + i) (u.2 253 0 (9 * t + i))) 254 0 (54 + i) (u.1 254 0 (9 * t + i))
def cpR (t i : Nat) (u : St) : St := si (si (sl (si u 256 0 (192 + i) (u.1 256 0 (32 * t + i))) 257 0 (192 + i) (u.2 257 0 (32 * t + i))) 258 0 (192 + i) (u.1 258 0 (32 * t + i))) 259 0 (192 + i) (u.1 259 0 (32 * t + i))
theorem cpL_1 {t i : Nat} {u : St} {id o e : Nat} : (cpL t i u).1 id o e = if o = 0 ∧ e = 54 + i ∧ (247 ≤ id ∧ id ≤ 254) ∧ id ≠ 250 ∧ id ≠ 253 then u.1 id 0 (9 * t + i) else u.1 id o e := by
  unfold cpL
  by_cases h : o = 0 ∧ e = 54 + i
  · obtain ⟨rfl, rfl⟩ := h
    by_cases h2 : (247 ≤ id ∧ id ≤ 254) ∧ id ≠ 250 ∧ id ≠ 253
    · rw [if_pos ⟨rfl, rfl, h2⟩]
      rcases (show id = 247 ∨ id = 248 ∨ id = 249 ∨ id = 251 ∨ id = 252 ∨ id = 254 by omega) with rfl | rfl | rfl | rfl | rfl | rfl <;> simp (disch := decide) only [si_o, si_eq, sl_1]
    · rw [if_neg (fun z => h2 z.2.2), si_o (by omega), sl_1, si_o (by omega), si_o (by omega), sl_1, si_o (by omega), si_o (by omega), si_o (by omega)]
  · have hn : ∀ i' : Nat, ¬ (id = i' ∧ o = 0 ∧ e = 54 + i) := fun i' z => h z.2
    rw [if_neg (fun z => h ⟨z.1, z.2.1⟩), si_ne (hn _), sl_1, si_ne (hn _), si_ne (hn _), sl_1, si_ne (hn _), si_ne (hn _), si_ne (hn _)]
theorem cpL_2 {t i : Nat} {u : St} {id o e : Nat} : (cpL t i u).2 id o e = if o = 0 ∧ e = 54 + i ∧ (id = 250 ∨ id = 253) then u.2 id 0 (9 * t + i) else u.2 id o e := by
  unfold cpL
  rw [si_2, sl_r, si_2, si_2, sl_r]
  by_cases h3 : id = 253 ∧ o = 0 ∧ e = 54 + i
  · rw [if_pos h3, if_pos ⟨h3.2.1, h3.2.2, Or.inr h3.1⟩, h3.1]
  · rw [if_neg h3]
    by_cases h0 : id = 250 ∧ o = 0 ∧ e = 54 + i
    · rw [if_pos h0, if_pos ⟨h0.2.1, h0.2.2, Or.inl h0.1⟩, h0.1]
    · rw [if_neg h0, if_neg (by omega)]; rfl
theorem cpR_1 {t i : Nat} {u : St} {id o e : Nat} : (cpR t i u).1 id o e = if o = 0 ∧ e = 192 + i ∧ (id = 256 ∨ id = 258 ∨ id = 259) then u.1 id 0 (32 * t + i) else u.1 id o e := by
  unfold cpR
  by_cases h : o = 0 ∧ e = 192 + i
  · obtain ⟨rfl, rfl⟩ := h
    by_cases h2 : id = 256 ∨ id = 258 ∨ id = 259
    · rw [if_pos ⟨rfl, rfl, h2⟩]
      rcases h2 with rfl | rfl | rfl <;> simp (disch := decide) only [si_o, si_eq, sl_1]
    · rw [if_neg (fun z => h2 z.2.2), si_o (by omega), si_o (by omega), sl_1, si_o (by omega)]
  · have hn : ∀ i' : Nat, ¬ (id = i' ∧ o = 0 ∧ e = 192 + i) := fun i' z => h z.2
    rw [if_neg (fun z => h ⟨z.1, z.2.1⟩), si_ne (hn _), si_ne (hn _), sl_1, si_ne (hn _)]
theorem cpR_2 {t i : Nat} {u : St} {id o e : Nat} : (cpR t i u).2 id o e = if o = 0 ∧ e = 192 + i ∧ id = 257 then u.2 257 0 (32 * t + i) else u.2 id o e := by
  unfold cpR
  rw [si_2, si_2, sl_r]
  by_cases h0 : id = 257 ∧ o = 0 ∧ e = 192 + i
  · rw [if_pos h0, if_pos ⟨h0.2.1, h0.2.2, h0.1⟩]
  · rw [if_neg h0, if_neg (by omega)]; rfl
def cpLs (t : Nat) : Nat → Nat → St → St
  | 0, _, u => u
  | m + 1, i, u => cpLs t m (i + 1) (cpL t i u)
def cpRs (t : Nat) : Nat → Nat → St → St
  | 0, _, u => u
  | m + 1, i, u => cpRs t m (i + 1) (cpR t i u)
theorem cpLs_1 {t : Nat} (ht : t < 6) : ∀ (m i : Nat) (u : St) (id o e : Nat), i + m ≤ 9 → (cpLs t m i u).1 id o e = if o = 0 ∧ (54 + i ≤ e ∧ e < 54 + i + m) ∧ (247 ≤ id ∧ id ≤ 254) ∧ id ≠ 250 ∧ id ≠ 253 then u.1 id 0 (9 * t + (e - 54)) else u.1 id o e := by
  intro m
  induction m with
  | zero => intro i u id o e _; rw [if_neg (by omega)]; rfl
  | succ m ih =>
    intro i u id o e hm
    show (cpLs t m (i + 1) (cpL t i u)).1 id o e = _
    rw [ih _ _ _ _ _ (by omega), cpL_1, cpL_1]
    by_cases h : o = 0 ∧ (54 + i ≤ e ∧ e < 54 + i + (m + 1)) ∧ (247 ≤ id ∧ id ≤ 254) ∧ id ≠ 250 ∧ id ≠ 253
    · rw [if_pos h]
      by_cases h2 : 54 + (i + 1) ≤ e
      · rw [if_pos ⟨h.1, ⟨h2, by omega⟩, h.2.2⟩, if_neg (by omega)]
      · have : e = 54 + i := by omega
        rw [if_neg (fun z => h2 z.2.1.1), if_pos ⟨h.1, this, h.2.2⟩, this, show 54 + i - 54 = i by omega]
    · rw [if_neg h, if_neg (fun z => h ⟨z.1, by omega, z.2.2⟩), if_neg (fun z => h ⟨z.1, by omega, z.2.2⟩)]
theorem cpLs_2 {t : Nat} (ht : t < 6) : ∀ (m i : Nat) (u : St) (id o e : Nat), i + m ≤ 9 → (cpLs t m i u).2 id o e = if o = 0 ∧ (54 + i ≤ e ∧ e < 54 + i + m) ∧ (id = 250 ∨ id = 253) then u.2 id 0 (9 * t + (e - 54)) else u.2 id o e := by
  intro m
  induction m with
  | zero => intro i u id o e _; rw [if_neg (by omega)]; rfl
  | succ m ih =>
    intro i u id o e hm
    show (cpLs t m (i + 1) (cpL t i u)).2 id o e = _
    rw [ih _ _ _ _ _ (by omega), cpL_2, cpL_2]
    by_cases h : o = 0 ∧ (54 + i ≤ e ∧ e < 54 + i + (m + 1)) ∧ (id = 250 ∨ id = 253)
    · rw [if_pos h]
      by_cases h2 : 54 + (i + 1) ≤ e
      · rw [if_pos ⟨h.1, ⟨h2, by omega⟩, h.2.2⟩, if_neg (by omega)]
      · have : e = 54 + i := by omega
        rw [if_neg (fun z => h2 z.2.1.1), if_pos ⟨h.1, this, h.2.2⟩, this, show 54 + i - 54 = i by omega]
    · rw [if_neg h, if_neg (fun z => h ⟨z.1, by omega, z.2.2⟩), if_neg (fun z => h ⟨z.1, by omega, z.2.2⟩)]
theorem cpRs_1 {t : Nat} (ht : t < 6) : ∀ (m i : Nat) (u : St) (id o e : Nat), i + m ≤ 32 → (cpRs t m i u).1 id o e = if o = 0 ∧ (192 + i ≤ e ∧ e < 192 + i + m) ∧ (id = 256 ∨ id = 258 ∨ id = 259) then u.1 id 0 (32 * t + (e - 192)) else u.1 id o e := by
  intro m
  induction m with
  | zero => intro i u id o e _; rw [if_neg (by omega)]; rfl
  | succ m ih =>
    intro i u id o e hm
    show (cpRs t m (i + 1) (cpR t i u)).1 id o e = _
    rw [ih _ _ _ _ _ (by omega), cpR_1, cpR_1]
    by_cases h : o = 0 ∧ (192 + i ≤ e ∧ e < 192 + i + (m + 1)) ∧ (id = 256 ∨ id = 258 ∨ id = 259)
    · rw [if_pos h]
      by_cases h2 : 192 + (i + 1) ≤ e
      · rw [if_pos ⟨h.1, ⟨h2, by omega⟩, h.2.2⟩, if_neg (by omega)]
      · have : e = 192 + i := by omega
        rw [if_neg (fun z => h2 z.2.1.1), if_pos ⟨h.1, this, h.2.2⟩, this, show 192 + i - 192 = i by omega]
    · rw [if_neg h, if_neg (fun z => h ⟨z.1, by omega, z.2.2⟩), if_neg (fun z => h ⟨z.1, by omega, z.2.2⟩)]
theorem cpRs_2 {t : Nat} (ht : t < 6) : ∀ (m i : Nat) (u : St) (id o e : Nat), i + m ≤ 32 → (cpRs t m i u).2 id o e = if o = 0 ∧ (192 + i ≤ e ∧ e < 192 + i + m) ∧ id = 257 then u.2 257 0 (32 * t + (e - 192)) else u.2 id o e := by
  intro m
  induction m with
  | zero => intro i u id o e _; rw [if_neg (by omega)]; rfl
  | succ m ih =>
    intro i u id o e hm
    show (cpRs t m (i + 1) (cpR t i u)).2 id o e = _
    rw [ih _ _ _ _ _ (by omega), cpR_2, cpR_2]
    by_cases h : o = 0 ∧ (192 + i ≤ e ∧ e < 192 + i + (m + 1)) ∧ id = 257
    · rw [if_pos h]
      by_cases h2 : 192 + (i + 1) ≤ e
      · rw [if_pos ⟨h.1, ⟨h2, by omega⟩, h.2.2⟩, if_neg (by omega)]
      · have : e = 192 + i := by omega
        rw [if_neg (fun z => h2 z.2.1.1), if_pos ⟨h.1, this, h.2.2⟩, this, show 192 + i - 192 = i by omega]
    · rw [if_neg h, if_neg (fun z => h ⟨z.1, by omega, z.2.2⟩), if_neg (fun z => h ⟨z.1, by omega, z.2.2⟩)]
theorem r_cp189 {t c : Nat} (ht : t < 6) (hc : c ≤ 22) : ∀ (m i N : Nat) (u : St), i + m = c → m < N → u.1 255 0 t = nI c → r_copyToSpare_189 N (nI t) (nI i) u = some (cpRs t m i u) := by
  intro m
  induction m with
  | zero =>
    intro i N u hi hN hu
    obtain ⟨N, rfl⟩ : ∃ q, N = q + 1 := ⟨N - 1, by omega⟩
    rw [r_copyToSpare_189.eq_2, gI (by omega) (by decide), nI_clamp (by omega), hu, if_pos (nI_le (by omega) (by omega))]; rfl
  | succ m ih =>
    intro i N u hi hN hu
    obtain ⟨N, rfl⟩ : ∃ q, N = q + 1 := ⟨N - 1, by omega⟩
    rw [r_copyToSpare_189.eq_2, gI (by omega) (by decide), nI_clamp (by omega), hu, if_neg (nI_ge (by omega) (by omega))]
    simp only [m32, n192, nI_1]
    rw [gI (by omega) (by decide), nI_clamp (by omega), gI (by omega) (by decide), nI_clamp (by omega), gI (by omega) (by decide), gI (by omega) (by decide), gI (by omega) (by decide), gI (by omega) (by decide), gI (by omega) (by decide), gI (by omega) (by decide)]
    simp (disch := decide) only [si_o, si_2, sl_1]
    exact ih (i + 1) N (cpR t i u) (by omega) (by omega) (by rw [cpR_1, if_neg (by omega)]; exact hu)
theorem r_cp54 {t d c : Nat} (ht : t < 6) (hd : d ≤ 8) (hc : c ≤ 22) : ∀ (m i N : Nat) (u : St), i + m = d → m < N → u.1 246 0 t = nI d → u.1 255 0 t = nI c → (∀ j, j < d → zo (u.1 251 0 (9 * t + j))) → r_copyToSpare_54 N (nI t) (nI i) u = some (cpRs t c 0 (cpLs t m i u)) := by
  intro m
  induction m with
  | zero =>
    intro i N u hi hN hu hu2 hz
    obtain ⟨N, rfl⟩ : ∃ q, N = q + 1 := ⟨N - 1, by omega⟩
    rw [r_copyToSpare_54.eq_2, gI (by omega) (by decide), nI_clamp (by omega), hu, if_pos (nI_le (by omega) (by omega))]
    exact r_cp189 ht hc c 0 40 u (by omega) (by omega) hu2
  | succ m ih =>
    intro i N u hi hN hu hu2 hz
    obtain ⟨N, rfl⟩ : ∃ q, N = q + 1 := ⟨N - 1, by omega⟩
    rw [r_copyToSpare_54.eq_2, gI (by omega) (by decide), nI_clamp (by omega), hu, if_neg (nI_ge (by omega) (by omega))]
    simp only [m9, n54, nI_1]
    rw [gI (by omega) (by decide), nI_clamp (by omega), gI (by omega) (by decide), nI_clamp (by omega), gI (by omega) (by decide), gI (by omega) (by decide), gI (by omega) (by decide), gI (by omega) (by decide), gI (by omega) (by decide), gI (by omega) (by decide), gI (by omega) (by decide)]
    simp (disch := decide) only [si_o, si_2, sl_1]
    rw [gZ (by omega) (by decide) (hz i (by omega)), gI (by omega) (by decide), gI (by omega) (by decide), gI (by omega) (by decide), gI (by omega) (by decide), gI (by omega) (by decide), gI (by omega) (by decide)]
    simp (disch := decide) only [si_o, si_2, sl_1, sl_o]
    exact ih (i + 1) N (cpL t i u) (by omega) (by omega) (by rw [cpL_1, if_neg (by omega)]; exact hu) (by rw [cpL_1, if_neg (by omega)]; exact hu2) (fun j hj => by rw [cpL_1, if_neg (by omega)]; exact hz j hj)
def cpU (t d c : Nat) (u : St) : St := cpRs t c 0 (cpLs t d 0 (si (si (si (si u 241 0 6 (u.1 241 0 t)) 242 0 6 (u.1 242 0 t)) 246 0 6 (u.1 246 0 t)) 255 0 6 (u.1 255 0 t)))
theorem r_cp {t d c : Nat} {u : St} (ht : t < 6) (hd : d ≤ 8) (hc : c ≤ 22) (h246 : u.1 246 0 t = nI d) (h255 : u.1 255 0 t = nI c) (hz : ∀ j, j < d → zo (u.1 251 0 (9 * t + j))) : r_copyToSpare (nI t) u = some (cpU t d c u) := by
  have g6 : ∀ {α β : Type} {x : α} {f : α → Option β}, grd (ib (6 : Int32) 7) x f = f x := fun {α β x f} => gI (n := 6) (by decide) (by decide)
  have k6 : (6 : Int32).toNatClampNeg = 6 := rfl
  unfold r_copyToSpare
  rw [gI (by omega) (by decide), nI_clamp (by omega), g6, gI (by omega) (by decide), g6, gI (by omega) (by decide), g6, gI (by omega) (by decide), g6]
  simp (disch := decide) only [si_o, k6]
  exact r_cp54 ht hd hc d 0 40 _ (by omega) (by omega) (by rw [si_o (by decide), si_q (by omega), si_o (by decide), si_o (by decide)]; exact h246) (by rw [si_q (by omega), si_o (by decide), si_o (by decide), si_o (by decide)]; exact h255) (fun j hj => by rw [si_o (by decide), si_o (by decide), si_o (by decide), si_o (by decide)]; exact hz j hj)
/-- the spare's numbers -/
def Mu (t d c : Nat) (u u' : St) : Prop := (Ag 6 u u') ∧ (Cl u u') ∧ (∀ id, id = 237 ∨ (263 ≤ id ∧ id ≤ 267) → u'.1 id 0 = u.1 id 0 ∧ u'.2 id 0 = u.2 id 0) ∧ (∀ id, id = 241 ∨ id = 242 ∨ id = 246 ∨ id = 255 → u'.1 id 0 6 = u.1 id 0 t) ∧ (∀ id i, 247 ≤ id → id ≤ 254 → i < d → (u'.1 id 0 (9 * 6 + i) = u.1 id 0 (9 * t + i) ∨ id = 250 ∨ id = 253) ∧ (u'.2 id 0 (9 * 6 + i) = u.2 id 0 (9 * t + i) ∨ ¬ (id = 250 ∨ id = 253))) ∧ (∀ id k, id = 256 ∨ id = 258 ∨ id = 259 → k < c → u'.1 id 0 (32 * 6 + k) = u.1 id 0 (32 * t + k)) ∧ (∀ k, k < c → u'.2 257 0 (32 * 6 + k) = u.2 257 0 (32 * t + k))
theorem Mu.ag {t d c : Nat} {u u' : St} (h : Mu t d c u u') : Ag 6 u u' := h.1
theorem Mu.cl {t d c : Nat} {u u' : St} (h : Mu t d c u u') : Cl u u' := h.2.1
theorem Mu.nt {t d c : Nat} {u u' : St} (h : Mu t d c u u') : ∀ id, id = 237 ∨ (263 ≤ id ∧ id ≤ 267) → u'.1 id 0 = u.1 id 0 ∧ u'.2 id 0 = u.2 id 0 := h.2.2.1
theorem Mu.ot {t d c : Nat} {u u' : St} (h : Mu t d c u u') : ∀ id, id = 241 ∨ id = 242 ∨ id = 246 ∨ id = 255 → u'.1 id 0 6 = u.1 id 0 t := h.2.2.2.1
theorem Mu.lv {t d c : Nat} {u u' : St} (h : Mu t d c u u') : ∀ id i, 247 ≤ id → id ≤ 254 → i < d → (u'.1 id 0 (9 * 6 + i) = u.1 id 0 (9 * t + i) ∨ id = 250 ∨ id = 253) ∧ (u'.2 id 0 (9 * 6 + i) = u.2 id 0 (9 * t + i) ∨ ¬ (id = 250 ∨ id = 253)) := h.2.2.2.2.1
theorem Mu.ro {t d c : Nat} {u u' : St} (h : Mu t d c u u') : ∀ id k, id = 256 ∨ id = 258 ∨ id = 259 → k < c → u'.1 id 0 (32 * 6 + k) = u.1 id 0 (32 * t + k) := h.2.2.2.2.2.1
theorem Mu.rv {t d c : Nat} {u u' : St} (h : Mu t d c u u') : ∀ k, k < c → u'.2 257 0 (32 * 6 + k) = u.2 257 0 (32 * t + k) := h.2.2.2.2.2.2
theorem Mu_cp {t d c : Nat} {u : St} (ht : t < 6) (hd : d ≤ 8) (hc : c ≤ 22) : Mu t d c u (cpU t d c u) := by
  have b1 : ∀ id o e, (si (si (si (si u 241 0 6 (u.1 241 0 t)) 242 0 6 (u.1 242 0 t)) 246 0 6 (u.1 246 0 t)) 255 0 6 (u.1 255 0 t)).1 id o e = if o = 0 ∧ e = 6 ∧ (id = 241 ∨ id = 242 ∨ id = 246 ∨ id = 255) then u.1 id 0 t else u.1 id o e := fun id o e => by
    by_cases h : o = 0 ∧ e = 6
    · obtain ⟨rfl, rfl⟩ := h
      by_cases h2 : id = 241 ∨ id = 242 ∨ id = 246 ∨ id = 255
      · rw [if_pos ⟨rfl, rfl, h2⟩]
        rcases h2 with rfl | rfl | rfl | rfl <;> simp (disch := decide) only [si_o, si_eq]
      · rw [if_neg (fun z => h2 z.2.2), si_o (by omega), si_o (by omega), si_o (by omega), si_o (by omega)]
    · have hn : ∀ i' : Nat, ¬ (id = i' ∧ o = 0 ∧ e = 6) := fun i' z => h z.2
      rw [if_neg (fun z => h ⟨z.1, z.2.1⟩), si_ne (hn _), si_ne (hn _), si_ne (hn _), si_ne (hn _)]
  have e1 : ∀ id o e, (cpU t d c u).1 id o e = if o = 0 ∧ (192 ≤ e ∧ e < 192 + c) ∧ (id = 256 ∨ id = 258 ∨ id = 259) then u.1 id 0 (32 * t + (e - 192)) else if o = 0 ∧ (54 ≤ e ∧ e < 54 + d) ∧ (247 ≤ id ∧ id ≤ 254) ∧ id ≠ 250 ∧ id ≠ 253 then u.1 id 0 (9 * t + (e - 54)) else if o = 0 ∧ e = 6 ∧ (id = 241 ∨ id = 242 ∨ id = 246 ∨ id = 255) then u.1 id 0 t else u.1 id o e := fun id o e => by
    unfold cpU
    rw [cpRs_1 ht _ _ _ _ _ _ (by omega)]
    by_cases q1 : o = 0 ∧ (192 ≤ e ∧ e < 192 + c) ∧ (id = 256 ∨ id = 258 ∨ id = 259)
    · rw [if_pos q1, if_pos ⟨q1.1, by omega, q1.2.2⟩, cpLs_1 ht _ _ _ _ _ _ (by omega), if_neg (by omega), b1, if_neg (by omega)]
    · rw [if_neg q1, if_neg (fun z => q1 ⟨z.1, by omega, z.2.2⟩), cpLs_1 ht _ _ _ _ _ _ (by omega)]
      by_cases q2 : o = 0 ∧ (54 ≤ e ∧ e < 54 + d) ∧ (247 ≤ id ∧ id ≤ 254) ∧ id ≠ 250 ∧ id ≠ 253
      · rw [if_pos q2, if_pos ⟨q2.1, by omega, q2.2.2⟩, b1, if_neg (by omega)]
      · rw [if_neg q2, if_neg (fun z => q2 ⟨z.1, by omega, z.2.2⟩), b1]
  have e2 : ∀ id o e, (cpU t d c u).2 id o e = if o = 0 ∧ (192 ≤ e ∧ e < 192 + c) ∧ id = 257 then u.2 257 0 (32 * t + (e - 192)) else if o = 0 ∧ (54 ≤ e ∧ e < 54 + d) ∧ (id = 250 ∨ id = 253) then u.2 id 0 (9 * t + (e - 54)) else u.2 id o e := fun id o e => by
    unfold cpU
    rw [cpRs_2 ht _ _ _ _ _ _ (by omega)]
    by_cases q1 : o = 0 ∧ (192 ≤ e ∧ e < 192 + c) ∧ id = 257
    · rw [if_pos q1, if_pos ⟨q1.1, by omega, q1.2.2⟩, cpLs_2 ht _ _ _ _ _ _ (by omega), if_neg (by omega)]; rfl
    · rw [if_neg q1, if_neg (fun z => q1 ⟨z.1, by omega, z.2.2⟩), cpLs_2 ht _ _ _ _ _ _ (by omega)]
      by_cases q2 : o = 0 ∧ (54 ≤ e ∧ e < 54 + d) ∧ (id = 250 ∨ id = 253)
      · rw [if_pos q2, if_pos ⟨q2.1, by omega, q2.2.2⟩]; rfl
      · rw [if_neg q2, if_neg (fun z => q2 ⟨z.1, by omega, z.2.2⟩)]; rfl
  refine ⟨fun id e hn => ⟨?_, ?_⟩, fun id hi => ⟨?_, ?_⟩, fun id z => ⟨?_, ?_⟩, fun id z => ?_, fun id i z1 z2 hi => ⟨?_, ?_⟩, fun id k z hk => ?_, fun k hk => ?_⟩
  · rw [e1, if_neg (fun z => hn (Or.inr (Or.inr (Or.inl ⟨by omega, by omega, by omega, by omega⟩)))), if_neg (fun z => hn (Or.inr (Or.inl ⟨by omega, by omega, by omega, by omega⟩))), if_neg (fun z => hn (Or.inl ⟨by omega, z.2.1⟩))]
  · rw [e2, if_neg (fun z => hn (Or.inr (Or.inr (Or.inl ⟨by omega, by omega, by omega, by omega⟩)))), if_neg (fun z => hn (Or.inr (Or.inl ⟨by omega, by omega, by omega, by omega⟩)))]
  · funext o e; rw [e1, if_neg (by omega), if_neg (by omega), if_neg (by omega)]
  · funext o e; rw [e2, if_neg (by omega), if_neg (by omega)]
  · funext e; rw [e1, if_neg (by omega), if_neg (by omega), if_neg (by omega)]
  · funext e; rw [e2, if_neg (by omega), if_neg (by omega)]
  · rw [e1, if_neg (by omega), if_neg (by omega), if_pos ⟨rfl, rfl, z⟩]
  · by_cases q : id = 250 ∨ id = 253
    · exact Or.inr q
    · left; rw [e1, if_neg (by omega), if_pos ⟨rfl, by omega, ⟨z1, z2⟩, by omega, by omega⟩, show 9 * 6 + i - 54 = i by omega]
  · by_cases q : id = 250 ∨ id = 253
    · left; rw [e2, if_neg (by omega), if_pos ⟨rfl, by omega, q⟩, show 9 * 6 + i - 54 = i by omega]
    · exact Or.inr q
  · rw [e1, if_pos ⟨rfl, by omega, z⟩, show 32 * 6 + k - 192 = k by omega]
  · rw [e2, if_pos ⟨rfl, by omega, rfl⟩, show 32 * 6 + k - 192 = k by omega]
/-- a THREAD and its likeness -/
theorem TC.mi {sd : Nat → Nat → Nat} {s u s' u' : St} {t p d c : Nat} (h : TC sd s u t p d c) (M : Mi t p d c s s') (N : Mu t d c u u') : TC sd s' u' 6 p d c := by
  have h8 := h.d8
  have hc := h.rw.c22
  have bo : ∀ id b, id ≤ 8 → id ≠ 7 → b ≤ d → s'.1 id 6 b = s.1 id t b := fun id b z1 z2 z3 => (M.bo id b z1 z3).resolve_right z2
  have ul : ∀ id i, 247 ≤ id → id ≤ 254 → ¬ (id = 250 ∨ id = 253) → i < d → u'.1 id 0 (9 * 6 + i) = u.1 id 0 (9 * t + i) := fun id i z1 z2 z3 z4 => (N.lv id i z1 z2 z4).1.resolve_right z3
  have ul2 : ∀ id i, id = 250 ∨ id = 253 → i < d → u'.2 id 0 (9 * 6 + i) = u.2 id 0 (9 * t + i) := fun id i z z4 => (N.lv id i (by omega) (by omega) z4).2.resolve_right (fun q => q z)
  have eN : s'.1 64 = s.1 64 := M.ac.ap 64 (by decide) (by decide)
  have e70 : s'.1 70 = s.1 70 := M.ac.ap 70 (by decide) (by decide)
  have e16 : s'.1 16 0 0 = s.1 16 0 0 := by rw [(M.nt 16 (by omega) (by omega)).1]
  have e216 := (N.ag.ar 216 (by decide) (by decide)).1
  have e220 := (N.ag.ar 220 (by decide) (by decide)).1
  refine ⟨(M.ot 37 (by omega)).trans h.hp, (M.ot 41 (by omega)).trans h.ds, (N.ot 246 (by omega)).trans h.du, h8, ?_, fun b b1 b2 => ?_, ⟨(M.ot 80 (by omega)).trans h.rw.cs, (N.ot 255 (by omega)).trans h.rw.cu, hc, fun k hk => ?_, fun k k' hk hk' => ?_, fun k l hk z1 z2 => ?_, ?_⟩, ?_⟩
  · rw [M.ot 39 (by omega), N.ot 242 (by omega)]; exact h.st
  · obtain ⟨a, w, l1, l2, l3, l4, l5, l6, l7⟩ := h.lv b b1 b2
    refine ⟨a, w, by unfold nS at *; rw [eN]; exact l1, ⟨(bo 0 b (by omega) (by omega) b2).trans l2.1, (bo 3 (b - 1) (by omega) (by omega) (by omega)).trans l2.2.1, (ul 247 (b - 1) (by omega) (by omega) (by omega) (by omega)).trans l2.2.2⟩, ⟨(bo 1 b (by omega) (by omega) b2).trans l3.1, (ul 248 (b - 1) (by omega) (by omega) (by omega) (by omega)).trans l3.2⟩, ?_, ⟨by rw [e220]; exact l5.1, l5.2⟩, ?_, ?_⟩
    · rw [bo 2 b (by omega) (by omega) b2, ul 249 (b - 1) (by omega) (by omega) (by omega) (by omega)]; exact l4
    · unfold TmR at *
      rw [e216, e16, e70, bo 5 b (by omega) (by omega) b2, bo 4 b (by omega) (by omega) b2, ul2 250 (b - 1) (by omega) (by omega), ul 251 (b - 1) (by omega) (by omega) (by omega) (by omega)]; exact l6
    · unfold HdR at *
      rw [e216, bo 6 b (by omega) (by omega) b2, M.bh b b2, bo 8 b (by omega) (by omega) b2, ul 252 (b - 1) (by omega) (by omega) (by omega) (by omega), ul2 253 (b - 1) (by omega) (by omega), ul 254 (b - 1) (by omega) (by omega) (by omega) (by omega)]; exact l7
  · obtain ⟨w, l, a1, a2, a3, a4, a5⟩ := h.rw.en k hk
    refine ⟨w, l, a1, (M.ro 81 k (by omega) hk).trans a2, (N.ro 256 k (by omega) hk).trans a3, by rw [M.rv k hk, N.rv k hk]; exact a4, ?_⟩
    rw [M.ro 82 k (by omega) hk, N.ro 258 k (by omega) hk]; exact a5
  · rw [M.ro 81 k (by omega) hk, M.ro 82 k (by omega) hk, M.ro 81 k' (by omega) hk', M.ro 82 k' (by omega) hk']; exact h.rw.un k k' hk hk'
  · rw [M.ro 82 k (by omega) hk] at z1
    have := h.rw.tm k l hk z1 z2
    exact ⟨this.1, by rw [bo 4 (l + 1) (by omega) (by omega) (by omega)]; exact this.2⟩
  · have : ∀ m k, k + m ≤ c → cn81 s' 6 6 m k = cn81 s t 6 m k := by
      intro m
      induction m with
      | zero => intro k _; rfl
      | succ m ih => intro k hk; rw [cn81_1, cn81_1, ih (k + 1) (by omega), M.ro 81 k (by omega) (by omega)]
    rw [this c 0 (by omega)]; exact h.rw.ou
  · rw [M.ot 42 (by omega), h.aw]
    congr 1
    have : ∀ q, q ≤ d → cntA s t q = cntA s' 6 q := by
      intro q
      induction q with
      | zero => intro _; rfl
      | succ q ih => intro hq; unfold cntA; rw [ih (by omega), bo 4 (q + 1) (by omega) (by omega) hq]
    exact this d (Nat.le_refl _)
theorem PR.sw {sd : Nat → Nat → Nat} {s u : St} {p a : Nat} (pr : PR sd s u p) (ha : a < nS s p) : SW s p a := by
  have S := pr.st a ha
  have n40 := pr.n4.2
  refine ⟨by omega, fun z => ?_, fun z => ?_, fun z => ?_, fun z => ?_⟩
  · obtain ⟨b, b1, b2, -⟩ := S.lt (by rcases z with z | z | z <;> (rw [z]; decide))
    exact ⟨b, b1, b2⟩
  · obtain ⟨b, b1, b2, -⟩ := S.bx (by rcases z with z | z <;> (rw [z]; decide))
    exact ⟨b, b1, b2⟩
  · obtain ⟨b, b1, b2, -⟩ := S.sn z
    exact ⟨b, b1, b2⟩
  · exact (S.xp (by rcases z with z | z | z | z | z | z | z <;> (rw [z]; decide))).xw
theorem SG.sh {s u s' u' : St} {n : Nat} (h : SG s u n) (ac : Ac 6 s s') (ag : Ag 6 u u') (hc : ∀ g, g < 6 → cN s g ≤ 22) : SG s' u' n := by
  have e44 : ∀ w, w < 6 → s'.1 44 w 0 = s.1 44 w 0 := fun w hw => (ac 44 w 0 (fun z => by unfold PC at z; omega)).1
  have eu : ∀ id e, 260 ≤ id → id ≤ 262 → u'.1 id 0 e = u.1 id 0 e := fun id e z1 z2 => (ag id e (fun z => by unfold PT at z; omega)).1
  refine ⟨h.n30, by rw [eu _ _ (by omega) (by omega)]; exact h.sr, fun w hw => ?_, fun w w' hw hw' => ?_, fun g k hg hk => ?_⟩
  · unfold SE
    rw [e44 w hw, eu _ _ (by omega) (by omega), eu _ _ (by omega) (by omega)]; exact h.se w hw
  · rw [eu _ _ (by omega) (by omega), eu _ _ (by omega) (by omega)]; exact h.di w w' hw hw'
  · have hn : g ≠ 6 := by omega
    have er := ac.sr hn
    have ec : cN s' g = cN s g := by unfold cN; rw [(er 80 0 (by omega)).1]
    have := hc g hg
    obtain ⟨w, w1, w2⟩ := h.rs g k hg (by omega)
    refine ⟨w, by rw [(er 81 k (by omega)).1]; exact w1, ?_⟩
    rcases w2 with ⟨a1, a2, a3, a4⟩ | ⟨a1, a2, a3⟩
    · exact Or.inl ⟨a1, a2, by rw [e44 w a1]; exact a3, by rw [(ag.ur hn 259 _ (PT.r (by omega) (by omega)) (by omega)).1, eu _ _ (by omega) (by omega)]; exact a4⟩
    · exact Or.inr ⟨a1, a2, by rw [(ag.ur hn 259 _ (PT.r (by omega) (by omega)) (by omega)).1]; exact a3⟩
theorem WR.sh {sd : Nat → Nat → Nat} {pc n : Nat} {s u s' u' : St} (w : WR sd pc n s u) (ac : Ac 6 s s') (ag : Ag 6 u u') (hG : GV s') (hN : NR s' u') : WR sd pc n s' u' :=
  ⟨⟨hG, hN, by rw [(ac 16 0 0 (fun z => by unfold PC at z; omega)).1]; exact w.wc.ck, w.wc.pp.to ac.fc ag.fr, w.wc.sg.sh ac ag (fun g hg => (w.th g hg).cN), fun b hb => by
    rw [(ac 114 0 b (fun z => by unfold PC at z; omega)).1, (ac 115 0 b (fun z => by unfold PC at z; omega)).2, (ag 238 b (fun z => by unfold PT at z; omega)).1, (ag 239 b (fun z => by unfold PT at z; omega)).2]; exact w.wc.bx b hb⟩, fun g hg => (w.th g hg).fw (by omega) ac ag⟩
/-- whether the statement next to be done WAITS -/
theorem wd34 {sd : Nat → Nat → Nat} {pc n t p a : Nat} {s u : St} (ht : t < 6) (W : WR sd pc n s u) (hp : p < pc) (ha : a < nS s p) (h37 : s.1 37 6 0 = nI p) (h32 : s.1 32 6 0 = nI t) (h44 : s.1 44 6 0 = s.1 44 t 0) (hu : u.1 241 0 6 = nI (40 * p + a)) (Q : s.1 44 t 0 = -1 ∨ (s.1 68 p a = 14 ∧ s.1 70 p a = s.1 44 t 0)) :
    r_wouldStep_34 (nI t) u = r_wouldStep_179 (wtV s 6 a) u ∧ (wtV s 6 a = 0 ∨ wtV s 6 a = 1) := by
  have h12 := W.wc.pp.1
  have pr := W.wc.pp.2.2.2 p hp
  have n40 := pr.n4.2
  have S := pr.st a ha
  have pe : pN s 6 = p := pN_of h37 (by omega)
  have g6 : ∀ {α β : Type} {x : α} {f : α → Option β}, grd (ib (6 : Int32) 7) x f = f x := fun {α β x f} => gI (n := 6) (by decide) (by decide)
  have k6 : (6 : Int32).toNatClampNeg = 6 := rfl
  have R34 : r_wouldStep_34 (nI t) u = if u.1 216 0 (40 * p + a) = 4 then (grd (ib (nI (40 * p + a)) 480) (u.1 222 0 (40 * p + a)) fun v23 => grd (ib v23 8) (u.1 238 0 v23.toNatClampNeg) fun v24 => if v24 = 0 then (r_wouldStep_103 (nI t) (nI (40 * p + a)) u) else (r_wouldStep_78 (nI t) (nI (40 * p + a)) u)) else r_wouldStep_78 (nI t) (nI (40 * p + a)) u := by
    unfold r_wouldStep_34
    rw [g6, k6, hu, if_pos (nI_pos' (by omega)), g6, gI (by omega) (by decide), nI_clamp (by omega)]
  have R108 : ¬ u.1 216 0 (40 * p + a) = 9 → ∀ y, r_wouldStep_108 (nI t) (nI (40 * p + a)) y u = r_wouldStep_179 y u := fun z y => by
    unfold r_wouldStep_108
    rw [gI (by omega) (by decide), nI_clamp (by omega), if_neg z]
  have R78 : ¬ u.1 216 0 (40 * p + a) = 6 → r_wouldStep_78 (nI t) (nI (40 * p + a)) u = r_wouldStep_107 (nI t) (nI (40 * p + a)) u := fun z => by
    unfold r_wouldStep_78
    rw [gI (by omega) (by decide), nI_clamp (by omega), if_neg z]
  have bz : ∀ b, s.1 114 0 b = 0 ∨ s.1 114 0 b = 1 := fun b => by
    obtain ⟨q, hq, e⟩ := (W.wc.gv 114 0 b : okN 2 _)
    rcases (show q = 0 ∨ q = 1 by omega) with rfl | rfl
    · exact Or.inl e
    · exact Or.inr e
  by_cases k4 : u.1 216 0 (40 * p + a) = 4
  · have k9 : s.1 68 p a = 9 := (KM.i S.kd).2.2.2.1.mp k4
    obtain ⟨b, e1, e2, e3⟩ := S.bx (by rw [k9]; decide)
    have wt : wtV s 6 a = if s.1 114 0 b = 0 then 1 else 0 := by
      unfold wtV nuN; rw [pe, k9, if_pos rfl, e2, nI_clamp (by omega)]
    rw [R34, if_pos k4, gI (by omega) (by decide), e3, gI (by omega) (by decide), nI_clamp (by omega), ← (W.wc.bx b e1).1, wt]
    by_cases z : s.1 114 0 b = 0
    · rw [if_pos z, if_pos z]
      refine ⟨?_, Or.inr rfl⟩
      unfold r_wouldStep_103; exact R108 (by rw [k4]; decide) _
    · rw [if_neg z, if_neg z]
      refine ⟨?_, Or.inl rfl⟩
      rw [R78 (by rw [k4]; decide)]; unfold r_wouldStep_107; exact R108 (by rw [k4]; decide) _
  · rw [R34, if_neg k4]
    have n9 : ¬ s.1 68 p a = 9 := fun z => k4 ((KM.i S.kd).2.2.2.1.mpr z)
    by_cases k6' : u.1 216 0 (40 * p + a) = 6
    · have k11 : s.1 68 p a = 11 := (KM.i S.kd).2.2.2.2.1.mp k6'
      obtain ⟨b, e1, e2, e3⟩ := S.bx (by rw [k11]; decide)
      have wt : wtV s 6 a = s.1 114 0 b := by
        unfold wtV nuN; rw [pe, k11, if_neg (by decide), if_pos rfl, e2, nI_clamp (by omega)]
      have r78 : r_wouldStep_78 (nI t) (nI (40 * p + a)) u = if s.1 114 0 b = 0 then r_wouldStep_107 (nI t) (nI (40 * p + a)) u else r_wouldStep_103 (nI t) (nI (40 * p + a)) u := by
        unfold r_wouldStep_78
        rw [gI (by omega) (by decide), nI_clamp (by omega), if_pos k6', gI (by omega) (by decide), e3, gI (by omega) (by decide), nI_clamp (by omega), ← (W.wc.bx b e1).1]
      rw [r78, wt]
      rcases bz b with z | z
      · rw [if_pos z, z]
        refine ⟨?_, Or.inl rfl⟩
        unfold r_wouldStep_107; exact R108 (by rw [k6']; decide) _
      · rw [z, if_neg (by decide)]
        refine ⟨?_, Or.inr rfl⟩
        unfold r_wouldStep_103; exact R108 (by rw [k6']; decide) _
    · have n11 : ¬ s.1 68 p a = 11 := fun z => k6' ((KM.i S.kd).2.2.2.2.1.mpr z)
      rw [R78 k6']
      unfold r_wouldStep_107
      by_cases k9 : u.1 216 0 (40 * p + a) = 9
      · have k14 : s.1 68 p a = 14 := (KM.i S.kd).2.2.2.2.2.2.1.mp k9
        obtain ⟨g, hg, g2, g3⟩ := S.sn k14
        have nu : nuN s 6 a = g := by unfold nuN; rw [pe, g2, nI_clamp (by omega)]
        have Tg := W.th g hg
        obtain ⟨dg, cg, R⟩ := Tg.row
        have hcg := R.c22
        have hcN := cN_of R.cs hcg
        have wt : wtV s 6 a = if s.1 44 t 0 = -1 then (if nI g = nI t ∨ ¬ s.1 38 g 0 = 1 then 0 else 1) else (if pl81 s g (nI t) cg 0 = -1 then 0 else 1) := by
          unfold wtV
          rw [pe, k14, if_neg (by decide), if_neg (by decide), if_pos rfl, nu, g2, h32, h44, hcN]
        have r108 : r_wouldStep_108 (nI t) (nI (40 * p + a)) 0 u = if nI g = nI t then r_wouldStep_179 0 u else if s.1 38 g 0 = 1 then (if u.1 261 0 t = 0 then r_wouldStep_173 u else (cal2 (r_stands (nI g) (u.1 261 0 t) u) fun v20 s19 => if v20 = 0 then (r_wouldStep_178 (0 : Int32) s19) else (r_wouldStep_173 s19))) else r_wouldStep_179 0 u := by
          unfold r_wouldStep_108
          rw [gI (by omega) (by decide), nI_clamp (by omega), if_pos k9, gI (by omega) (by decide), g3, gI (by omega) (by decide), gI (by omega) (by decide), nI_clamp (by omega), gI (by omega) (by decide), nI_clamp (by omega), gI (by omega) (by decide), gI (by omega) (by decide), ← Tg.tb.st]
        rw [r108, wt]
        rcases W.wc.sg.se t ht with ⟨x44, x261⟩ | ⟨g', r, z1, z2, x44, x262, x261, r1, rn⟩
        · rw [if_pos x44, x261, if_pos rfl]
          by_cases hgt : nI g = nI t
          · rw [if_pos hgt, if_pos (Or.inl hgt)]; exact ⟨rfl, Or.inl rfl⟩
          · rw [if_neg hgt]
            by_cases hs : s.1 38 g 0 = 1
            · rw [if_pos hs, if_neg (fun q => q.elim hgt (fun q => q hs))]; exact ⟨rfl, Or.inr rfl⟩
            · rw [if_neg hs, if_pos (Or.inr hs)]; exact ⟨rfl, Or.inl rfl⟩
        · have hn1 : ¬ s.1 44 t 0 = -1 := by rw [x44]; exact nI_n1 (by omega)
          have n30 := W.wc.sg.n30
          have egg : g' = g := by
            rcases Q with q | ⟨q1, q2⟩
            · exact absurd q hn1
            · rw [g2, x44] at q2; exact ((nI_eq (by omega) (by omega)).mp q2).symm
          subst egg
          have hgt : ¬ nI g' = nI t := fun z => z2 ((nI_eq (by omega) (by omega)).mp z)
          have r0 : ¬ u.1 261 0 t = 0 := by rw [x261]; exact fun z => absurd ((nI_z (by omega)).mp z) (by omega)
          have ser := serT hg ht W.wc.sg hcN x261 r1 rn
          rw [if_neg hn1, if_neg hgt, if_neg r0, x261]
          by_cases hex : ∃ q, q < cg ∧ s.1 81 g' q = nI t
          · obtain ⟨q, hq, eq⟩ := hex
            have hpl : ¬ pl81 s g' (nI t) cg 0 = -1 := by
              have : ∀ m k, k ≤ q → q < k + m → ¬ pl81 s g' (nI t) m k = -1 := by
                intro m
                induction m with
                | zero => intro k h1 h2; omega
                | succ m ih =>
                  intro k h1 h2
                  unfold pl81
                  by_cases hk : s.1 81 g' k = nI t
                  · rw [if_pos hk]; exact nI_n1 (by omega)
                  · rw [if_neg hk]
                    exact ih (k + 1) (by rcases Nat.lt_or_ge k q with z | z; (· omega); (· exact absurd (by rw [show k = q by omega]; exact eq) hk)) (by omega)
              exact this cg 0 (by omega) (by omega)
            have hst : s.1 38 g' 0 = 1 := by
              rcases Tg.ru with z | ⟨_, I⟩
              · exact z.1
              · have := I.a0; rw [R.cs] at this
                have := (nI_z (by omega)).mp this; omega
            rw [if_neg hpl, if_pos hst]
            unfold r_stands
            rw [show r_stands_5 40 (nI g') (nI r) 0 0 u = some (1, u) from r_stq g' cg q (nI r) (by omega) hcg cg 0 40 u (by omega) (by omega) R.cu (by omega) hq ((ser q hq).mpr eq), cal2_s, if_neg (by decide)]
            exact ⟨rfl, Or.inr rfl⟩
          · have hno : ∀ k, k < cg → ¬ s.1 81 g' k = nI t := fun k hk e => hex ⟨k, hk, e⟩
            rw [if_pos (pl81_no cg 0 (fun i _ h2 => hno i (by omega)))]
            refine ⟨?_, Or.inl rfl⟩
            by_cases hst : s.1 38 g' 0 = 1
            · rw [if_pos hst]
              unfold r_stands
              rw [show r_stands_5 40 (nI g') (nI r) 0 0 u = some (0, u) from r_st0 g' cg (nI r) (by omega) hcg cg 0 40 u (by omega) (by omega) R.cu (fun i _ hi z => hno i hi ((ser i hi).mp z)), cal2_s, if_pos rfl]
              rfl
            · rw [if_neg hst]
      · have n14 : ¬ s.1 68 p a = 14 := fun z => k9 ((KM.i S.kd).2.2.2.2.2.2.1.mpr z)
        have wt : wtV s 6 a = 0 := by unfold wtV; rw [pe, if_neg n9, if_neg n11, if_neg n14]
        rw [R108 k9, wt]; exact ⟨rfl, Or.inl rfl⟩
theorem sim_wd {sd : Nat → Nat → Nat} {pc n t : Nat} {s u : St} (ht : t < 6) (W : WR sd pc n s u) (hr : s.1 38 t 0 = 1) :
    NX (setS 6 24 (mirS s 6 t)).2 6 ∧ ∃ u', r_wouldStep (nI t) u = some ((wdR s t).1, u') ∧ WR sd pc n (wdR s t).2 u' ∧ Fc s (wdR s t).2 ∧ Fr u u' ∧ Cl u u' ∧ ∀ g, g < 6 → (wdR s t).2.1 38 g 0 = s.1 38 g 0 := by
  obtain ⟨p, d, c, w, P, Q⟩ := W.wt ht hr
  have h12 := w.ev.p12
  have n40 := w.ev.pr.n4.2
  have h8 := w.tc.d8
  have hc := w.tc.rw.c22
  have M := Mi_mir ht (by omega) w.tc
  have hz : ∀ j, j < d → zo (u.1 251 0 (9 * t + j)) := fun j hj => by
    obtain ⟨a, wh, L⟩ := w.tc.lv (j + 1) (by omega) (by omega)
    rcases L.2.2.2.2.2.1 with ⟨_, _, _, _, _, _, _, _, _, q | q⟩ | ⟨_, _, _, q⟩
    · exact Or.inl q.2
    · exact Or.inr q.2
    · exact Or.inl q
  have hcp := r_cp ht h8 hc w.tc.du w.tc.rw.cu hz
  have N := Mu_cp (u := u) ht h8 hc
  have G0 := GV_mir (i := 6) (i2 := t) W.wc.gv
  unfold wdR
  generalize mirS s 6 t = s0 at M G0 ⊢
  generalize cpU t d c u = u0 at hcp N
  have T0 := w.tc.mi M N
  have N0 : NR s0 u0 := w.wc.nr.lv M.nt N.nt
  have E0 : EV sd s0 u0 6 p := ⟨h12, w.ev.pr.to M.ac.ap N.ag.ar, N0, fun z => by omega, G0, by rw [(M.nt 16 (by omega) (by omega)).1]; exact w.wc.ck⟩
  have x3 : s0.1 3 6 d = s.1 3 t d := (M.bo 3 d (by omega) (Nat.le_refl _)).resolve_right (by decide)
  have x241 : u0.1 241 0 6 = u.1 241 0 t := N.ot 241 (by omega)
  have P0 : PS sd s0 u0 6 p d := by unfold PS at *; rw [nS_to M.ac.ap, x3, x241]; exact P
  have o44 : s0.1 44 t 0 = s.1 44 t 0 := (M.ac 44 t 0 (fun z => by unfold PC at z; omega)).1
  -- settled
  obtain ⟨v, s1, u1, d1, c1, r1, r2, T1, F1, E1, r6, Q1⟩ : ∃ v s1 u1 d1 c1, setS 6 24 s0 = (v, s1) ∧ r_settle (nI 6) u0 = some (v, u1) ∧ TC sd s1 u1 6 p d1 c1 ∧ Fm 6 s0 u0 s1 u1 ∧ EV sd s1 u1 6 p ∧ ((v = 0 ∧ PS sd s1 u1 6 p d1) ∨ (v = 1 ∧ ∃ a, a < nS s1 p ∧ s1.1 3 6 d1 = nI a)) ∧ (s.1 44 t 0 = -1 ∨ ∃ a, s1.1 3 6 d1 = nI a ∧ a < 40 ∧ s.1 68 p a = 14 ∧ s.1 70 p a = s.1 44 t 0) := by
    rcases Q with q | ⟨a, q1, q2, q3, q4⟩
    · have hm := mu_le (s := s0) (t := 6) d
      obtain ⟨v, s', u', d', c', r1, r2, r3, r4, r5, r6⟩ := sim_settle (show 6 < 7 by omega) 24 40 s0 u0 d c E0 T0 P0 (by omega) (by omega)
      refine ⟨v, s', u', d', c', r1, r2, r3, r4, r5, ?_, Or.inl q⟩
      rcases r6 with ⟨z1, z2, -⟩ | ⟨z1, -, z3⟩
      · exact Or.inl ⟨z1, z2⟩
      · exact Or.inr ⟨z1, z3⟩
    · have hu : u0.1 241 0 6 = nI (40 * p + a) := by
        rw [x241]
        rcases P with z | ⟨a', z1, z2, z3, z4⟩
        · rw [q2] at z; exact absurd z.1 (nI_n1 (by omega))
        · have : a' = a := (nI_eq (by omega) (by omega)).mp (z2.symm.trans q2)
          rw [← this]; exact z3
      obtain ⟨r1, r2⟩ := settle_no (show 6 < 7 by omega) T0 (x3.trans q2) (by omega) hu h12
      exact ⟨0, s0, u0, d, c, r1, r2, T0, Fm.refl (by rw [cN_of T0.rw.cs hc]; exact hc), E0, Or.inl ⟨rfl, P0⟩, Or.inr ⟨a, x3.trans q2, by omega, q3, q4⟩⟩
  have ac : Ac 6 s s1 := M.ac.trans F1.ac
  have ag : Ag 6 u u1 := N.ag.trans F1.ag
  have cl : Cl u u1 := N.cl.trans F1.cl
  have W1 : WR sd pc n s1 u1 := W.sh ac ag E1.gv E1.nr
  have hd1 : dN s1 6 = d1 := dN_of T1.ds T1.d8
  have hp1 : pN s1 6 = p := pN_of T1.hp (by omega)
  have n41 := E1.pr.n4.2
  have hc1 := T1.rw.c22
  have e0 : 0 < s1.1 80 6 0 ↔ 1 ≤ c1 := by rw [T1.rw.cs]; exact nI_ltiff (a := 0) (by decide) (by omega)
  have nx : ∀ a, a < nS s1 p → s1.1 3 6 d1 = nI a → s1.1 3 6 (dN s1 6) = nI (aN s1 6 (dN s1 6)) ∧ SW s1 (pN s1 6) (aN s1 6 (dN s1 6)) := fun a q1 q2 => by
    have eA : aN s1 6 d1 = a := by unfold aN; rw [q2, nI_clamp (by omega)]
    rw [hd1, hp1, eA]; exact ⟨q2, E1.pr.sw q1⟩
  have st38 : ∀ g, g < 6 → s1.1 38 g 0 = s.1 38 g 0 := fun g hg => (ac 38 g 0 (fun z => by unfold PC at z; omega)).1
  have g6 : ∀ {α β : Type} {x : α} {f : α → Option β}, grd (ib (6 : Int32) 7) x f = f x := fun {α β x f} => gI (n := 6) (by decide) (by decide)
  have k6 : (6 : Int32).toNatClampNeg = 6 := rfl
  have r2 : r_settle (6 : Int32) u0 = some (v, u1) := r2
  rw [r1]
  refine ⟨fun z => ?_, u1, ?_, ?_, ?_, ag.fr, cl, ?_⟩
  · have z : ¬ s1.1 3 6 (dN s1 6) = -1 := z
    rcases r6 with ⟨-, P1⟩ | ⟨-, a, q1, q2⟩
    · rcases P1 with ⟨p1, -⟩ | ⟨a, q1, q2, -⟩
      · rw [hd1] at z; exact absurd p1 z
      · exact nx a q1 q2
    · exact nx a q1 q2
  · unfold r_wouldStep
    rw [hcp, cal_s, r2, cal2_s]
    rcases r6 with ⟨rfl, P1⟩ | ⟨rfl, -⟩
    · rw [if_pos rfl, if_pos (show ((0 : Int32), s1).1 = 0 from rfl), g6, k6, ← T1.st, g6, T1.rw.cu]
      show _ = some (wd1V s1, u1)
      unfold wd1V
      rw [hd1]
      have H34 : ∃ y, r_wouldStep_34 (nI t) u1 = some (y, u1) ∧ (¬ (s1.1 39 6 0 = 0 ∧ 1 ≤ c1) → y = (if s1.1 3 6 d1 = -1 ∨ (0 < s1.1 80 6 0 ∧ s1.1 39 6 0 = 0) then 1 else if wtV s1 6 (aN s1 6 d1) = 0 ∨ (0 < s1.1 80 6 0 ∧ s1.1 39 6 0 = 1) then 1 else 0)) := by
        rcases P1 with ⟨p1, p2⟩ | ⟨a, q1, q2, q3, q4⟩
        · refine ⟨1, ?_, fun _ => by rw [if_pos (Or.inl p1)]⟩
          unfold r_wouldStep_34
          rw [g6, k6, p2, if_neg (by decide)]
        · have eA : aN s1 6 d1 = a := by unfold aN; rw [q2, nI_clamp (by omega)]
          have QQ : s1.1 44 t 0 = -1 ∨ (s1.1 68 p a = 14 ∧ s1.1 70 p a = s1.1 44 t 0) := by
            have e44 : s1.1 44 t 0 = s.1 44 t 0 := (ac 44 t 0 (fun z => by unfold PC at z; omega)).1
            rw [e44, ac.ap 68 (by decide) (by decide), ac.ap 70 (by decide) (by decide)]
            rcases Q1 with z | ⟨a', z1, z1', z2, z3⟩
            · exact Or.inl z
            · have : a' = a := (nI_eq (by omega) (by omega)).mp (z1.symm.trans q2)
              rw [this] at z2 z3; exact Or.inr ⟨z2, z3⟩
          have h32 : s1.1 32 6 0 = nI t := by
            rw [(F1.ks 32 (by omega)).1, M.ot 32 (by omega)]; exact w.nu
          have h44 : s1.1 44 6 0 = s1.1 44 t 0 := by
            rw [(F1.ks 44 (by omega)).1, M.ot 44 (by omega), (ac 44 t 0 (fun z => by unfold PC at z; omega)).1]
          obtain ⟨R, wz⟩ := wd34 ht W1 w.hp q1 T1.hp h32 h44 q3 QQ
          rw [R, eA]
          unfold r_wouldStep_179 r_wouldStep_204 r_wouldStep_208
          have nq : ¬ s1.1 3 6 d1 = -1 := by rw [q2]; exact nI_n1 (by omega)
          rcases wz with z | z
          · rw [z, if_pos rfl]
            refine ⟨1, rfl, fun _ => ?_⟩
            split
            · rfl
            · rw [if_pos (Or.inl rfl)]
          · rw [z, if_neg (by decide), g6, k6, ← T1.st, g6, T1.rw.cu]
            by_cases h1 : s1.1 39 6 0 = 1
            · rw [if_pos h1]
              rcases Nat.lt_or_ge c1 1 with hl | hl
              · rw [if_pos ((nI_0lt (by omega)).mpr (by omega))]
                refine ⟨0, rfl, fun _ => ?_⟩
                rw [if_neg (fun q => q.elim nq (fun q => by have := e0.mp q.1; omega)), if_neg (fun q => q.elim (by decide) (fun q => by have := e0.mp q.1; omega))]
              · rw [if_neg (nI_nle (by omega) (by omega))]
                refine ⟨1, rfl, fun _ => ?_⟩
                split
                · rfl
                · rw [if_pos (Or.inr ⟨e0.mpr hl, h1⟩)]
            · rw [if_neg h1]
              refine ⟨0, rfl, fun hno => ?_⟩
              rw [if_neg (fun q => q.elim nq (fun q => hno ⟨q.2, e0.mp q.1⟩)), if_neg (fun q => q.elim (by decide) (fun q => h1 q.2))]
      obtain ⟨y, y1, y2⟩ := H34
      by_cases h0 : s1.1 39 6 0 = 0
      · rw [if_pos h0]
        rcases Nat.lt_or_ge c1 1 with hl | hl
        · rw [if_neg (show ¬ 0 < nI c1 from fun q => by have := (nI_ltiff (a := 0) (by decide) (by omega)).mp q; omega), y1, y2 (fun q => by omega)]
        · rw [if_pos (show 0 < nI c1 from (nI_ltiff (a := 0) (by decide) (by omega)).mpr (by omega)), if_pos (Or.inr ⟨e0.mpr hl, h0⟩)]
      · rw [if_neg h0, y1, y2 (fun q => h0 q.1)]
    · rw [if_neg (by decide), if_neg (show ¬ ((1 : Int32), s1).1 = 0 from (by decide : ¬ (1 : Int32) = 0))]
  · split <;> exact W1
  · split <;> exact ac.fc
  · split <;> exact st38
def AJR (sd : Nat → Nat → Nat) (pc : Nat) (s : St) : Prop := ∃ n u, WR sd pc n s u
theorem AJ_R {sd : Nat → Nat → Nat} {pc : Nat} : AJ (AJR sd pc) := fun s k ⟨n, u, W⟩ hk hr => by
  obtain ⟨h1, u', -, h3, -⟩ := sim_wd hk W hr
  exact ⟨h1, n, u', h3⟩
theorem sim_aw {sd : Nat → Nat → Nat} {pc n : Nat} : ∀ (m k N : Nat) (s u : St), k + m = 6 → m < N → WR sd pc n s u → ∃ u', r_stuck_2 N (nI k) u = some (if (awS m k s).1 = 0 then 1 else 0, u') ∧ WR sd pc n (awS m k s).2 u' ∧ Fc s (awS m k s).2 ∧ Fr u u' ∧ Cl u u' := by
  intro m
  induction m with
  | zero =>
    intro k N s u hk hN W
    obtain ⟨N, rfl⟩ : ∃ q, N = q + 1 := ⟨N - 1, by omega⟩
    refine ⟨u, ?_, W, Fc.refl s, Fr.refl u, Cl.refl u⟩
    rw [r_stuck_2.eq_2, if_pos (show (6 : Int32) ≤ nI k from nI_le (a := 6) (by omega) (by omega))]; rfl
  | succ m ih =>
    intro k N s u hk hN W
    obtain ⟨N, rfl⟩ : ∃ q, N = q + 1 := ⟨N - 1, by omega⟩
    rw [r_stuck_2.eq_2, if_neg (show ¬ (6 : Int32) ≤ nI k from nI_ge (b := 6) (by omega) (by decide)), gI (by omega) (by decide), nI_clamp (by omega), ← (W.th k (by omega)).tb.st]
    unfold r_stuck_28
    rw [nI_1]
    have eA : awS (m + 1) k s = if ¬ s.1 38 k 0 = 1 then awS m (k + 1) s else if (wdR s k).1 = 0 then awS m (k + 1) (wdR s k).2 else (1, (wdR s k).2) := rfl
    by_cases hr : s.1 38 k 0 = 1
    · rw [if_neg (show ¬ ¬ s.1 38 k 0 = 1 from fun z => z hr)] at eA
      rw [if_pos hr]
      obtain ⟨-, u1, a1, a2, a3, a4, a5, a6⟩ := sim_wd (show k < 6 by omega) W hr
      rw [a1, cal2_s]
      by_cases h0 : (wdR s k).1 = 0
      · rw [if_pos h0] at eA
        rw [if_pos h0, eA]
        obtain ⟨u2, b1, b2, b3, b4, b5⟩ := ih (k + 1) N _ u1 (by omega) (by omega) a2
        exact ⟨u2, b1, b2, a3.trans b3, a4.trans b4, a5.trans b5⟩
      · rw [if_neg h0] at eA
        rw [if_neg h0, eA]
        exact ⟨u1, by rw [if_neg (show ¬ ((1 : Int32), (wdR s k).2).1 = 0 from (by decide : ¬ (1 : Int32) = 0))], a2, a3, a4, a5⟩
    · rw [if_pos hr] at eA
      rw [if_neg hr, eA]
      exact ih (k + 1) N s u (by omega) (by omega) W
theorem S_stuck {sd : Nat → Nat → Nat} {pc n k : Nat} {s u : St} (L : RL sd pc n k s u) : AJR sd pc s ∧ ∃ u', r_stuck u = some ((stuckR s).1, u') ∧ RL sd pc n k (stuckR s).2 u' ∧ Rf s (stuckR s).2 ∧ Cl u u' := by
  obtain ⟨c, hc, hck⟩ := L.ck
  refine ⟨⟨n, u, L.wr⟩, ?_⟩
  obtain ⟨u', a1, a2, a3, a4, a5⟩ := sim_aw 6 0 10 s u (by omega) (by omega) L.wr
  exact ⟨u', a1, L.to a2 (by show (awS 6 0 s).2.1 16 0 0 = _; rw [(a3 16 (Or.inl rfl)).1]; exact hck) hc L.nk a3.z a4, a3.z.rf, a5⟩
