/-! exps are worked, on both sides -/
theorem st_sl {s u : St} {p i j : Nat} {v : Int64} (h : i ≠ j → s.2 77 p i = u.2 268 0 i) : (sl s 77 p j v).2 77 p i = (sl u 268 0 j v).2 268 0 i := by
  by_cases z : i = j
  · subst z; rw [sl_e, sl_e]
  · rw [sl_q z, sl_q z]; exact h z
theorem CdR_sl {s u : St} {p f e j j' : Nat} {v v' : Int64} (h : CdR s u p f e) : CdR (sl s 77 p j v) (sl u 268 0 j' v') p f e := by
  unfold CdR at *
  rw [sl_o (by decide)]; exact h
theorem sim_wk {p t : Nat} (ht : t < 7) : ∀ (m k n e N : Nat) (s u : St), (∀ i, i < m → CdR s u p (k + i) (e + i)) → u.1 224 0 (e + m) = 4 → e + m < 2400 → evOK s p m k n → m < N → (∀ i, i < n → s.2 77 p i = u.2 268 0 i) → (∀ b, b < 10 → s.2 34 t b = u.2 245 0 (10 * t + b)) →
    ∃ u', r_work_5 N (nI t) (nI n) (nI e) u = some ((wkS p t m k n s).2 77 p 0, u') ∧ u'.1 = u.1 ∧ ∀ id, id ≠ 268 → u'.2 id = u.2 id := by
  intro m
  induction m with
  | zero =>
    intro k n e N s u hC h4 he hev hN hst hl
    obtain ⟨N, rfl⟩ : ∃ q, N = q + 1 := ⟨N - 1, by omega⟩
    have hn : n = 1 := hev
    subst hn
    refine ⟨u, ?_, rfl, fun _ _ => rfl⟩
    rw [r_work_5.eq_2, gI (by omega) (by decide), nI_clamp (by omega), show u.1 224 0 e = 4 from h4, if_pos rfl, grd_t (show ib (0 : Int32) 64 from ⟨by decide, by decide⟩)]
    show some (u.2 268 0 0, u) = some (s.2 77 p 0, u)
    rw [hst 0 (by decide)]
  | succ m ih =>
    intro k n e N s u hC h4 he hev hN hst hl
    obtain ⟨N, rfl⟩ : ∃ q, N = q + 1 := ⟨N - 1, by omega⟩
    obtain ⟨v1, v2, v3, v4, v5⟩ := hev
    have C := hC 0 (by omega)
    have fin : ∀ (j n' : Nat) (v : Int64), wk1 p t k n s = sl s 77 p j v → wkn p k n s = n' → (∀ i, i < n' → i ≠ j → i < n) → ∃ u', r_work_5 N (nI t) (nI n') (nI (e + 1)) (sl u 268 0 j v) = some ((wkS p t (m + 1) k n s).2 77 p 0, u') ∧ u'.1 = u.1 ∧ ∀ id, id ≠ 268 → u'.2 id = u.2 id := fun j n' v g1 g2 g3 => by
      obtain ⟨u', a1, a2, a3⟩ := ih (k + 1) n' (e + 1) N (sl s 77 p j v) (sl u 268 0 j v) (fun i hi => by have := hC (i + 1) (by omega); rw [show k + 1 + i = k + (i + 1) by omega, show e + 1 + i = e + (i + 1) by omega]; exact CdR_sl this) (by rw [sl_1, show e + 1 + m = e + (m + 1) by omega]; exact h4) (by omega) (by rw [← g2]; exact evOK_1 (s := s) (t := sl s 77 p j v) p rfl m _ _ v5) (by omega) (fun i hi => st_sl (fun z => hst i (g3 i hi z))) (fun b hb => by rw [sl_o (by decide), sl_o (by decide)]; exact hl b hb)
      refine ⟨u', ?_, a2, fun id hi => (a3 id hi).trans (sl_id hi)⟩
      rw [a1]
      show _ = some ((wkS p t m (k + 1) (wkn p k n s) (wk1 p t k n s)).2 77 p 0, u')
      rw [g1, g2]
    have hk : s.1 75 p (k + 0) = s.1 75 p k := rfl
    rcases C with ⟨c1, c2, c3⟩ | ⟨c1, c2, b, c3, c4, c5⟩ | ⟨c1, c2⟩ | ⟨c1, c2⟩
    · have c1 : s.1 75 p k = 4 := c1
      have hn := v1 (Or.inl c1)
      obtain ⟨u', a1, a2, a3⟩ := fin n (n + 1) (u.2 226 0 e) (by unfold wk1; rw [if_pos c1, show u.2 226 0 e = _ from c3]; rfl) (by unfold wkn; rw [if_pos c1]) (fun i h1 h2 => by omega)
      refine ⟨u', ?_, a2, a3⟩
      rw [r_work_5.eq_2, gI (by omega) (by decide), nI_clamp (by omega), show u.1 224 0 e = 1 from c2, if_neg (by decide), gI (by omega) (by decide), if_pos rfl, gI (by omega) (by decide), gI (by omega) (by decide), nI_clamp (by omega)]
      unfold r_work_247
      rw [nI_1, nI_1]; exact a1
    · have c1 : s.1 75 p k = 2 := c1
      have hn := v1 (Or.inr c1)
      obtain ⟨u', a1, a2, a3⟩ := fin n (n + 1) (u.2 245 0 (10 * t + b)) (by unfold wk1; rw [if_neg (by rw [c1]; decide), if_pos c1, show s.1 76 p k = nI b from c4, nI_clamp (by omega), hl b c3]) (by unfold wkn; rw [if_neg (by rw [c1]; decide), if_pos c1]) (fun i h1 h2 => by omega)
      refine ⟨u', ?_, a2, a3⟩
      rw [r_work_5.eq_2, gI (by omega) (by decide), nI_clamp (by omega), show u.1 224 0 e = 2 from c2, if_neg (by decide), gI (by omega) (by decide), if_neg (by decide), if_pos rfl, gI (by omega) (by decide), show u.1 225 0 e = nI (16 + b) from c5, m10s, gI (by omega) (by decide), nI_clamp (by omega), gI (by omega) (by decide), nI_clamp (by omega)]
      unfold r_work_247
      rw [nI_1, nI_1]; exact a1
    · have c1 : s.1 75 p k = 24 := c1
      have hn := v3 c1
      obtain ⟨u', a1, a2, a3⟩ := fin (n - 1) n (-(u.2 268 0 (n - 1))) (by unfold wk1; rw [if_neg (by rw [c1]; decide), if_neg (by rw [c1]; decide), if_pos c1, hst (n - 1) (by omega)]) (by unfold wkn; rw [if_neg (by rw [c1]; decide), if_neg (by rw [c1]; decide), if_pos c1]) (fun i h1 h2 => by omega)
      refine ⟨u', ?_, a2, a3⟩
      rw [r_work_5.eq_2, gI (by omega) (by decide), nI_clamp (by omega), show u.1 224 0 e = 3 from c2, if_neg (by decide), gI (by omega) (by decide), if_neg (by decide), if_neg (by decide), if_pos rfl, nI_s1 (by omega), gI (by omega) (by decide), nI_clamp (by omega), gI (by omega) (by decide)]
      unfold r_work_247
      rw [nI_1]; exact a1
    · have c1 : s.1 75 p k ∈ ([42, 43, 45, 60, 61, 35] : List Int32) := c1
      have c2 : u.1 224 0 e = s.1 75 p k := c2
      have n1 : ¬ s.1 75 p k = 4 := fun z => by rw [z] at c1; revert c1; decide
      have n2 : ¬ s.1 75 p k = 2 := fun z => by rw [z] at c1; revert c1; decide
      have n3 : ¬ s.1 75 p k = 24 := fun z => by rw [z] at c1; revert c1; decide
      have hn := v4 ⟨n1, n2, n3⟩
      have e1 : wkn p k n s = n - 1 := by unfold wkn; rw [if_neg n1, if_neg n2, if_neg n3]
      have e2 : wk1 p t k n s = sl s 77 p (n - 2) (joinV (s.1 75 p k) (u.2 268 0 (n - 2)) (u.2 268 0 (n - 1))) := by
        unfold wk1; rw [if_neg n1, if_neg n2, if_neg n3, hst (n - 2) (by omega), hst (n - 1) (by omega)]
      obtain ⟨u', a1, a2, a3⟩ := fin (n - 2) (n - 1) _ e2 e1 (fun i h1 h2 => by omega)
      refine ⟨u', ?_, a2, a3⟩
      have m1 : nI n + (-1) = nI (n - 1) := by rw [m1s, nI_s1 (by omega)]
      have m2 : nI (n - 1) - 1 = nI (n - 2) := by rw [nI_s1 (by omega)]; congr 1
      have go : ∀ v, r_work_246 (r_work_5 N) (nI t) (nI (n - 1)) (nI e) v (nI (n - 2)) u = r_work_5 N (nI t) (nI (n - 1)) (nI (e + 1)) (sl u 268 0 (n - 2) v) := fun v => by
        unfold r_work_246 r_work_247
        rw [gI (by omega) (by decide), nI_clamp (by omega), nI_1]
      rw [r_work_5.eq_2, gI (by omega) (by decide), nI_clamp (by omega), c2, if_neg n1, gI (by omega) (by decide), if_neg (fun z => by rw [z] at c1; revert c1; decide), if_neg n2, if_neg (fun z => by rw [z] at c1; revert c1; decide), m1, m2, gI (by omega) (by decide), nI_clamp (by omega), gI (by omega) (by decide), nI_clamp (by omega)]
      simp only [go]
      rw [← a1]
      simp only [List.mem_cons, List.not_mem_nil, or_false] at c1
      rcases c1 with z | z | z | z | z | z
      · rw [z, if_neg (by decide), if_neg (by decide), if_neg (by decide), if_neg (by decide), if_neg (by decide)]; rfl
      · rw [z, if_neg (by decide), if_neg (by decide), if_neg (by decide), if_pos rfl]; rfl
      · rw [z, if_neg (by decide), if_neg (by decide), if_neg (by decide), if_neg (by decide), if_pos rfl]; rfl
      · rw [z, if_pos rfl, show ∀ x y, joinV 60 x y = if x < y then 1 else 0 from fun _ _ => rfl]
        by_cases hlt : u.2 268 0 (n - 2) < u.2 268 0 (n - 1)
        · rw [if_pos hlt, if_pos hlt]
        · rw [if_neg hlt, if_neg hlt]
      · rw [z, if_neg (by decide), if_pos rfl, show ∀ x y, joinV 61 x y = if x = y then 1 else 0 from fun _ _ => rfl]
        by_cases hlt : u.2 268 0 (n - 2) = u.2 268 0 (n - 1)
        · rw [if_pos hlt, if_pos hlt]
        · rw [if_neg hlt, if_neg hlt]
      · rw [z, if_neg (by decide), if_neg (by decide), if_pos rfl, show ∀ x y, joinV 35 x y = if x = y then 0 else 1 from fun _ _ => rfl]
        by_cases hlt : u.2 268 0 (n - 2) = u.2 268 0 (n - 1)
        · rw [if_pos hlt, if_pos hlt]
        · rw [if_neg hlt, if_neg hlt]
theorem wk1_2 (p i k n : Nat) (s : St) (id : Nat) (h : id ≠ 77) : (wk1 p i k n s).2 id = s.2 id := by
  unfold wk1
  split
  · exact sl_id h
  · split
    · exact sl_id h
    · split <;> exact sl_id h
theorem wkS_2 (p i : Nat) (id : Nat) (h : id ≠ 77) : ∀ m k n s, (wkS p i m k n s).2 id = s.2 id
  | 0, _, _, _ => rfl
  | m + 1, k, n, s => (wkS_2 p i id h m _ _ _).trans (wk1_2 p i k n s id h)
theorem wS_1 {s : St} {t p a : Nat} : (wS s t p a).1 = s.1 := wkS_1 p t _ _ _ _
theorem wS_2 {s : St} {t p a id : Nat} (h : id ≠ 77) : (wS s t p a).2 id = s.2 id := wkS_2 p t id h _ _ _ _
theorem sim_work {s u : St} {t p a : Nat} (ht : t < 7) (hX : XpR s u p a) (hl : ∀ b, b < 10 → s.2 34 t b = u.2 245 0 (10 * t + b)) :
    ∃ u', r_work (nI t) (u.1 218 0 (40 * p + a)) u = some (wV s t p a, u') ∧ u'.1 = u.1 ∧ ∀ id, id ≠ 268 → u'.2 id = u.2 id := by
  obtain ⟨f, m, e, h1, h2, h3, h4, h5, h6, h7, h8⟩ := hX
  obtain ⟨u', a1, a2⟩ := sim_wk ht m f 0 e 300 s u h6 h7 (by omega) h8 (by omega) (fun i hi => absurd hi (Nat.not_lt_zero _)) hl
  refine ⟨u', ?_, a2⟩
  unfold r_work wV wS
  rw [h4, h1, h2, nI_clamp (by omega), nI_clamp (by omega), show f + m - f = m by omega]
  exact a1
theorem XpR.xw {s u : St} {p a : Nat} (h : XpR s u p a) : XW s p a := by
  obtain ⟨f, m, e, h1, h2, h3, h4, h5, h6, h7, h8⟩ := h
  exact ⟨f, f + m, h1, h2, by omega, h3, by rw [show f + m - f = m by omega]; exact h8⟩
