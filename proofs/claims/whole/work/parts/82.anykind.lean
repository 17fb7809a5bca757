/-! texts on both sides: a statement of any kind, and all of them -/
theorem st_fin {sT s u s1 u2 : St} {z cnt p k h un f e d o w : Nat} {E : Nat → Nat} {la : Option Nat} {R K : Int32} {g g1 : Nat → Nat} {c : Option (Int32 × St)} (bg : BG sT z cnt E p s u k h un f e d o w la R K u2) (hO : OWN p d h o w u) (hL : LAS p d h la u) (hB : ∀ N, r_readText_40 (N + 1) u = cal (r_readStatement u) (r_readText_40 N)) (C1 : CB X0 p h f s s1) (h68 : s1.1 68 p h = K) (h73 : s1.1 73 p h = -1) (hg1 : ∀ a, a < h → g1 a = g a) (hgd : g1 h = d)
    (ko : KO sT z cnt E p d h K s1 u2 (k + 1) (h + 1) f e g1 c (fun N => cal (rdD (nI (40 * p + h)) R u2) (r_readText_40 N))) :
    ∃ v s', c = some (v, s') ∧ CB X0 p h f s s' ∧ ((v = 1 ∧ ∃ u' k' n' un' f' e' g' m, k < k' ∧ m ≤ k' - k ∧ h < n' ∧ f ≤ f' ∧ e ≤ e' ∧ BS sT z cnt E p s' u' k' n' un' f' e' d ∧ RB (Yl p d o w la) p h e d u u' ∧ (∀ a, a < h → g' a = g a) ∧ g' h = d ∧ (∀ a, h ≤ a → a < n' → StX g' s' u' p n' f' e' a) ∧ LKV p d o w la (nI (40 * p + h)) u' ∧ u'.1 235 0 d = nI (40 * p + h) ∧ ∀ N, r_readText_40 (N + m) u = r_readText_40 N u') ∨
      (v = 0 ∧ FT sT cnt p h e d (Yl p d o w la) k u s' (fun N => r_readText_40 N u))) := by
  obtain ⟨v, s', a1, a2, a3⟩ := ko
  have h40 := bg.hn
  have C2 : CB X0 p h f s s' := C1.trans (a2.mono (fun id i t => by rcases t with t | t; (· exact Or.inr (Or.inl ⟨by omega, by omega⟩)); (· exact Or.inr (Or.inr ⟨t.1, by omega, by omega⟩))) (Nat.le_succ h) (Nat.le_refl _))
  have ym : ∀ id i, YS1 p h id i → Yl p d o w la id i ∨ (216 ≤ id ∧ id ≤ 223 ∧ id ≠ 219 ∧ id ≠ 220 ∧ 40 * p + h ≤ i ∧ i < 40 * p + 40) ∨ ((id = 219 ∨ id = 220) ∧ 3 * (40 * p + h) ≤ i ∧ i < 3 * (40 * p + 40)) ∨ (233 ≤ id ∧ id ≤ 235 ∧ d < i) := fun id i t => by
    rcases t with ⟨t1, t2⟩ | ⟨t1, t2, t3⟩
    · exact Or.inr (Or.inl ⟨by omega, by omega, by omega, by omega, by omega, by omega⟩)
    · exact Or.inr (Or.inr (Or.inl ⟨t1, t2, by omega⟩))
  refine ⟨v, s', a1, C2, ?_⟩
  rcases a3 with ⟨rfl, u', k', n', un', f', e', g', m, b1, b2, b3, b4, b5, b6, b7, b8, b9, b10, b11⟩ | ⟨rfl, k', u', m, b1, b2, b3, b4, b5, b6, b7, b8⟩
  · have hg' : g' h = d := by rw [b8 h (Nat.lt_succ_self h)]; exact hgd
    have e68 : s'.1 68 p h = K := by rw [a2.qs 68 h (by omega) (by omega) (Nat.lt_succ_self h) (fun t => by rcases t with t | t <;> omega)]; exact h68
    have e73 : s'.1 73 p h = -1 := by rw [a2.qs 73 h (by omega) (by omega) (Nat.lt_succ_self h) (fun t => by rcases t with t | t <;> omega)]; exact h73
    have e216 : u'.1 216 0 (40 * p + h) = R := r6 b7 (Nat.lt_succ_self h) bg.v6 (fun t => by rcases t with t | t <;> omega)
    have e217 : u'.1 217 0 (40 * p + h) = -1 := by rw [b7.qs 217 _ (by omega) (by omega) (by omega) (by omega) (by omega) (fun t => by rcases t with t | t <;> omega)]; exact bg.v7
    refine Or.inl ⟨rfl, u', k', n', un', f', e', g', m + 1, by omega, by omega, by omega, b4, b5, b6, bg.rb.trans (b7.mono ym (Nat.le_succ h) (Nat.le_refl _) (Nat.le_refl _)), fun a ha => by rw [b8 a (by omega), hg1 a ha], hg', fun a h1 h2 => ?_, ⟨fun a ha => ?_, fun t1 t2 => ?_, fun t1 t2 => ?_⟩, ?_, fun N => ?_⟩
    · rcases Nat.lt_or_ge h a with h3 | h3
      · exact b9 a h3 h2
      · obtain rfl : a = h := by omega
        obtain ⟨f1, f2, f3, f4, f5⟩ := b10
        exact ⟨by rw [e216, e68]; exact bg.km, by rw [e73, e217]; exact Or.inl ⟨rfl, rfl⟩, f2, by rw [e68]; exact f3, by rw [e68]; exact f4, by rw [e68]; exact f5, by rw [e68]; exact f1⟩
    · have al : a < h := by
        rcases hL with ⟨l1, _⟩ | ⟨b, l1, l2, _⟩
        · rw [ha] at l1; cases l1
        · rw [ha] at l1; cases l1; exact l2
      rw [b7.qs 217 _ (by omega) (by omega) (by omega) (by omega) (by omega) (fun t => by rcases t with t | t <;> omega)]; exact bg.lk.1 a ha
    · rw [b7.qf (fun t => by rcases t with t | t <;> omega)]; exact bg.lk.2.1 t1 t2
    · have ol : o < h ∧ w < 3 := by
        rcases hO with ⟨q, _⟩ | ⟨_, q1, q2, _⟩
        · exact absurd q t2
        · exact ⟨q1, q2⟩
      rw [b7.qb 219 _ (Or.inl rfl) (Or.inl (by omega)) (fun t => by rcases t with t | t <;> omega)]; exact bg.lk.2.2 t1 t2
    · rw [b7.ql 235 d (by omega) (by omega) (Nat.le_refl _) (fun t => by rcases t with t | t <;> omega)]; exact bg.v5
    · rw [show N + (m + 1) = (N + m) + 1 by omega, hB, bg.rr]; exact b11 N
  · exact Or.inr ⟨rfl, k', u', m + 1, by omega, b2, b3, b4, b5, bg.rb.trans (b6.mono ym (Nat.le_succ h) (Nat.le_refl _) (Nat.le_refl _)), by omega, fun N => by
      show r_readText_40 (N + (m + 1)) u = _
      rw [show N + (m + 1) = (N + m) + 1 by omega, hB, bg.rr]; exact b8 N⟩
theorem kd_5 {fS : Fx3} {fT : Fx1} {fB : Fx3} {fM : Fx2} {a v : Int32} {s : St} : kdD fS fT fB fM a 5 v s = k_statement_188 fS fT fB fM v s := rfl
theorem kd_13 {fS : Fx3} {fT : Fx1} {fB : Fx3} {fM : Fx2} {a v : Int32} {s : St} : kdD fS fT fB fM a 13 v s = k_statement_188 fS fT fB fM v s := rfl
theorem kd_15 {fS : Fx3} {fT : Fx1} {fB : Fx3} {fM : Fx2} {a v : Int32} {s : St} : kdD fS fT fB fM a 15 v s = k_statement_530 fS fT fB fM a v s := rfl
theorem kd_16 {fS : Fx3} {fT : Fx1} {fB : Fx3} {fM : Fx2} {a v : Int32} {s : St} : kdD fS fT fB fM a 16 v s = k_statement_530 fS fT fB fM a v s := rfl
theorem kd_17 {fS : Fx3} {fT : Fx1} {fB : Fx3} {fM : Fx2} {a v : Int32} {s : St} : kdD fS fT fB fM a 17 v s = k_statement_530 fS fT fB fM a v s := rfl
theorem rd_0 {x : Int32} {u : St} : rdD x 0 u = r_readStatement_246 x u := rfl
theorem rd_8 {x : Int32} {u : St} : rdD x 8 u = r_readStatement_246 x u := rfl
theorem rd_1 {x : Int32} {u : St} : rdD x 1 u = r_readStatement_254 x u := rfl
theorem rd_3 {x : Int32} {u : St} : rdD x 3 u = r_readStatement_254 x u := rfl
theorem rd_10 {x : Int32} {u : St} : rdD x 10 u = r_readStatement_446 x u := rfl
theorem rd_11 {x : Int32} {u : St} : rdD x 11 u = r_readStatement_446 x u := rfl
theorem rd_12 {x : Int32} {u : St} : rdD x 12 u = r_readStatement_446 x u := rfl
theorem rd_13 {x : Int32} {u : St} : rdD x 13 u = r_readStatement_446 x u := rfl
theorem rd_15 {x : Int32} {u : St} : rdD x 15 u = r_readStatement_446 x u := rfl
