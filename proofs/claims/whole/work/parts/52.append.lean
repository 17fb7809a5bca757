/-! a row with one more; how many a row may have; whether one stands in it -/
theorem pig : ∀ (N c : Nat) (f : Nat → Nat), (∀ i, i < c → f i < N) → (∀ i j, i < c → j < c → f i = f j → i = j) → c ≤ N := by
  intro N
  induction N with
  | zero =>
    intro c f h1 h2
    rcases Nat.eq_zero_or_pos c with z | z
    · omega
    · exact absurd (h1 0 z) (Nat.not_lt_zero _)
  | succ N ih =>
    intro c f h1 h2
    by_cases hex : ∃ i, i < c ∧ f i = N
    · obtain ⟨i, hi, ei⟩ := hex
      have := ih (c - 1) (fun j => if j = i then f (c - 1) else f j) (fun j hj => by
        by_cases z : j = i
        · simp only [if_pos z]
          have a := h1 (c - 1) (by omega)
          have b : f (c - 1) ≠ N := fun q => by have := h2 (c - 1) i (by omega) hi (q.trans ei.symm); omega
          omega
        · simp only [if_neg z]
          have a := h1 j (by omega)
          have b : f j ≠ N := fun q => z (h2 j i (by omega) hi (q.trans ei.symm))
          omega) (fun j k hj hk e => by
        by_cases z : j = i
        · by_cases z2 : k = i
          · omega
          · simp only [if_pos z, if_neg z2] at e
            have := h2 (c - 1) k (by omega) (by omega) e
            omega
        · by_cases z2 : k = i
          · simp only [if_neg z, if_pos z2] at e
            have := h2 j (c - 1) (by omega) (by omega) e
            omega
          · simp only [if_neg z, if_neg z2] at e
            exact h2 j k (by omega) (by omega) e)
      omega
    · have := ih c f (fun i hi => by
        have a := h1 i hi
        have b : f i ≠ N := fun q => hex ⟨i, hi, q⟩
        omega) h2
      omega
theorem cn81_s {s : St} {t : Nat} {x : Int32} (i : Nat) : cn81 s t x (i + 1) 0 = cn81 s t x i 0 + (if s.1 81 t i = x then 1 else 0) := by
  rw [cn81_add i 1 0, Nat.zero_add]
  rfl
theorem cn81_mono {s : St} {t : Nat} {x : Int32} {i : Nat} : ∀ j, i ≤ j → cn81 s t x i 0 ≤ cn81 s t x j 0 := by
  intro j
  induction j with
  | zero => intro h; rw [show i = 0 by omega]; exact Nat.le_refl _
  | succ j ih =>
    intro h
    rcases Nat.lt_or_ge i (j + 1) with z | z
    · have := ih (by omega)
      rw [cn81_s]; omega
    · rw [show i = j + 1 by omega]; exact Nat.le_refl _
theorem row21 {s u : St} {g d c n : Nat} (hg : g < 6) (R : RwR s u g d c) (hS : SG s u n) : c ≤ 21 := by
  have hc := R.c22
  have key : ∀ i, i < c → ∃ w l, w < 8 ∧ w ≠ g ∧ s.1 81 g i = nI w ∧ ((w = 7 ∧ l < 8 ∧ s.1 82 g i = nI (l + 1)) ∨ (w ≠ 7 ∧ s.1 82 g i = 0)) := fun i hi => by
    obtain ⟨w, l, a1, a2, a3, a4, a5⟩ := R.en i hi
    obtain ⟨w', b1, b2⟩ := hS.rs g i hg (by rw [cN_of R.cs hc]; exact hi)
    have e : w' = w := by
      rcases b2 with q | q <;> exact (nI_eq (by omega) (by omega)).mp (b1.symm.trans a2)
    refine ⟨w, l, a1, ?_, a2, ?_⟩
    · rcases b2 with q | q
      · rw [← e]; exact q.2.1
      · omega
    · rcases a5 with q | q
      · exact Or.inl ⟨q.1, q.2.1, q.2.2.1⟩
      · exact Or.inr q
  have ou := R.ou
  have rk : ∀ i, i < c → s.1 81 g i = nI 6 → cn81 s g 6 i 0 < 8 := fun i hi z => by
    have h1 := cn81_s (s := s) (t := g) (x := 6) i
    rw [if_pos (show s.1 81 g i = 6 from z)] at h1
    have h2 := cn81_mono (s := s) (t := g) (x := 6) (i := i + 1) c (by omega)
    omega
  have rk2 : ∀ i j, i < j → s.1 81 g i = nI 6 → cn81 s g 6 i 0 < cn81 s g 6 j 0 := fun i j hij z => by
    have h1 := cn81_s (s := s) (t := g) (x := 6) i
    rw [if_pos (show s.1 81 g i = 6 from z)] at h1
    have h2 := cn81_mono (s := s) (t := g) (x := 6) (i := i + 1) j (by omega)
    omega
  let f : Nat → Nat := fun i => if (s.1 81 g i).toNatClampNeg = 6 then 13 + cn81 s g 6 i 0 else if (s.1 81 g i).toNatClampNeg = 7 then 4 + (s.1 82 g i).toNatClampNeg else if (s.1 81 g i).toNatClampNeg < g then (s.1 81 g i).toNatClampNeg else (s.1 81 g i).toNatClampNeg - 1
  have fv : ∀ i w, s.1 81 g i = nI w → w < 8 → f i = if w = 6 then 13 + cn81 s g 6 i 0 else if w = 7 then 4 + (s.1 82 g i).toNatClampNeg else if w < g then w else w - 1 := fun i w z h => by
    show (if (s.1 81 g i).toNatClampNeg = 6 then _ else _) = _
    rw [z, nI_clamp (by omega)]
  refine pig 21 c f (fun i hi => ?_) (fun i j hi hj e => ?_)
  · obtain ⟨w, l, a1, a2, a3, a4⟩ := key i hi
    rw [fv i w a3 a1]
    by_cases z6 : w = 6
    · subst z6; rw [if_pos rfl]; have := rk i hi a3; omega
    · rw [if_neg z6]
      by_cases z7 : w = 7
      · rw [if_pos z7]
        rcases a4 with q | q
        · rw [q.2.2, nI_clamp (by omega)]; omega
        · exact absurd z7 q.1
      · rw [if_neg z7]; split <;> omega
  · obtain ⟨w, l, a1, a2, a3, a4⟩ := key i hi
    obtain ⟨w', l', a1', a2', a3', a4'⟩ := key j hj
    rw [fv i w a3 a1, fv j w' a3' a1'] at e
    by_cases z6 : w = 6
    · subst z6
      rw [if_pos rfl] at e
      by_cases z6' : w' = 6
      · subst z6'
        rw [if_pos rfl] at e
        rcases Nat.lt_trichotomy i j with q | q | q
        · have := rk2 i j q a3; omega
        · exact q
        · have := rk2 j i q a3'; omega
      · rw [if_neg z6'] at e
        by_cases z7' : w' = 7
        · rw [if_pos z7'] at e
          rcases a4' with q | q
          · rw [q.2.2, nI_clamp (by omega)] at e; omega
          · exact absurd z7' q.1
        · rw [if_neg z7'] at e; split at e <;> omega
    · rw [if_neg z6] at e
      by_cases z6' : w' = 6
      · subst z6'
        rw [if_pos rfl] at e
        by_cases z7 : w = 7
        · rw [if_pos z7] at e
          rcases a4 with q | q
          · rw [q.2.2, nI_clamp (by omega)] at e; omega
          · exact absurd z7 q.1
        · rw [if_neg z7] at e; split at e <;> omega
      · rw [if_neg z6'] at e
        have un : w = w' → s.1 82 g i = s.1 82 g j → i = j := fun q1 q2 => R.un i j hi hj (by rw [a3, a3', q1]) q2 (by rw [a3]; exact fun q => z6 ((nI_eq (b := 6) (by omega) (by decide)).mp q))
        by_cases z7 : w = 7
        · rw [if_pos z7] at e
          obtain ⟨b1, b2, b3⟩ := a4.resolve_right (fun q => q.1 z7)
          rw [b3, nI_clamp (by omega)] at e
          by_cases z7' : w' = 7
          · rw [if_pos z7'] at e
            obtain ⟨c1, c2, c3⟩ := a4'.resolve_right (fun q => q.1 z7')
            rw [c3, nI_clamp (by omega)] at e
            exact un (by omega) (by rw [b3, c3]; congr 1; omega)
          · rw [if_neg z7'] at e; split at e <;> omega
        · rw [if_neg z7] at e
          by_cases z7' : w' = 7
          · rw [if_pos z7'] at e
            obtain ⟨c1, c2, c3⟩ := a4'.resolve_right (fun q => q.1 z7')
            rw [c3, nI_clamp (by omega)] at e
            split at e <;> omega
          · rw [if_neg z7'] at e
            have b := (a4.resolve_left (fun q => z7 q.1)).2
            have b' := (a4'.resolve_left (fun q => z7' q.1)).2
            refine un ?_ (b.trans b'.symm)
            split at e <;> split at e <;> omega
/-! a row with one more -/
def apC (s : St) (g c : Nat) (x1 x2 : Int32) (v : Int64) : St := si (sl (si (si s 81 g c x1) 82 g c x2) 83 g c v) 80 g 0 (nI (c + 1))
def apU (u : St) (g c : Nat) (x1 l r : Int32) (v : Int64) : St := si (si (si (sl (si u 256 0 (32 * g + c) x1) 257 0 (32 * g + c) v) 258 0 (32 * g + c) l) 259 0 (32 * g + c) r) 255 0 g (nI (c + 1))
theorem app_eq {s : St} {g c : Nat} {x1 x2 : Int32} {v : Int64} (h : s.1 80 g 0 = nI c) (hc : c ≤ 21) : appS s g x1 x2 v = apC s g c x1 x2 v := by
  unfold appS apC
  rw [h, if_neg (show ¬ (22 : Int32) ≤ nI c from nI_ge (b := 22) (by omega) (by decide)), nI_clamp (by omega), nI_1]
theorem r_toRow_eq {u : St} {g c : Nat} {x1 l r : Int32} {v : Int64} (hg : g < 7) (h : u.1 255 0 g = nI c) (hc : c ≤ 22) : r_toRow (nI g) x1 v l r u = some (apU u g c x1 l r v) := by
  unfold r_toRow apU
  rw [gI (by omega) (by decide), nI_clamp (by omega), h]
  simp only [m32]
  rw [gI (by omega) (by decide), nI_clamp (by omega), gI (by omega) (by decide), gI (by omega) (by decide), gI (by omega) (by decide), gI (by omega) (by decide), gI (by omega) (by decide), si_o (by decide), si_o (by decide), sl_1, si_o (by decide), h, nI_1]
theorem apC_o {s : St} {g c id o e : Nat} {x1 x2 : Int32} {v : Int64} (h : ¬ ((80 ≤ id ∧ id ≤ 82) ∧ o = g)) : (apC s g c x1 x2 v).1 id o e = s.1 id o e := by
  unfold apC
  rw [si_ne (fun z => h ⟨by omega, z.2.1⟩), sl_1, si_ne (fun z => h ⟨by omega, z.2.1⟩), si_ne (fun z => h ⟨by omega, z.2.1⟩)]
theorem apC_o2 {s : St} {g c id o e : Nat} {x1 x2 : Int32} {v : Int64} (h : ¬ (id = 83 ∧ o = g)) : (apC s g c x1 x2 v).2 id o e = s.2 id o e := by
  unfold apC
  rw [si_2, sl_r, if_neg (fun z => h ⟨z.1, z.2.1⟩)]; rfl
theorem apC_k {s : St} {g c id k : Nat} {x1 x2 : Int32} {v : Int64} (h : id = 81 ∨ id = 82) (hk : k ≠ c) : (apC s g c x1 x2 v).1 id g k = s.1 id g k := by
  unfold apC
  rw [si_o (by omega), sl_1, si_ne (fun z => hk z.2.2), si_ne (fun z => hk z.2.2)]
theorem apC_80 {s : St} {g c : Nat} {x1 x2 : Int32} {v : Int64} : (apC s g c x1 x2 v).1 80 g 0 = nI (c + 1) := by unfold apC; rw [si_eq]
theorem apC_81 {s : St} {g c : Nat} {x1 x2 : Int32} {v : Int64} : (apC s g c x1 x2 v).1 81 g c = x1 := by unfold apC; rw [si_o (by decide), sl_1, si_o (by decide), si_eq]
theorem apC_82 {s : St} {g c : Nat} {x1 x2 : Int32} {v : Int64} : (apC s g c x1 x2 v).1 82 g c = x2 := by unfold apC; rw [si_o (by decide), sl_1, si_eq]
theorem apU_o {u : St} {g c id e : Nat} {x1 l r : Int32} {v : Int64} (h : ¬ ((256 ≤ id ∧ id ≤ 259) ∧ e = 32 * g + c)) (h2 : ¬ (id = 255 ∧ e = g)) : (apU u g c x1 l r v).1 id 0 e = u.1 id 0 e ∧ (apU u g c x1 l r v).2 id 0 e = u.2 id 0 e := by
  unfold apU
  refine ⟨?_, ?_⟩
  · rw [si_ne (fun z => h2 ⟨z.1, z.2.2⟩), si_ne (fun z => h ⟨by omega, z.2.2⟩), si_ne (fun z => h ⟨by omega, z.2.2⟩), sl_1, si_ne (fun z => h ⟨by omega, z.2.2⟩)]
  · rw [si_2, si_2, si_2, sl_r, if_neg (fun z => h ⟨by omega, z.2.2⟩)]; rfl
theorem apU_255 {u : St} {g c : Nat} {x1 l r : Int32} {v : Int64} : (apU u g c x1 l r v).1 255 0 g = nI (c + 1) := by unfold apU; rw [si_eq]
theorem apU_256 {u : St} {g c : Nat} {x1 l r : Int32} {v : Int64} : (apU u g c x1 l r v).1 256 0 (32 * g + c) = x1 := by unfold apU; rw [si_o (by decide), si_o (by decide), si_o (by decide), sl_1, si_eq]
theorem apU_258 {u : St} {g c : Nat} {x1 l r : Int32} {v : Int64} : (apU u g c x1 l r v).1 258 0 (32 * g + c) = l := by unfold apU; rw [si_o (by decide), si_o (by decide), si_eq]
theorem apU_259 {u : St} {g c : Nat} {x1 l r : Int32} {v : Int64} : (apU u g c x1 l r v).1 259 0 (32 * g + c) = r := by unfold apU; rw [si_o (by decide), si_eq]
theorem apU_257 {u : St} {g c : Nat} {x1 l r : Int32} {v : Int64} : (apU u g c x1 l r v).2 257 0 (32 * g + c) = v := by unfold apU; rw [si_2, si_2, si_2, sl_e]
theorem Cl_ap {u : St} {g c : Nat} {x1 l r : Int32} {v : Int64} : Cl u (apU u g c x1 l r v) := by
  unfold apU
  exact ((((((Cl.refl u).si (by decide)).sl (by decide)).si (by decide)).si (by decide)).si (by decide))
theorem RwR.app {s u : St} {g d c w l : Nat} {x2 lv r : Int32} {v : Int64} (h : RwR s u g d c) (hc : c ≤ 21) (hw : w < 8) (hE : (w = 7 ∧ l < 8 ∧ x2 = nI (l + 1) ∧ lv = nI l ∧ l < d ∧ s.1 4 g (l + 1) = 2) ∨ (w ≠ 7 ∧ x2 = 0))
    (hu : w ≠ 6 → ∀ k, k < c → s.1 81 g k = nI w → s.1 82 g k = x2 → False) (ho : w = 6 → cn81 s g 6 c 0 < 8) : RwR (apC s g c (nI w) x2 v) (apU u g c (nI w) lv r v) g d (c + 1) := by
  refine ⟨apC_80, apU_255, by omega, fun k hk => ?_, fun k k' hk hk' e1 e2 e3 => ?_, fun k q hk e1 e2 => ?_, ?_⟩
  · by_cases z : k = c
    · subst z
      refine ⟨w, l, hw, apC_81, apU_256, ?_, ?_⟩
      · rw [apU_257]; unfold apC; rw [si_2, sl_e]
      · rw [apC_82, apU_258]
        rcases hE with q | q
        · exact Or.inl ⟨q.1, q.2.1, q.2.2.1, q.2.2.2.1⟩
        · exact Or.inr q
    · obtain ⟨w', l', a1, a2, a3, a4, a5⟩ := h.en k (by omega)
      refine ⟨w', l', a1, by rw [apC_k (Or.inl rfl) z]; exact a2, by rw [(apU_o (by omega) (by omega)).1]; exact a3, ?_, ?_⟩
      · rw [(apU_o (by omega) (by omega)).2, ← a4]
        unfold apC; rw [si_2, sl_q z]; rfl
      · rw [apC_k (Or.inr rfl) z, (apU_o (by omega) (by omega)).1]; exact a5
  · by_cases z : k = c
    · by_cases z' : k' = c
      · omega
      · subst z
        rw [apC_81, apC_k (Or.inl rfl) z'] at e1
        rw [apC_82, apC_k (Or.inr rfl) z'] at e2
        rw [apC_81] at e3
        exact (hu (fun q => e3 (by rw [q]; rfl)) k' (by omega) e1.symm e2.symm).elim
    · by_cases z' : k' = c
      · subst z'
        rw [apC_81, apC_k (Or.inl rfl) z] at e1
        rw [apC_82, apC_k (Or.inr rfl) z] at e2
        rw [apC_k (Or.inl rfl) z] at e3
        exact (hu (fun q => e3 (by rw [e1, q]; rfl)) k (by omega) e1 e2).elim
      · rw [apC_k (Or.inl rfl) z, apC_k (Or.inl rfl) z'] at e1
        rw [apC_k (Or.inr rfl) z, apC_k (Or.inr rfl) z'] at e2
        rw [apC_k (Or.inl rfl) z] at e3
        exact h.un k k' (by omega) (by omega) e1 e2 e3
  · rw [apC_o (by omega)]
    by_cases z : k = c
    · subst z
      rw [apC_82] at e1
      rcases hE with ⟨q1, q2, q3, q4, q5, q6⟩ | ⟨q1, q2⟩
      · have : l = q := by
          have := (nI_eq (by omega) (by omega)).mp (q3.symm.trans e1); omega
        rw [← this]; exact ⟨q5, q6⟩
      · rw [q2] at e1; exact absurd ((nI_eq (a := 0) (by omega) (by omega)).mp e1) (by omega)
    · rw [apC_k (Or.inr rfl) z] at e1
      exact h.tm k q (by omega) e1 e2
  · rw [cn81_s, cn81_to (s := s) c 0 (fun i _ hi => apC_k (Or.inl rfl) (by omega)), apC_81]
    by_cases z : w = 6
    · have := ho z; split <;> omega
    · rw [if_neg (show ¬ nI w = 6 from fun q => z ((nI_eq (b := 6) (by omega) (by decide)).mp q))]; exact h.ou
/-! whether a serial stands in a row -/
theorem r_st1 (g c : Nat) (x : Int32) (hg : g < 7) (hc : c ≤ 22) : ∀ (m k n : Nat) (u : St), k + m = c → m < n → u.1 255 0 g = nI c → r_stands_5 n (nI g) x 1 (nI k) u = some (1, u) := by
  intro m
  induction m with
  | zero =>
    intro k n u hk hn hu
    obtain ⟨n, rfl⟩ : ∃ q, n = q + 1 := ⟨n - 1, by omega⟩
    rw [r_stands_5.eq_2, gI (by omega) (by decide), nI_clamp (by omega), hu, if_pos (nI_le (by omega) (by omega)), gz zo1]
  | succ m ih =>
    intro k n u hk hn hu
    obtain ⟨n, rfl⟩ : ∃ q, n = q + 1 := ⟨n - 1, by omega⟩
    rw [r_stands_5.eq_2, gI (by omega) (by decide), nI_clamp (by omega), hu, if_neg (nI_ge (by omega) (by omega)), if_neg (by decide)]
    unfold r_stands_36 r_stands_41
    rw [nI_1]; exact ih (k + 1) n u (by omega) (by omega) hu
theorem r_st0 (g c : Nat) (x : Int32) (hg : g < 7) (hc : c ≤ 22) : ∀ (m k n : Nat) (u : St), k + m = c → m < n → u.1 255 0 g = nI c → (∀ i, k ≤ i → i < c → ¬ u.1 259 0 (32 * g + i) = x) → r_stands_5 n (nI g) x 0 (nI k) u = some (0, u) := by
  intro m
  induction m with
  | zero =>
    intro k n u hk hn hu hno
    obtain ⟨n, rfl⟩ : ∃ q, n = q + 1 := ⟨n - 1, by omega⟩
    rw [r_stands_5.eq_2, gI (by omega) (by decide), nI_clamp (by omega), hu, if_pos (nI_le (by omega) (by omega)), gz zo0]
  | succ m ih =>
    intro k n u hk hn hu hno
    obtain ⟨n, rfl⟩ : ∃ q, n = q + 1 := ⟨n - 1, by omega⟩
    rw [r_stands_5.eq_2, gI (by omega) (by decide), nI_clamp (by omega), hu, if_neg (nI_ge (by omega) (by omega)), if_pos rfl]
    simp only [m32]
    rw [gI (by omega) (by decide), nI_clamp (by omega), if_neg (hno k (by omega) (by omega))]
    unfold r_stands_41
    rw [nI_1]; exact ih (k + 1) n u (by omega) (by omega) hu (fun i h1 h2 => hno i (by omega) h2)
theorem r_stq (g c q : Nat) (x : Int32) (hg : g < 7) (hc : c ≤ 22) : ∀ (m k n : Nat) (u : St), k + m = c → m < n → u.1 255 0 g = nI c → k ≤ q → q < c → u.1 259 0 (32 * g + q) = x → r_stands_5 n (nI g) x 0 (nI k) u = some (1, u) := by
  intro m
  induction m with
  | zero => intro k n u hk hn hu h1 h2; omega
  | succ m ih =>
    intro k n u hk hn hu h1 h2 h3
    obtain ⟨n, rfl⟩ : ∃ q, n = q + 1 := ⟨n - 1, by omega⟩
    rw [r_stands_5.eq_2, gI (by omega) (by decide), nI_clamp (by omega), hu, if_neg (nI_ge (by omega) (by omega)), if_pos rfl]
    simp only [m32]
    rw [gI (by omega) (by decide), nI_clamp (by omega)]
    by_cases z : u.1 259 0 (32 * g + k) = x
    · rw [if_pos z]
      unfold r_stands_36 r_stands_41
      rw [nI_1]; exact r_st1 g c x hg hc m (k + 1) n u (by omega) (by omega) hu
    · rw [if_neg z]
      unfold r_stands_41
      have : k ≠ q := fun e => z (by rw [e]; exact h3)
      rw [nI_1]; exact ih (k + 1) n u (by omega) (by omega) hu (by omega) h2 h3
