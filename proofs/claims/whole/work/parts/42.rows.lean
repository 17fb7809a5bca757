/-! rows on both sides: one goes, one comes -/
theorem dN_of {s : St} {t d : Nat} (h : s.1 41 t 0 = nI d) (h8 : d ≤ 8) : dN s t = d := by unfold dN; rw [h, nI_clamp (by omega)]
theorem cN_of {s : St} {t c : Nat} (h : s.1 80 t 0 = nI c) (h8 : c ≤ 22) : cN s t = c := by unfold cN; rw [h, nI_clamp (by omega)]
theorem pN_of {s : St} {t p : Nat} (h : s.1 37 t 0 = nI p) (h8 : p < 13) : pN s t = p := by unfold pN; rw [h, nI_clamp (by omega)]
theorem cn81_add {s : St} {t : Nat} {x : Int32} : ∀ m1 m2 k, cn81 s t x (m1 + m2) k = cn81 s t x m1 k + cn81 s t x m2 (k + m1)
  | 0, m2, k => by rw [Nat.zero_add]; show _ = 0 + _; rw [Nat.zero_add]; rfl
  | m1 + 1, m2, k => by
    rw [show m1 + 1 + m2 = (m1 + m2) + 1 by omega]
    unfold cn81
    rw [cn81_add m1 m2 (k + 1), show k + 1 + m1 = k + (m1 + 1) by omega, Nat.add_assoc]
    cases m2 <;> rfl
theorem cn81_sh {s s' : St} {t : Nat} {x : Int32} : ∀ m k, (∀ i, k ≤ i → i < k + m → s'.1 81 t i = s.1 81 t (i + 1)) → cn81 s' t x m k = cn81 s t x m (k + 1)
  | 0, _, _ => rfl
  | m + 1, k, h => by
    unfold cn81
    rw [h k (by omega) (by omega), cn81_sh m (k + 1) (fun i h1 h2 => h i (by omega) (by omega))]
theorem cn81_1 {s : St} {t : Nat} {x : Int32} {m k : Nat} : cn81 s t x (m + 1) k = (if s.1 81 t k = x then 1 else 0) + cn81 s t x m (k + 1) := rfl
/-- the place in the old row of the k-th of the new one -/
def jx (q k : Nat) : Nat := if q ≤ k then k + 1 else k
theorem rem_1 {s : St} {t c q id k : Nat} (hid : id = 81 ∨ id = 82) (hk : k < c - 1) : (remS s t c q).1 id t k = s.1 id t (jx q k) := by
  unfold remS jx
  rw [si_o (by omega), shf_at]
  by_cases h : q ≤ k
  · rw [if_pos ⟨hid, rfl, h, by omega⟩, if_pos h]
  · rw [if_neg (fun z => h z.2.2.1), if_neg h]
theorem rem_2 {s : St} {t c q k : Nat} (hk : k < c - 1) : (remS s t c q).2 83 t k = s.2 83 t (jx q k) := by
  unfold remS jx
  rw [si_2, shf_at2]
  by_cases h : q ≤ k
  · rw [if_pos ⟨rfl, rfl, h, by omega⟩, if_pos h]
  · rw [if_neg (fun z => h z.2.2.1), if_neg h]
theorem rem_o {s : St} {t c q id o e : Nat} (h : ¬ ((id = 81 ∨ id = 82) ∧ o = t)) (h2 : ¬ (id = 80 ∧ o = t)) : (remS s t c q).1 id o e = s.1 id o e := by
  unfold remS
  rw [si_ne (fun z => h2 ⟨z.1, z.2.1⟩), shf_at, if_neg (fun z => h ⟨z.1, z.2.1⟩)]
theorem rem_o2 {s : St} {t c q id o e : Nat} (h : ¬ (id = 83 ∧ o = t)) : (remS s t c q).2 id o e = s.2 id o e := by
  unfold remS
  rw [si_2, shf_at2, if_neg (fun z => h ⟨z.1, z.2.1⟩)]
theorem fr_1 {u : St} {t c q id k : Nat} (hid : id = 256 ∨ id = 258 ∨ id = 259) (hk : k < c - 1) : (frS u t c q).1 id 0 (32 * t + k) = u.1 id 0 (32 * t + jx q k) := by
  unfold jx
  rw [frS_1]
  by_cases h : q ≤ k
  · rw [if_pos ⟨hid, by omega⟩, if_pos h]; rfl
  · rw [if_neg (fun z => h (by omega)), if_neg (by omega), if_neg h]
theorem fr_2 {u : St} {t c q k : Nat} (hk : k < c - 1) : (frS u t c q).2 257 0 (32 * t + k) = u.2 257 0 (32 * t + jx q k) := by
  unfold jx
  rw [frS_2]
  by_cases h : q ≤ k
  · rw [if_pos ⟨rfl, by omega⟩, if_pos h]; rfl
  · rw [if_neg (fun z => h (by omega)), if_neg h]
theorem Ag_fr {u : St} {t c q : Nat} (hc : c ≤ 22) : Ag t u (frS u t c q) := by
  intro id e hp
  constructor
  · rw [frS_1, if_neg, if_neg]
    · rintro ⟨rfl, rfl⟩; exact hp (PT.a (by omega))
    · rintro ⟨h1, h2⟩; exact hp (Or.inr (Or.inr (Or.inl ⟨by omega, by omega, by omega, by omega⟩)))
  · rw [frS_2, if_neg]
    rintro ⟨h1, h2⟩; exact hp (Or.inr (Or.inr (Or.inl ⟨by omega, by omega, by omega, by omega⟩)))
theorem Ac_rem {s : St} {t c q : Nat} : Ac t s (remS s t c q) := by
  intro id o e hp
  constructor
  · exact rem_o (fun z => hp (Or.inl ⟨by omega, z.2⟩)) (fun z => hp (Or.inl ⟨by omega, z.2⟩))
  · exact rem_o2 (fun z => hp (Or.inl ⟨by omega, z.2⟩))
theorem jx_lt {q k c : Nat} (h : k < c - 1) : jx q k < c := by unfold jx; split <;> omega
theorem jx_ne {q k : Nat} : jx q k ≠ q := by unfold jx; split <;> omega
theorem jx_inj {q k k' : Nat} (h : jx q k = jx q k') : k = k' := by unfold jx at h; split at h <;> split at h <;> omega
theorem RwR_rem {s u : St} {t d c q : Nat} (h : RwR s u t d c) (hq : q < c) : RwR (remS s t c q) (frS u t c q) t d (c - 1) := by
  have hc := h.c22
  refine ⟨?_, ?_, by omega, fun k hk => ?_, fun k k' hk hk' e1 e2 e3 => ?_, fun k l hk e1 e2 => ?_, ?_⟩
  · unfold remS; rw [si_eq]
  · rw [frS_1, if_neg (by omega), if_pos ⟨rfl, rfl⟩]
  · obtain ⟨w, l, h1, h2, h3, h4, h5⟩ := h.en (jx q k) (jx_lt hk)
    refine ⟨w, l, h1, ?_, ?_, ?_, ?_⟩
    · rw [rem_1 (Or.inl rfl) hk]; exact h2
    · rw [fr_1 (Or.inl rfl) hk]; exact h3
    · rw [rem_2 hk, fr_2 hk]; exact h4
    · rw [rem_1 (Or.inr rfl) hk, fr_1 (Or.inr (Or.inl rfl)) hk]; exact h5
  · rw [rem_1 (Or.inl rfl) hk] at e1 e3
    rw [rem_1 (Or.inl rfl) hk'] at e1
    rw [rem_1 (Or.inr rfl) hk, rem_1 (Or.inr rfl) hk'] at e2
    exact jx_inj (h.un _ _ (jx_lt hk) (jx_lt hk') e1 e2 e3)
  · rw [rem_1 (Or.inr rfl) hk] at e1
    obtain ⟨h1, h2⟩ := h.tm _ l (jx_lt hk) e1 e2
    exact ⟨h1, by rw [rem_o (by omega) (by omega)]; exact h2⟩
  · have ho := h.ou
    have e1 : c - 1 = q + (c - 1 - q) := by omega
    have e2 : c = q + ((c - 1 - q) + 1) := by omega
    rw [e2, cn81_add, cn81_1] at ho
    rw [e1, cn81_add]
    have a1 : cn81 (remS s t c q) t 6 q 0 = cn81 s t 6 q 0 := cn81_to q 0 (fun i _ hi => by rw [rem_1 (Or.inl rfl) (by omega)]; unfold jx; rw [if_neg (by omega)])
    have a2 : cn81 (remS s t c q) t 6 (c - 1 - q) (0 + q) = cn81 s t 6 (c - 1 - q) (0 + q + 1) := cn81_sh _ _ (fun i h1 h2 => by rw [rem_1 (Or.inl rfl) (by omega)]; unfold jx; rw [if_pos (by omega)])
    rw [a1, a2]
    omega
/-- a row with the same numbers -/
theorem RwR.to {s u s' u' : St} {t d d' c : Nat} (h : RwR s u t d c) (es : ∀ id e, id = 80 ∨ id = 81 ∨ id = 82 → s'.1 id t e = s.1 id t e) (e83 : ∀ e, s'.2 83 t e = s.2 83 t e) (e255 : u'.1 255 0 t = u.1 255 0 t)
    (eu : ∀ id k, id = 256 ∨ id = 258 → k < 32 → u'.1 id 0 (32 * t + k) = u.1 id 0 (32 * t + k)) (e257 : ∀ k, k < 32 → u'.2 257 0 (32 * t + k) = u.2 257 0 (32 * t + k)) (ht : ∀ k l, k < c → s.1 82 t k = nI (l + 1) → l < 8 → l < d' ∧ s'.1 4 t (l + 1) = 2) : RwR s' u' t d' c := by
  have hc := h.c22
  refine ⟨(es 80 0 (by omega)).trans h.cs, e255.trans h.cu, hc, fun k hk => ?_, fun k k' hk hk' e1 e2 e3 => ?_, fun k l hk e1 e2 => ?_, ?_⟩
  · obtain ⟨w, l, h1, h2, h3, h4, h5⟩ := h.en k hk
    refine ⟨w, l, h1, (es 81 k (by omega)).trans h2, (eu 256 k (by omega) (by omega)).trans h3, ?_, ?_⟩
    · rw [e83, e257 k (by omega)]; exact h4
    · rw [es 82 k (by omega), eu 258 k (by omega) (by omega)]; exact h5
  · rw [es 81 k (by omega)] at e1 e3
    rw [es 81 k' (by omega)] at e1
    rw [es 82 k (by omega), es 82 k' (by omega)] at e2
    exact h.un k k' hk hk' e1 e2 e3
  · rw [es 82 k (by omega)] at e1
    exact ht k l hk e1 e2
  · rw [cn81_to c 0 (fun i _ _ => es 81 i (by omega))]; exact h.ou
theorem pl82_no {s : St} {t : Nat} {x : Int32} : ∀ m k, (∀ i, k ≤ i → i < k + m → ¬ s.1 82 t i = x) → pl82 s t x m k = -1
  | 0, _, _ => rfl
  | m + 1, k, h => by unfold pl82; rw [if_neg (h k (by omega) (by omega)), pl82_no m (k + 1) (fun i h1 h2 => h i (by omega) (by omega))]
theorem pl82_at {s : St} {t : Nat} {x : Int32} {q : Nat} (hx : s.1 82 t q = x) : ∀ m k, k ≤ q → q < k + m → (∀ i, k ≤ i → i < q → ¬ s.1 82 t i = x) → pl82 s t x m k = nI q
  | 0, _, h1, h2, _ => absurd h2 (by omega)
  | m + 1, k, h1, h2, h => by
    unfold pl82
    by_cases e : k = q
    · subst e; rw [if_pos hx]
    · rw [if_neg (h k (by omega) (by omega)), pl82_at hx m (k + 1) (by omega) (by omega) (fun i g1 g2 => h i (by omega) g2)]
theorem pl81_no {s : St} {t : Nat} {x : Int32} : ∀ m k, (∀ i, k ≤ i → i < k + m → ¬ s.1 81 t i = x) → pl81 s t x m k = -1
  | 0, _, _ => rfl
  | m + 1, k, h => by unfold pl81; rw [if_neg (h k (by omega) (by omega)), pl81_no m (k + 1) (fun i h1 h2 => h i (by omega) (by omega))]
theorem pl81_at {s : St} {t : Nat} {x : Int32} {q : Nat} (hx : s.1 81 t q = x) : ∀ m k, k ≤ q → q < k + m → (∀ i, k ≤ i → i < q → ¬ s.1 81 t i = x) → pl81 s t x m k = nI q
  | 0, _, h1, h2, _ => absurd h2 (by omega)
  | m + 1, k, h1, h2, h => by
    unfold pl81
    by_cases e : k = q
    · subst e; rw [if_pos hx]
    · rw [if_neg (h k (by omega) (by omega)), pl81_at hx m (k + 1) (by omega) (by omega) (fun i g1 g2 => h i (by omega) g2)]
theorem rmS_no {s : St} {t : Nat} : rmS s t (-1) = s := by unfold rmS; rw [if_pos (Or.inl (by decide))]
theorem rmS_at {s : St} {t c q : Nat} (h : s.1 80 t 0 = nI c) (h22 : c ≤ 22) (hq : q < c) : rmS s t (nI q) = remS s t c q := by
  unfold rmS
  rw [cN_of h h22, if_neg (by rintro (z | z); exact nI_pos (by omega) z; exact nI_ge hq (by omega) z), nI_clamp (by omega)]
theorem m1s (x : Int32) : x + (-1) = x - 1 := by rw [Int32.sub_eq_add_neg]
/-- the reference's loop downward over a row, for a match -/
theorem r_lv68 (t c e : Nat) (ht : t < 7) (hc : c ≤ 22) : ∀ (m n : Nat) (u : St), m ≤ c → m < n → u.1 255 0 t = nI c → u.1 246 0 t = nI e → (∀ k, k < m → ¬ (u.1 256 0 (32 * t + k) = 7 ∧ u.1 258 0 (32 * t + k) = nI e)) → r_leave_68 n (nI t) (nI m - 1) u = some u := by
  intro m
  induction m with
  | zero =>
    intro n u hm hn hu he hno
    obtain ⟨n, rfl⟩ : ∃ q, n = q + 1 := ⟨n - 1, by omega⟩
    rw [r_leave_68.eq_2, if_pos (by decide)]
  | succ m ih =>
    intro n u hm hn hu he hno
    obtain ⟨n, rfl⟩ : ∃ q, n = q + 1 := ⟨n - 1, by omega⟩
    rw [r_leave_68.eq_2, nI_pred, if_neg (nI_pos (by omega))]
    simp only [m32]
    rw [gI (by omega) (by decide), nI_clamp (by omega)]
    have hk := hno m (by omega)
    have hi := ih n u (by omega) (by omega) hu he (fun k hk => hno k (by omega))
    by_cases h7 : u.1 256 0 (32 * t + m) = 7
    · rw [if_pos h7, gI (by omega) (by decide), gI (by omega) (by decide), nI_clamp (by omega), he, if_neg (fun z => hk ⟨h7, z⟩)]
      unfold r_leave_114; rw [m1s]; exact hi
    · rw [if_neg h7]
      unfold r_leave_114; rw [m1s]; exact hi
theorem r_lv68q (t c e q : Nat) (ht : t < 7) (hc : c ≤ 22) (hqc : q < c) : ∀ (m n : Nat) (u : St), m ≤ c → q < m → m < n → u.1 255 0 t = nI c → u.1 246 0 t = nI e → (u.1 256 0 (32 * t + q) = 7 ∧ u.1 258 0 (32 * t + q) = nI e) → (∀ k, k < m → (u.1 256 0 (32 * t + k) = 7 ∧ u.1 258 0 (32 * t + k) = nI e) → k = q) → r_leave_68 n (nI t) (nI m - 1) u = some (frS u t c q) := by
  intro m
  induction m with
  | zero => intro n u hm hq; omega
  | succ m ih =>
    intro n u hm hq hn hu he hy hno
    obtain ⟨n, rfl⟩ : ∃ q, n = q + 1 := ⟨n - 1, by omega⟩
    rw [r_leave_68.eq_2, nI_pred, if_neg (nI_pos (by omega))]
    simp only [m32]
    rw [gI (by omega) (by decide), nI_clamp (by omega)]
    by_cases hqm : q = m
    · subst hqm
      rw [if_pos hy.1, gI (by omega) (by decide), gI (by omega) (by decide), nI_clamp (by omega), he, if_pos hy.2, r_from t c q ht hc hqc u hu, cal_s]
      unfold r_leave_114; rw [m1s]
      have hz : ∀ k, k < q → ¬ ((frS u t c q).1 256 0 (32 * t + k) = 7 ∧ (frS u t c q).1 258 0 (32 * t + k) = nI e) := by
        intro k hk z
        rw [fr_1 (Or.inl rfl) (by omega), fr_1 (Or.inr (Or.inl rfl)) (by omega)] at z
        unfold jx at z
        rw [if_neg (by omega)] at z
        have := hno k (by omega) z
        omega
      exact r_lv68 t (c - 1) e ht (by omega) q n _ (by omega) (by omega) (by rw [frS_1, if_neg (by omega), if_pos ⟨rfl, rfl⟩]) (by rw [frS_1, if_neg (by omega), if_neg (by omega)]; exact he) hz
    · have hk : ¬ (u.1 256 0 (32 * t + m) = 7 ∧ u.1 258 0 (32 * t + m) = nI e) := fun z => by have := hno m (by omega) z; omega
      have hi := ih n u (by omega) (by omega) (by omega) hu he hy (fun k hk => hno k (by omega))
      by_cases h7 : u.1 256 0 (32 * t + m) = 7
      · rw [if_pos h7, gI (by omega) (by decide), gI (by omega) (by decide), nI_clamp (by omega), he, if_neg (fun z => hk ⟨h7, z⟩)]
        unfold r_leave_114; rw [m1s]; exact hi
      · rw [if_neg h7]
        unfold r_leave_114; rw [m1s]; exact hi
