/-! scan against next -/
def ee (P : Nat → Bool) : Nat → Nat → Nat
  | 0, i => i
  | m + 1, i => if P i = true then ee P m (i + 1) else i
theorem ee_le {P : Nat → Bool} : ∀ m i, i ≤ ee P m i ∧ ee P m i ≤ i + m
  | 0, i => ⟨Nat.le_refl _, Nat.le_refl _⟩
  | m + 1, i => by
    unfold ee
    have := ee_le (P := P) m (i + 1)
    split <;> omega
theorem ee_all {P : Nat → Bool} : ∀ m i j, i ≤ j → j < ee P m i → P j = true
  | 0, i, j, h1, h2 => by unfold ee at h2; omega
  | m + 1, i, j, h1, h2 => by
    unfold ee at h2
    by_cases z : P i = true
    · rw [if_pos z] at h2
      by_cases e : j = i
      · rw [e]; exact z
      · exact ee_all m (i + 1) j (by omega) h2
    · rw [if_neg z] at h2; omega
theorem ee_stop {P : Nat → Bool} : ∀ m i, ee P m i < i + m → P (ee P m i) = false
  | 0, i, h => by unfold ee at h; omega
  | m + 1, i, h => by
    unfold ee at h ⊢
    by_cases z : P i = true
    · rw [if_pos z] at h ⊢; exact ee_stop m (i + 1) (by omega)
    · rw [if_neg z]; exact Bool.eq_false_iff.mpr z
def tapeOK (s : St) (z : Nat) : Prop := ∀ i, i < z → bB s i < 256 ∧ s.1 128 0 i = nI (bB s i)
theorem k_s30 {s : St} {z f : Nat} (K : Int32 → Int32 → St → Option St) (hz : z ≤ 800) (ht : tapeOK s z) : ∀ m i N, i + m = z → m < N → k_scan_30 K N (nI z) (nI f) (nI i) s = k_scan_52 K (nI z) (nI f) (nI (ee (fun j => isL (bB s j)) m i)) s := by
  intro m
  induction m with
  | zero =>
    intro i N hi hN
    obtain ⟨N, rfl⟩ : ∃ q, N = q + 1 := ⟨N - 1, by omega⟩
    rw [k_scan_30.eq_2, if_pos (nI_le (by omega) (by omega))]; rfl
  | succ m ih =>
    intro i N hi hN
    obtain ⟨N, rfl⟩ : ∃ q, N = q + 1 := ⟨N - 1, by omega⟩
    rw [k_scan_30.eq_2, if_neg (nI_ge (by omega) (by omega)), gI (by omega) (by decide), nI_clamp (by omega), (ht i (by omega)).2, k_L (ht i (by omega)).1, cal2_s, nI_1]
    unfold ee
    cases h : isL (bB s i)
    · rw [show bI false = 0 from rfl, if_pos rfl, if_neg (show ¬ false = true by decide)]
    · rw [show bI true = 1 from rfl, if_neg (by decide), if_pos rfl]; exact ih (i + 1) N (by omega) (by omega)
theorem k_s71 {s : St} {z f : Nat} (K : Int32 → Int32 → St → Option St) (hz : z ≤ 800) (ht : tapeOK s z) : ∀ m i N, i + m = z → m < N → k_scan_71 K N (nI z) (nI f) (nI i) s = k_scan_93 K (nI z) (nI f) (nI (ee (fun j => isD (bB s j)) m i)) s := by
  intro m
  induction m with
  | zero =>
    intro i N hi hN
    obtain ⟨N, rfl⟩ : ∃ q, N = q + 1 := ⟨N - 1, by omega⟩
    rw [k_scan_71.eq_2, if_pos (nI_le (by omega) (by omega))]; rfl
  | succ m ih =>
    intro i N hi hN
    obtain ⟨N, rfl⟩ : ∃ q, N = q + 1 := ⟨N - 1, by omega⟩
    rw [k_scan_71.eq_2, if_neg (nI_ge (by omega) (by omega)), gI (by omega) (by decide), nI_clamp (by omega), (ht i (by omega)).2, k_D (ht i (by omega)).1, cal2_s, nI_1]
    unfold ee
    cases h : isD (bB s i)
    · rw [show bI false = 0 from rfl, if_pos rfl, if_neg (show ¬ false = true by decide)]
    · rw [show bI true = 1 from rfl, if_neg (by decide), if_pos rfl]; exact ih (i + 1) N (by omega) (by omega)
def tkS (s : St) (c : Nat) (a0 a1 a2 : Int32) : St := si (si (si (si s 96 0 c a0) 97 0 c a1) 98 0 c a2) 99 0 0 (nI (c + 1))
theorem k_aT {s : St} {c : Nat} {a0 a1 a2 : Int32} (hc : c < 801) (h : s.1 99 0 0 = nI c) : k_addToken a0 a1 a2 s = some (tkS s c a0 a1 a2) := by
  unfold k_addToken tkS
  rw [bnd_d, h, gI (by omega) (by decide), nI_clamp (by omega), bnd_d, si_o (by decide), h, gI (by omega) (by decide), nI_clamp (by omega), bnd_d, si_o (by decide), si_o (by decide), h, gI (by omega) (by decide), nI_clamp (by omega), bnd_d, si_o (by decide), si_o (by decide), si_o (by decide), h, bnd_d, nI_1]
theorem tk_id {s : St} {c id : Nat} {a0 a1 a2 : Int32} (h : ¬ (96 ≤ id ∧ id ≤ 99)) : (tkS s c a0 a1 a2).1 id = s.1 id := by
  unfold tkS; rw [si_id (by omega), si_id (by omega), si_id (by omega), si_id (by omega)]
theorem tk_q {s : St} {c id e : Nat} {a0 a1 a2 : Int32} (h : id ≠ 99) (he : e ≠ c) : (tkS s c a0 a1 a2).1 id 0 e = s.1 id 0 e := by
  unfold tkS; rw [si_o h, si_ne (fun z => he z.2.2), si_ne (fun z => he z.2.2), si_ne (fun z => he z.2.2)]
theorem tk_v {s : St} {c : Nat} {a0 a1 a2 : Int32} : (tkS s c a0 a1 a2).1 96 0 c = a0 ∧ (tkS s c a0 a1 a2).1 97 0 c = a1 ∧ (tkS s c a0 a1 a2).1 98 0 c = a2 ∧ (tkS s c a0 a1 a2).1 99 0 0 = nI (c + 1) := by
  unfold tkS
  refine ⟨?_, ?_, ?_, si_eq⟩
  · rw [si_o (by decide), si_o (by decide), si_o (by decide), si_eq]
  · rw [si_o (by decide), si_o (by decide), si_eq]
  · rw [si_o (by decide), si_eq]
/-- decimal digits -/
def dgN (d : Nat → Nat) : Nat → Nat
  | 0 => 0
  | n + 1 => 10 * dgN d n + (d n - 48)
theorem dgN_lt {d : Nat → Nat} : ∀ n, (∀ i, i < n → d i ≤ 57) → dgN d n < 10 ^ n
  | 0, _ => by unfold dgN; decide
  | n + 1, h => by
    have := dgN_lt (d := d) n (fun i hi => h i (by omega))
    have h2 := h n (by omega)
    unfold dgN; rw [Nat.pow_succ]; omega
theorem isD_c {b : Nat} (h : isD b = true) : 48 ≤ b ∧ b ≤ 57 := of_decide_eq_true h
theorem isL_c {b : Nat} (h : isL b = true) : 97 ≤ b ∧ b ≤ 122 := of_decide_eq_true h
theorem k_d22 {s : St} {f t c : Nat} (ht : t ≤ 800) (hf : f ≤ t) (hc : c < 801) (h99 : s.1 99 0 0 = nI c) (hb : ∀ i, f ≤ i → i < t → 48 ≤ bB s i ∧ s.1 128 0 i = nI (bB s i)) : ∀ m n N, n + m = t - f → m < N → k_addDigits_22 N (nI f) (nI t) (nI (dgN (fun i => bB s (f + i)) n)) (nI (f + n)) s = some (tkS s c 4 (nI (dgN (fun i => bB s (f + i)) (t - f))) (nI f)) := by
  intro m
  induction m with
  | zero =>
    intro n N hn hN
    obtain ⟨N, rfl⟩ : ∃ q, N = q + 1 := ⟨N - 1, by omega⟩
    rw [k_addDigits_22.eq_2, if_pos (nI_le (by omega) (by omega)), k_aT hc h99, cal_s, show n = t - f by omega]
  | succ m ih =>
    intro n N hn hN
    obtain ⟨N, rfl⟩ : ∃ q, N = q + 1 := ⟨N - 1, by omega⟩
    obtain ⟨b1, b2⟩ := hb (f + n) (by omega) (by omega)
    rw [k_addDigits_22.eq_2, if_neg (nI_ge (by omega) (by omega)), gI (by omega) (by decide), nI_clamp (by omega), b2, dg32 b1, nI_1]
    exact ih (n + 1) N (by omega) (by omega)
/-! the reference's registers -/
def FX (u u' : St) : Prop := (∀ id, ¬ (202 ≤ id ∧ id ≤ 207) → u'.1 id = u.1 id) ∧ (∀ id, id ≠ 206 → u'.2 id = u.2 id)
theorem FX.refl (u : St) : FX u u := ⟨fun _ _ => rfl, fun _ _ => rfl⟩
theorem FX.trans {u v w : St} (h : FX u v) (h' : FX v w) : FX u w := ⟨fun id z => (h'.1 id z).trans (h.1 id z), fun id z => (h'.2 id z).trans (h.2 id z)⟩
theorem FX.si {u v : St} {id o e : Nat} {x : Int32} (hi : 202 ≤ id ∧ id ≤ 207) (h : FX u v) : FX u (si v id o e x) := ⟨fun a z => by rw [si_id (by omega)]; exact h.1 a z, h.2⟩
theorem FX.sl {u v : St} {o e : Nat} {x : Int64} (h : FX u v) : FX u (sl v 206 o e x) := ⟨h.1, fun a z => by rw [sl_id z]; exact h.2 a z⟩
theorem TU.fx {s u u' : St} {z : Nat} (h : TU s u z) (f : FX u u') : TU s u' z := ⟨h.1, by rw [f.1 201 (by omega)]; exact h.2.1, fun i hi => by rw [f.1 200 (by omega)]; exact h.2.2 i hi⟩
def TkV (K V P : Int32) (u : St) : Prop := u.1 204 0 0 = P ∧
  ((K = 0 ∧ u.1 203 0 0 = 0) ∨ (K = 1 ∧ (u.1 203 0 0 = 1 ∨ (u.1 203 0 0 = 2 ∧ ∃ l, 8 ≤ l ∧ l < 16 ∧ u.1 205 0 0 = nI l))) ∨ (K = 2 ∧ ∃ b, b < 10 ∧ V = nI b ∧ u.1 203 0 0 = 2 ∧ u.1 205 0 0 = nI (16 + b)) ∨ (K = 3 ∧ ∃ b, b < 8 ∧ V = nI b ∧ u.1 203 0 0 = 2 ∧ u.1 205 0 0 = nI b) ∨
   (K = 4 ∧ ∃ v, v < 1000000000 ∧ V = nI v ∧ u.1 203 0 0 = 3 ∧ u.2 206 0 0 = (nI v).toInt64) ∨ (∃ w, w < 19 ∧ K = nI (5 + w) ∧ u.1 203 0 0 = nI (10 + w)) ∨ (∃ g, isG g = true ∧ K = nI g ∧ u.1 203 0 0 = 4 ∧ u.1 207 0 0 = nI g))
theorem r_n202 {s : St} {z f t : Nat} (hft : f < t) (htz : t ≤ z) (hd : ∀ j, f ≤ j → j < t → isD (bB s j) = true) (he : t < z → isD (bB s t) = false) : ∀ m n N u, n + m = t - f → m < N → TU s u z → u.1 202 0 0 = nI (f + n) → u.2 206 0 0 = Int64.ofNat (dgN (fun i => bB s (f + i)) (min n 9)) →
    ∃ u', r_next_202 N (nI n) u = some u' ∧ FX u u' ∧ u'.1 202 0 0 = nI t ∧ u'.1 204 = u.1 204 ∧ u'.1 203 0 0 = (if t - f ≤ 9 then 3 else 1) ∧ u'.2 206 0 0 = Int64.ofNat (dgN (fun i => bB s (f + i)) (min (t - f) 9)) := by
  intro m
  induction m with
  | zero =>
    intro n N u hn hN hT h202 h206
    obtain ⟨N, rfl⟩ : ∃ q, N = q + 1 := ⟨N - 1, by omega⟩
    have h8 := hT.1
    have en : n = t - f := by omega
    have et : f + n = t := by omega
    rw [et] at h202
    have hfig : ∃ y, r_byteAt (nI t) u = some (y, u) ∧ r_isFigure y u = some (0, u) := by
      rw [r_bA hT (by omega)]
      by_cases hl : t < z
      · rw [if_pos hl]; exact ⟨_, rfl, by rw [r_D (hT.2.2 t hl).1, he hl]; rfl⟩
      · rw [if_neg hl]; exact ⟨_, rfl, r_D1 u⟩
    obtain ⟨y, y1, y2⟩ := hfig
    rw [r_next_202.eq_2, bnd_d, h202, y1, cal2_s, y2, cal2_s, if_pos rfl]
    unfold r_next_283
    rw [bnd_d, bnd_d, en]
    by_cases h9 : t - f ≤ 9
    · rw [if_pos (show nI (t - f) ≤ 9 from nI_le (b := 9) h9 (by decide)), if_pos h9]
      exact ⟨_, rfl, (FX.refl u).si (by omega), by rw [si_o (by decide)]; exact h202, by rw [si_id (by decide)], si_eq, by rw [si_2, h206, en]⟩
    · rw [if_neg (show ¬ nI (t - f) ≤ 9 from nI_ge (a := 9) (by omega) (by omega)), if_neg h9]
      exact ⟨_, rfl, (FX.refl u).si (by omega), by rw [si_o (by decide)]; exact h202, by rw [si_id (by decide)], si_eq, by rw [si_2, h206, en]⟩
  | succ m ih =>
    intro n N u hn hN hT h202 h206
    obtain ⟨N, rfl⟩ : ∃ q, N = q + 1 := ⟨N - 1, by omega⟩
    have h8 := hT.1
    have hb := hT.2.2 (f + n) (by omega)
    have hdn := isD_c (hd (f + n) (by omega) (by omega))
    have hA : r_byteAt (nI (f + n)) u = some (nI (bB s (f + n)), u) := by rw [r_bA hT (by omega), if_pos (by omega)]
    have go : ∀ Y : Int64, Y = Int64.ofNat (dgN (fun i => bB s (f + i)) (min (n + 1) 9)) → ∃ u', r_next_252 (r_next_202 N) (nI n) Y u = some u' ∧ FX u u' ∧ u'.1 202 0 0 = nI t ∧ u'.1 204 = u.1 204 ∧ u'.1 203 0 0 = (if t - f ≤ 9 then 3 else 1) ∧ u'.2 206 0 0 = Int64.ofNat (dgN (fun i => bB s (f + i)) (min (t - f) 9)) := fun Y hY => by
      unfold r_next_252
      rw [bnd_d, bnd_d, sl_1, h202, bnd_d, nI_1, nI_1]
      have fx : FX u (si (sl u 206 0 0 Y) 202 0 0 (nI (f + n + 1))) := ((FX.refl u).sl).si (by omega)
      obtain ⟨u', r1, r2, r3, r4, r5, r6⟩ := ih (n + 1) N (si (sl u 206 0 0 Y) 202 0 0 (nI (f + n + 1))) (by omega) (by omega) (hT.fx fx) (by rw [si_eq]; rfl) (by rw [si_2, sl_e]; exact hY)
      exact ⟨u', r1, fx.trans r2, r3, r4.trans (by rw [si_id (by decide)]; rfl), r5, r6⟩
    rw [r_next_202.eq_2, bnd_d, h202, hA, cal2_s, r_D hb.1, cal2_s, hd (f + n) (by omega) (by omega), show bI true = 1 from rfl, if_neg (by decide)]
    by_cases h9 : 9 ≤ n
    · rw [if_pos (show (9 : Int32) ≤ nI n from nI_le (a := 9) h9 (by omega)), bnd_d]
      exact go _ (by rw [h206, show min n 9 = 9 by omega, show min (n + 1) 9 = 9 by omega])
    · rw [if_neg (show ¬ (9 : Int32) ≤ nI n from nI_ge (b := 9) (by omega) (by decide)), bnd_d, bnd_d, h202, hA, cal2_s]
      refine go _ ?_
      rw [h206, nI64 (by omega), dg64 hdn.1, show min n 9 = n by omega, show min (n + 1) 9 = n + 1 by omega]
      rfl
theorem r_n79 {s : St} {z f t c0 : Nat} (hft : f < t) (htz : t ≤ z) (hc0 : c0 = bB s f) (hd : ∀ j, f ≤ j → j < t → isL (bB s j) = true) (he : t < z → isL (bB s t) = false) : ∀ m n N u, n + m = t - f → m < N → TU s u z → u.1 202 0 0 = nI (f + n) →
    ∃ u', r_next_79 N (nI c0) (nI n) (Int64.ofNat (pkD (fun i => bB s (f + i)) (min n 7))) u = some u' ∧ FX u u' ∧ u'.1 202 0 0 = nI t ∧ u'.1 204 = u.1 204 ∧ u'.1 205 0 0 = nI (c0 - 97) ∧ ((t - f = 1 ∧ u'.1 203 0 0 = 2) ∨ (7 ≤ t - f ∧ u'.1 203 0 0 = 1) ∨ (2 ≤ t - f ∧ t - f ≤ 6 ∧ ((∃ w, w < 19 ∧ k_wordKind (nI f) (nI t) s = some (nI (5 + w), s) ∧ u'.1 203 0 0 = nI (10 + w)) ∨ (k_wordKind (nI f) (nI t) s = some (1, s) ∧ u'.1 203 0 0 = 1)))) := by
  intro m
  induction m with
  | zero =>
    intro n N u hn hN hT h202
    obtain ⟨N, rfl⟩ : ∃ q, N = q + 1 := ⟨N - 1, by omega⟩
    have h8 := hT.1
    have en : n = t - f := by omega
    have et : f + n = t := by omega
    rw [et] at h202
    have c0L := isL_c (hd f (Nat.le_refl _) hft)
    have hfig : ∃ y, r_byteAt (nI t) u = some (y, u) ∧ r_isSmall y u = some (0, u) := by
      rw [r_bA hT (by omega)]
      by_cases hl : t < z
      · rw [if_pos hl]; exact ⟨_, rfl, by rw [r_L (hT.2.2 t hl).1, he hl]; rfl⟩
      · rw [if_neg hl]; exact ⟨_, rfl, r_L1 u⟩
    obtain ⟨y, y1, y2⟩ := hfig
    have fin : ∀ y0 : Int32, (∃ x, r_next_156 (nI n) y0 (si u 205 0 0 (nI (c0 - 97))) = some (si (si u 205 0 0 (nI (c0 - 97))) 203 0 0 x) ∧ ((n = 1 ∧ x = 2) ∨ (¬ n = 1 ∧ 0 ≤ y0 ∧ x = 10 + y0) ∨ (¬ n = 1 ∧ ¬ 0 ≤ y0 ∧ x = 1))) := fun y0 => by
      unfold r_next_156 r_next_182
      by_cases h1 : n = 1
      · rw [if_pos (by rw [h1]; rfl)]; exact ⟨2, rfl, Or.inl ⟨h1, rfl⟩⟩
      · rw [if_neg (fun q => h1 ((nI_o (by omega)).mp q))]
        by_cases h2 : 0 ≤ y0
        · rw [if_pos h2]; exact ⟨10 + y0, rfl, Or.inr (Or.inl ⟨h1, h2, rfl⟩)⟩
        · rw [if_neg h2]; exact ⟨1, rfl, Or.inr (Or.inr ⟨h1, h2, rfl⟩)⟩
    have pr : ∀ x, FX u (si (si u 205 0 0 (nI (c0 - 97))) 203 0 0 x) ∧ (si (si u 205 0 0 (nI (c0 - 97))) 203 0 0 x).1 202 0 0 = nI t ∧ (si (si u 205 0 0 (nI (c0 - 97))) 203 0 0 x).1 204 = u.1 204 ∧ (si (si u 205 0 0 (nI (c0 - 97))) 203 0 0 x).1 205 0 0 = nI (c0 - 97) ∧ (si (si u 205 0 0 (nI (c0 - 97))) 203 0 0 x).1 203 0 0 = x := fun x =>
      ⟨((FX.refl u).si (by omega)).si (by omega), by rw [si_o (by decide), si_o (by decide)]; exact h202, by rw [si_id (by decide), si_id (by decide)], by rw [si_o (by decide), si_eq], si_eq⟩
    rw [r_next_79.eq_2, bnd_d, h202, y1, cal2_s, y2, cal2_s, if_pos rfl, bnd_d, show nI c0 - 97 = nI (c0 - 97) from nI_sub (b := 97) (by omega)]
    by_cases h7 : 7 ≤ n
    · rw [if_pos (show (7 : Int32) ≤ nI n from nI_le (a := 7) h7 (by omega))]
      obtain ⟨x, x1, x2⟩ := fin (-1)
      obtain ⟨p1, p2, p3, p4, p5⟩ := pr x
      refine ⟨_, x1, p1, p2, p3, p4, Or.inr (Or.inl ⟨by omega, ?_⟩)⟩
      rcases x2 with ⟨a, _⟩ | ⟨_, a, _⟩ | ⟨_, _, a⟩
      · omega
      · exact absurd a (by decide)
      · rw [p5, a]
    · rw [if_neg (show ¬ (7 : Int32) ≤ nI n from nI_ge (b := 7) (by omega) (by decide)), show min n 7 = n by omega]
      by_cases h1 : n = 1
      · rw [r_wO, cal2_s]
        obtain ⟨x, x1, x2⟩ := fin (gg (fnd (fun w => decide (Int64.ofNat (pkD (fun i => bB s (f + i)) n) = WI w)) 19 0))
        obtain ⟨p1, p2, p3, p4, p5⟩ := pr x
        refine ⟨_, x1, p1, p2, p3, p4, Or.inl ⟨by omega, ?_⟩⟩
        rcases x2 with ⟨_, a⟩ | ⟨a, _⟩ | ⟨a, _⟩
        · rw [p5, a]
        · exact absurd h1 a
        · exact absurd h1 a
      · have hw := word_ok (s := s) (u := si u 205 0 0 (nI (c0 - 97))) (f := f) (n := n) (by omega) (by omega) (by omega) (fun i hi => isL_c (hd (f + i) (by omega) (by omega))) (fun i hi => ⟨(hT.2.2 i (by omega)).1, (hT.2.2 i (by omega)).2.1⟩)
        rw [et] at hw
        rcases hw with ⟨w, w1, w2, w3⟩ | ⟨w2, w3⟩
        · rw [w3, cal2_s]
          obtain ⟨x, x1, x2⟩ := fin (nI w)
          obtain ⟨p1, p2, p3, p4, p5⟩ := pr x
          refine ⟨_, x1, p1, p2, p3, p4, Or.inr (Or.inr ⟨by omega, by omega, Or.inl ⟨w, w1, w2, ?_⟩⟩)⟩
          rcases x2 with ⟨a, _⟩ | ⟨_, _, a⟩ | ⟨_, a, _⟩
          · exact absurd a h1
          · rw [p5, a]; exact nI_add 10 w
          · exact absurd (nI_pos' (by omega)) a
        · rw [w3, cal2_s]
          obtain ⟨x, x1, x2⟩ := fin (-1)
          obtain ⟨p1, p2, p3, p4, p5⟩ := pr x
          refine ⟨_, x1, p1, p2, p3, p4, Or.inr (Or.inr ⟨by omega, by omega, Or.inr ⟨w2, ?_⟩⟩)⟩
          rcases x2 with ⟨a, _⟩ | ⟨_, a, _⟩ | ⟨_, _, a⟩
          · exact absurd a h1
          · exact absurd a (by decide)
          · rw [p5, a]
  | succ m ih =>
    intro n N u hn hN hT h202
    obtain ⟨N, rfl⟩ : ∃ q, N = q + 1 := ⟨N - 1, by omega⟩
    have h8 := hT.1
    have hb := hT.2.2 (f + n) (by omega)
    have hdn := isL_c (hd (f + n) (by omega) (by omega))
    have hA : r_byteAt (nI (f + n)) u = some (nI (bB s (f + n)), u) := by rw [r_bA hT (by omega), if_pos (by omega)]
    have fx : FX u (si u 202 0 0 (nI (f + n + 1))) := (FX.refl u).si (by omega)
    have go := ih (n + 1) N (si u 202 0 0 (nI (f + n + 1))) (by omega) (by omega) (hT.fx fx) (by rw [si_eq]; rfl)
    have fin : ∀ Y : Int64, Y = Int64.ofNat (pkD (fun i => bB s (f + i)) (min (n + 1) 7)) → ∃ u', r_next_117 (r_next_79 N) (nI c0) (nI n) Y u = some u' ∧ FX u u' ∧ u'.1 202 0 0 = nI t ∧ u'.1 204 = u.1 204 ∧ u'.1 205 0 0 = nI (c0 - 97) ∧ ((t - f = 1 ∧ u'.1 203 0 0 = 2) ∨ (7 ≤ t - f ∧ u'.1 203 0 0 = 1) ∨ (2 ≤ t - f ∧ t - f ≤ 6 ∧ ((∃ w, w < 19 ∧ k_wordKind (nI f) (nI t) s = some (nI (5 + w), s) ∧ u'.1 203 0 0 = nI (10 + w)) ∨ (k_wordKind (nI f) (nI t) s = some (1, s) ∧ u'.1 203 0 0 = 1)))) := fun Y hY => by
      unfold r_next_117
      rw [bnd_d, h202, bnd_d, nI_1, nI_1, hY]
      obtain ⟨u', r1, r2, r3, r4, r5⟩ := go
      exact ⟨u', r1, fx.trans r2, r3, r4.trans (by rw [si_id (by decide)]), r5⟩
    rw [r_next_79.eq_2, bnd_d, h202, hA, cal2_s, r_L hb.1, cal2_s, hd (f + n) (by omega) (by omega), show bI true = 1 from rfl, if_neg (by decide)]
    by_cases h7 : 7 ≤ n
    · rw [if_pos (show (7 : Int32) ≤ nI n from nI_le (a := 7) h7 (by omega))]
      exact fin _ (by rw [show min n 7 = 7 by omega, show min (n + 1) 7 = 7 by omega])
    · rw [if_neg (show ¬ (7 : Int32) ≤ nI n from nI_ge (b := 7) (by omega) (by decide)), bnd_d, h202, hA, cal2_s]
      refine fin _ ?_
      have hlt := pkD_lt (d := fun i => bB s (f + i)) n (fun i hi => (hT.2.2 (f + i) (by omega)).1)
      have h6 : 256 ^ n ≤ 256 ^ 6 := Nat.pow_le_pow_right (by decide) (by omega)
      rw [show min n 7 = n by omega, show min (n + 1) 7 = n + 1 by omega, nI64 (by omega), pk8 (by omega) hb.1]
      rfl
