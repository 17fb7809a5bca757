/-! the row of tokens against next, one after the other -/
def SCf (s s' : St) (c : Nat) : Prop := (∀ id, ¬ (96 ≤ id ∧ id ≤ 99) → s'.1 id = s.1 id) ∧ (s'.2 = s.2) ∧ (∀ id e, 96 ≤ id → id ≤ 98 → e < c → s'.1 id 0 e = s.1 id 0 e)
theorem SCf.o1 {s s' : St} {c : Nat} (h : SCf s s' c) : ∀ id, ¬ (96 ≤ id ∧ id ≤ 99) → s'.1 id = s.1 id := h.1
theorem SCf.o2 {s s' : St} {c : Nat} (h : SCf s s' c) : s'.2 = s.2 := h.2.1
theorem SCf.tk {s s' : St} {c : Nat} (h : SCf s s' c) : ∀ id e, 96 ≤ id → id ≤ 98 → e < c → s'.1 id 0 e = s.1 id 0 e := h.2.2
def NXT (s : St) (z a b k : Nat) : Prop := ∀ u N, TU s u z → u.1 202 0 0 = nI a → z - a < N → ∃ u', r_next_0 N u = some u' ∧ FX u u' ∧ u'.1 202 0 0 = nI b ∧ TkV (s.1 96 0 k) (s.1 97 0 k) (s.1 98 0 k) u'
theorem TU.s {s s' u : St} {z : Nat} (h : TU s' u z) (e : s'.1 128 = s.1 128) : TU s u z := by
  unfold TU bB at *
  rw [e] at h; exact h
theorem tapeOK.s {s s' : St} {z : Nat} (h : tapeOK s z) (e : s'.1 128 = s.1 128) : tapeOK s' z := by
  unfold tapeOK bB at *
  rw [e]; exact h
def Lex (s s' : St) (z f c cnt : Nat) (E : Nat → Nat) : Prop := (SCf s s' c) ∧ (c < cnt) ∧ (cnt ≤ 801) ∧ (E c = f) ∧ (∀ k, c ≤ k → k < cnt → NXT s' z (E k) (E (k + 1)) k) ∧ (s'.1 96 0 (cnt - 1) = 0) ∧ (∀ k, c ≤ k → k + 1 < cnt → ¬ s'.1 96 0 k = 0) ∧ (∀ k, c ≤ k → k < cnt → ∃ q, q ≤ z ∧ s'.1 98 0 k = nI q)
theorem Lex.sc {s s' : St} {z f c cnt : Nat} {E : Nat → Nat} (h : Lex s s' z f c cnt E) : SCf s s' c := h.1
theorem Lex.lt {s s' : St} {z f c cnt : Nat} {E : Nat → Nat} (h : Lex s s' z f c cnt E) : c < cnt := h.2.1
theorem Lex.le {s s' : St} {z f c cnt : Nat} {E : Nat → Nat} (h : Lex s s' z f c cnt E) : cnt ≤ 801 := h.2.2.1
theorem Lex.e0 {s s' : St} {z f c cnt : Nat} {E : Nat → Nat} (h : Lex s s' z f c cnt E) : E c = f := h.2.2.2.1
theorem Lex.nx {s s' : St} {z f c cnt : Nat} {E : Nat → Nat} (h : Lex s s' z f c cnt E) : ∀ k, c ≤ k → k < cnt → NXT s' z (E k) (E (k + 1)) k := h.2.2.2.2.1
theorem Lex.en {s s' : St} {z f c cnt : Nat} {E : Nat → Nat} (h : Lex s s' z f c cnt E) : s'.1 96 0 (cnt - 1) = 0 := h.2.2.2.2.2.1
theorem Lex.ne {s s' : St} {z f c cnt : Nat} {E : Nat → Nat} (h : Lex s s' z f c cnt E) : ∀ k, c ≤ k → k + 1 < cnt → ¬ s'.1 96 0 k = 0 := h.2.2.2.2.2.2.1
theorem Lex.pl {s s' : St} {z f c cnt : Nat} {E : Nat → Nat} (h : Lex s s' z f c cnt E) : ∀ k, c ≤ k → k < cnt → ∃ q, q ≤ z ∧ s'.1 98 0 k = nI q := h.2.2.2.2.2.2.2
theorem lex_comb {s s' : St} {z f t c cnt : Nat} {E : Nat → Nat} {K V : Int32} (hfz : f ≤ z) (hK : ¬ K = 0) (I : Lex (tkS s c K V (nI f)) s' z t (c + 1) cnt E)
    (tok : ∀ u N, TU s u z → u.1 202 0 0 = nI f → z - f < N → ∃ u', r_next_0 N u = some u' ∧ FX u u' ∧ u'.1 202 0 0 = nI t ∧ TkV K V (nI f) u') : Lex s s' z f c cnt (fun k => if k = c then f else E k) := by
  obtain ⟨v1, v2, v3, v4⟩ := tk_v (s := s) (c := c) (a0 := K) (a1 := V) (a2 := nI f)
  have x96 : s'.1 96 0 c = K := (I.sc.tk 96 c (by omega) (by omega) (by omega)).trans v1
  have x97 : s'.1 97 0 c = V := (I.sc.tk 97 c (by omega) (by omega) (by omega)).trans v2
  have x98 : s'.1 98 0 c = nI f := (I.sc.tk 98 c (by omega) (by omega) (by omega)).trans v3
  have hl := I.lt
  refine ⟨⟨fun id z => (I.sc.o1 id z).trans (tk_id z), I.sc.o2, fun id e z1 z2 z3 => (I.sc.tk id e z1 z2 (by omega)).trans (tk_q (by omega) (by omega))⟩, by omega, I.le, if_pos rfl, fun k h1 h2 => ?_, I.en, fun k h1 h2 => ?_, fun k h1 h2 => ?_⟩
  · by_cases e : k = c
    · subst e
      simp only [if_pos, if_neg (show ¬ k + 1 = k by omega), I.e0]
      intro u N hT h202 hN
      rw [x96, x97, x98]
      exact tok u N (hT.s ((I.sc.o1 128 (by omega)).trans (tk_id (by omega)))) h202 hN
    · simp only [if_neg e, if_neg (show ¬ k + 1 = c by omega)]
      exact I.nx k (by omega) h2
  · by_cases e : k = c
    · subst e; rw [x96]; exact hK
    · exact I.ne k (by omega) h2
  · by_cases e : k = c
    · subst e; exact ⟨f, hfz, x98⟩
    · exact I.pl k (by omega) h2
/-- the reference, at a byte that is no blank -/
theorem r_n0 {s u : St} {z f N : Nat} (hT : TU s u z) (hf : f < z) (h202 : u.1 202 0 0 = nI f) (h32 : ¬ bB s f = 32) (h10 : ¬ bB s f = 10) : r_next_0 (N + 1) u = if isL (bB s f) = true then r_next_79 900 (nI (bB s f)) 0 0 (si u 204 0 0 (nI f)) else if isD (bB s f) = true then r_next_202 900 0 (sl (si u 204 0 0 (nI f)) 206 0 0 0) else if isG (bB s f) = true then r_next_307 4 (si (si u 204 0 0 (nI f)) 207 0 0 (nI (bB s f))) else r_next_307 1 (si (si u 204 0 0 (nI f)) 207 0 0 (nI (bB s f))) := by
  have h8 := hT.1
  have hb := hT.2.2 f hf
  have hA : ∀ v, TU s v z → r_byteAt (nI f) v = some (nI (bB s f), v) := fun v hv => by rw [r_bA hv (by omega), if_pos hf]
  have f1 : TU s (si u 204 0 0 (nI f)) z := hT.fx ((FX.refl u).si (by omega))
  rw [r_next_0.eq_2, bnd_d, h202, hA u hT, cal2_s, if_neg (show ¬ nI (bB s f) = 32 from fun q => h32 ((nI_eq (b := 32) (by omega) (by decide)).mp q)), bnd_d, h202, hA u hT, cal2_s, if_neg (show ¬ nI (bB s f) = 10 from fun q => h10 ((nI_eq (b := 10) (by omega) (by decide)).mp q)), bnd_d, h202, bnd_d, bnd_d, si_o (by decide), h202, hA _ f1, cal2_s, if_pos (nI_pos' (by omega)), r_L hb.1, cal2_s]
  cases hl : isL (bB s f)
  · rw [show bI false = 0 from rfl, if_pos rfl, r_D hb.1, cal2_s, if_neg (show ¬ false = true by decide)]
    cases hd : isD (bB s f)
    · rw [show bI false = 0 from rfl, if_pos rfl, bnd_d, r_G hb.1, cal2_s, if_neg (show ¬ false = true by decide)]
      cases hg : isG (bB s f)
      · rw [show bI false = 0 from rfl, if_pos rfl, if_neg (show ¬ false = true by decide)]
      · rw [show bI true = 1 from rfl, if_neg (by decide), if_pos rfl]
    · rw [show bI true = 1 from rfl, if_neg (by decide), if_pos rfl, bnd_d]
  · rw [show bI true = 1 from rfl, if_neg (by decide), if_pos rfl]
theorem scan_ok {z : Nat} (hz : z ≤ 800) : ∀ m f N c s, f ≤ z → z - f ≤ m → m < N → s.1 99 0 0 = nI c → c ≤ f → tapeOK s z → ∃ s' cnt E, k_scan_7 N (nI z) (nI f) s = some s' ∧ Lex s s' z f c cnt E := by
  intro m
  induction m with
  | zero =>
    intro f N c s hf hm hN h99 hc ht
    obtain ⟨N, rfl⟩ : ∃ q, N = q + 1 := ⟨N - 1, by omega⟩
    have efz : f = z := by omega
    subst efz
    rw [k_scan_7.eq_2, if_pos (nI_le (Nat.le_refl _) (by omega)), k_aT (by omega) h99, cal_s]
    obtain ⟨v1, v2, v3, v4⟩ := tk_v (s := s) (c := c) (a0 := 0) (a1 := 0) (a2 := nI f)
    refine ⟨_, c + 1, fun _ => f, rfl, ⟨fun id q => tk_id q, rfl, fun id e z1 z2 z3 => tk_q (by omega) (by omega)⟩, by omega, by omega, rfl, fun k h1 h2 => ?_, v1, fun k h1 h2 => by omega, fun k h1 h2 => ⟨f, Nat.le_refl _, by rw [show k = c by omega]; exact v3⟩⟩
    have ek : k = c := by omega
    subst ek
    intro u N hT h202 hN
    obtain ⟨N, rfl⟩ : ∃ q, N = q + 1 := ⟨N - 1, by omega⟩
    have hA : ∀ v, TU (tkS s k 0 0 (nI f)) v f → r_byteAt (nI f) v = some (-1, v) := fun v hv => by rw [r_bA hv (by omega), if_neg (by omega)]
    have f1 := hT.fx ((FX.refl u).si (id := 204) (o := 0) (e := 0) (x := nI f) (by omega))
    rw [r_next_0.eq_2, bnd_d, h202, hA u hT, cal2_s, if_neg (by decide), bnd_d, h202, hA u hT, cal2_s, if_neg (by decide), bnd_d, h202, bnd_d, bnd_d, si_o (by decide), h202, hA _ f1, cal2_s, if_neg (by decide), bnd_d]
    refine ⟨_, rfl, ((FX.refl u).si (by omega)).si (by omega), by rw [si_o (by decide), si_o (by decide)]; exact h202, by rw [si_o (by decide), si_eq, v3], Or.inl ⟨v1, si_eq⟩⟩
  | succ m ih =>
    intro f N c s hf hm hN h99 hc ht
    rcases Nat.lt_or_ge f z with hl | hl
    · obtain ⟨N, rfl⟩ : ∃ q, N = q + 1 := ⟨N - 1, by omega⟩
      have hb := ht f hl
      -- the class
      have R : k_scan_7 (N + 1) (nI z) (nI f) s = if isL (bB s f) = true then k_scan_30 (k_scan_7 N) 900 (nI z) (nI f) (nI (f + 1)) s else if isD (bB s f) = true then k_scan_71 (k_scan_7 N) 900 (nI z) (nI f) (nI (f + 1)) s else if bB s f = 32 ∨ bB s f = 10 then k_scan_7 N (nI z) (nI (f + 1)) s else (cal (k_addToken (if isG (bB s f) = true then nI (bB s f) else 1) 0 (nI f) s) fun s11 => k_scan_7 N (nI z) (nI (f + 1)) s11) := by
        rw [k_scan_7.eq_2, if_neg (nI_ge hl (by omega)), gI (by omega) (by decide), nI_clamp (by omega), hb.2, k_L hb.1, cal2_s, nI_1]
        cases h1 : isL (bB s f)
        · rw [show bI false = 0 from rfl, if_pos rfl, k_D hb.1, cal2_s, if_neg (show ¬ false = true by decide)]
          cases h2 : isD (bB s f)
          · rw [show bI false = 0 from rfl, if_pos rfl, if_neg (show ¬ false = true by decide)]
            unfold k_scan_138 k_scan_133 k_scan_138
            by_cases h32 : bB s f = 32
            · rw [if_pos (by rw [h32]; rfl), if_pos (Or.inl h32)]
            · rw [if_neg (show ¬ nI (bB s f) = 32 from fun q => h32 ((nI_eq (b := 32) (by omega) (by decide)).mp q))]
              by_cases h10 : bB s f = 10
              · rw [if_pos (by rw [h10]; rfl), if_pos (Or.inr h10)]
              · rw [if_neg (show ¬ nI (bB s f) = 10 from fun q => h10 ((nI_eq (b := 10) (by omega) (by decide)).mp q)), if_neg (fun q => q.elim h32 h10), k_G hb.1, cal2_s]
                cases h3 : isG (bB s f)
                · rw [show bI false = 0 from rfl, if_pos rfl, if_neg (show ¬ false = true by decide)]
                · rw [show bI true = 1 from rfl, if_neg (by decide), if_pos rfl]
          · rw [show bI true = 1 from rfl, if_neg (by decide), if_pos rfl]
        · rw [show bI true = 1 from rfl, if_neg (by decide), if_pos rfl]
      have hTs : ∀ {s1 : St} {K V : Int32}, s1 = tkS s c K V (nI f) → tapeOK s1 z ∧ s1.1 99 0 0 = nI (c + 1) := fun {s1 K V} e => by
        rw [e]; exact ⟨ht.s (tk_id (by omega)), tk_v.2.2.2⟩
      by_cases h1 : isL (bB s f) = true
      · -- letters
        rw [R, if_pos h1, k_s30 (k_scan_7 N) hz ht (z - (f + 1)) (f + 1) 900 (by omega) (by omega)]
        have hle := ee_le (P := fun j => isL (bB s j)) (z - (f + 1)) (f + 1)
        have hall := ee_all (P := fun j => isL (bB s j)) (z - (f + 1)) (f + 1)
        have hst := ee_stop (P := fun j => isL (bB s j)) (z - (f + 1)) (f + 1)
        generalize ee (fun j => isL (bB s j)) (z - (f + 1)) (f + 1) = t at hle hall hst
        have hd : ∀ j, f ≤ j → j < t → isL (bB s j) = true := fun j j1 j2 => by
          by_cases e : j = f
          · rw [e]; exact h1
          · exact hall j (by omega) j2
        have he : t < z → isL (bB s t) = false := fun q => hst (by omega)
        have c0 := isL_c h1
        -- what next does
        have nx : ∀ u N, TU s u z → u.1 202 0 0 = nI f → z - f < N → ∃ u', r_next_0 N u = some u' ∧ FX u u' ∧ u'.1 202 0 0 = nI t ∧ u'.1 204 0 0 = nI f ∧ u'.1 205 0 0 = nI (bB s f - 97) ∧ ((t - f = 1 ∧ u'.1 203 0 0 = 2) ∨ (7 ≤ t - f ∧ u'.1 203 0 0 = 1) ∨ (2 ≤ t - f ∧ t - f ≤ 6 ∧ ((∃ w, w < 19 ∧ k_wordKind (nI f) (nI t) s = some (nI (5 + w), s) ∧ u'.1 203 0 0 = nI (10 + w)) ∨ (k_wordKind (nI f) (nI t) s = some (1, s) ∧ u'.1 203 0 0 = 1)))) := fun u N hT h202 hN => by
          obtain ⟨N, rfl⟩ : ∃ q, N = q + 1 := ⟨N - 1, by omega⟩
          have fx : FX u (si u 204 0 0 (nI f)) := (FX.refl u).si (by omega)
          rw [r_n0 hT hl h202 (by omega) (by omega), if_pos h1]
          obtain ⟨u', r1, r2, r3, r4, r5, r6⟩ := r_n79 (by omega) (by omega) rfl hd he (t - f) 0 900 (si u 204 0 0 (nI f)) (by omega) (by omega) (hT.fx fx) (by rw [si_o (by decide)]; exact h202)
          exact ⟨u', r1, fx.trans r2, r3, by rw [r4, si_eq], r5, r6⟩
        -- the token
        obtain ⟨K, V, hA, hK, tok⟩ : ∃ K V, k_addLetters (nI f) (nI t) s = some (tkS s c K V (nI f)) ∧ ¬ K = 0 ∧ ∀ u N, TU s u z → u.1 202 0 0 = nI f → z - f < N → ∃ u', r_next_0 N u = some u' ∧ FX u u' ∧ u'.1 202 0 0 = nI t ∧ TkV K V (nI f) u' := by
          have A : k_addLetters (nI f) (nI t) s = if t - f ≤ 1 then (if 104 < bB s f then (if bB s f < 113 then some (tkS s c 1 0 (nI f)) else some (tkS s c 2 (nI (bB s f - 113)) (nI f))) else some (tkS s c 3 (nI (bB s f - 97)) (nI f))) else (cal2 (k_wordKind (nI f) (nI t) s) fun v9 s8 => cal (k_addToken v9 0 (nI f) s8) fun s10 => some s10) := by
            unfold k_addLetters
            rw [gI (by omega) (by decide), nI_clamp (by omega), hb.2, nI_sub (by omega)]
            by_cases q1 : t - f ≤ 1
            · rw [if_pos q1, if_pos (show nI (t - f) ≤ 1 from nI_le (b := 1) q1 (by decide))]
              by_cases q2 : 104 < bB s f
              · rw [if_pos q2, if_pos (show (104 : Int32) < nI (bB s f) from nI_lt (a := 104) q2 (by omega))]
                by_cases q3 : bB s f < 113
                · rw [if_pos q3, if_pos (show nI (bB s f) < 113 from nI_lt (b := 113) q3 (by decide)), k_aT (by omega) h99, cal_s]
                · rw [if_neg q3, if_neg (show ¬ nI (bB s f) < 113 from nI_nlt (b := 113) (by omega) (by omega)), show nI (bB s f) - 113 = nI (bB s f - 113) from nI_sub (b := 113) (by omega), k_aT (by omega) h99, cal_s]
              · rw [if_neg q2, if_neg (show ¬ (104 : Int32) < nI (bB s f) from nI_nlt (a := 104) (by omega) (by decide)), show nI (bB s f) - 97 = nI (bB s f - 97) from nI_sub (b := 97) (by omega), k_aT (by omega) h99, cal_s]
            · rw [if_neg q1, if_neg (show ¬ nI (t - f) ≤ 1 from nI_ge (a := 1) (by omega) (by omega))]
          rw [A]
          by_cases q1 : t - f ≤ 1
          · rw [if_pos q1]
            by_cases q2 : 104 < bB s f
            · rw [if_pos q2]
              by_cases q3 : bB s f < 113
              · rw [if_pos q3]
                refine ⟨1, 0, rfl, by decide, fun u N hT h202 hN => ?_⟩
                obtain ⟨u', r1, r2, r3, r4, r5, r6⟩ := nx u N hT h202 hN
                refine ⟨u', r1, r2, r3, r4, Or.inr (Or.inl ⟨rfl, ?_⟩)⟩
                rcases r6 with ⟨_, w⟩ | ⟨w, _⟩ | ⟨w, _⟩
                · exact Or.inr ⟨w, bB s f - 97, by omega, by omega, r5⟩
                · omega
                · omega
              · rw [if_neg q3]
                refine ⟨2, nI (bB s f - 113), rfl, by decide, fun u N hT h202 hN => ?_⟩
                obtain ⟨u', r1, r2, r3, r4, r5, r6⟩ := nx u N hT h202 hN
                refine ⟨u', r1, r2, r3, r4, Or.inr (Or.inr (Or.inl ⟨rfl, bB s f - 113, by omega, rfl, ?_, ?_⟩))⟩
                · rcases r6 with ⟨_, w⟩ | ⟨w, _⟩ | ⟨w, _⟩
                  · exact w
                  · omega
                  · omega
                · rw [r5, show bB s f - 97 = 16 + (bB s f - 113) by omega]
            · rw [if_neg q2]
              refine ⟨3, nI (bB s f - 97), rfl, by decide, fun u N hT h202 hN => ?_⟩
              obtain ⟨u', r1, r2, r3, r4, r5, r6⟩ := nx u N hT h202 hN
              refine ⟨u', r1, r2, r3, r4, Or.inr (Or.inr (Or.inr (Or.inl ⟨rfl, bB s f - 97, by omega, rfl, ?_, r5⟩)))⟩
              rcases r6 with ⟨_, w⟩ | ⟨w, _⟩ | ⟨w, _⟩
              · exact w
              · omega
              · omega
          · rw [if_neg q1]
            by_cases q7 : 7 ≤ t - f
            · have hk : k_wordKind (nI f) (nI t) s = some (1, s) := by
                unfold k_wordKind
                rw [nI_sub (by omega), if_neg (show ¬ nI (t - f) ≤ 6 from nI_ge (a := 6) (by omega) (by omega))]
              rw [hk, cal2_s, k_aT (by omega) h99, cal_s]
              refine ⟨1, 0, rfl, by decide, fun u N hT h202 hN => ?_⟩
              obtain ⟨u', r1, r2, r3, r4, r5, r6⟩ := nx u N hT h202 hN
              refine ⟨u', r1, r2, r3, r4, Or.inr (Or.inl ⟨rfl, Or.inl ?_⟩)⟩
              rcases r6 with ⟨w, _⟩ | ⟨_, w⟩ | ⟨_, w, _⟩
              · omega
              · exact w
              · omega
            · have eft : f + (t - f) = t := by omega
              have hw := word_ok (s := s) (u := s) (f := f) (n := t - f) (by omega) (by omega) (by omega) (fun i hi => isL_c (hd (f + i) (by omega) (by omega))) (fun i hi => ht i (by omega))
              rw [eft] at hw
              rcases hw with ⟨w, w1, w2, -⟩ | ⟨w2, -⟩
              · rw [w2, cal2_s, k_aT (by omega) h99, cal_s]
                refine ⟨nI (5 + w), 0, rfl, fun q => absurd ((nI_z (by omega)).mp q) (by omega), fun u N hT h202 hN => ?_⟩
                obtain ⟨u', r1, r2, r3, r4, r5, r6⟩ := nx u N hT h202 hN
                refine ⟨u', r1, r2, r3, r4, Or.inr (Or.inr (Or.inr (Or.inr (Or.inr (Or.inl ⟨w, w1, rfl, ?_⟩)))))⟩
                rcases r6 with ⟨q, _⟩ | ⟨q, _⟩ | ⟨_, _, ⟨w', a1, a2, a3⟩ | ⟨a2, _⟩⟩
                · omega
                · omega
                · rw [w2] at a2
                  injection a2 with a2; injection a2 with a2 _
                  have : 5 + w = 5 + w' := (nI_eq (by omega) (by omega)).mp a2
                  rw [a3, show w' = w by omega]
                · rw [w2] at a2
                  injection a2 with a2; injection a2 with a2 _
                  exact absurd ((nI_eq (b := 1) (by omega) (by decide)).mp a2) (by omega)
              · rw [w2, cal2_s, k_aT (by omega) h99, cal_s]
                refine ⟨1, 0, rfl, by decide, fun u N hT h202 hN => ?_⟩
                obtain ⟨u', r1, r2, r3, r4, r5, r6⟩ := nx u N hT h202 hN
                refine ⟨u', r1, r2, r3, r4, Or.inr (Or.inl ⟨rfl, Or.inl ?_⟩)⟩
                rcases r6 with ⟨q, _⟩ | ⟨q, _⟩ | ⟨_, _, ⟨w', a1, a2, a3⟩ | ⟨_, a3⟩⟩
                · omega
                · omega
                · rw [w2] at a2
                  injection a2 with a2; injection a2 with a2 _
                  exact absurd ((nI_eq (a := 1) (by decide) (by omega)).mp a2) (by omega)
                · exact a3
        unfold k_scan_52 k_scan_138
        rw [hA, cal_s]
        obtain ⟨t1, t2⟩ := hTs (K := K) (V := V) rfl
        obtain ⟨s', cnt, E, i1, i2⟩ := ih t N (c + 1) _ (by omega) (by omega) (by omega) t2 (by omega) t1
        exact ⟨s', cnt, _, i1, lex_comb hf hK i2 tok⟩
      · rw [R, if_neg h1]
        by_cases h2 : isD (bB s f) = true
        · -- digits
          rw [if_pos h2, k_s71 (k_scan_7 N) hz ht (z - (f + 1)) (f + 1) 900 (by omega) (by omega)]
          have hle := ee_le (P := fun j => isD (bB s j)) (z - (f + 1)) (f + 1)
          have hall := ee_all (P := fun j => isD (bB s j)) (z - (f + 1)) (f + 1)
          have hst := ee_stop (P := fun j => isD (bB s j)) (z - (f + 1)) (f + 1)
          generalize ee (fun j => isD (bB s j)) (z - (f + 1)) (f + 1) = t at hle hall hst
          have hd : ∀ j, f ≤ j → j < t → isD (bB s j) = true := fun j j1 j2 => by
            by_cases e : j = f
            · rw [e]; exact h2
            · exact hall j (by omega) j2
          have he : t < z → isD (bB s t) = false := fun q => hst (by omega)
          have c0 := isD_c h2
          have nx : ∀ u N, TU s u z → u.1 202 0 0 = nI f → z - f < N → ∃ u', r_next_0 N u = some u' ∧ FX u u' ∧ u'.1 202 0 0 = nI t ∧ u'.1 204 0 0 = nI f ∧ u'.1 203 0 0 = (if t - f ≤ 9 then 3 else 1) ∧ u'.2 206 0 0 = Int64.ofNat (dgN (fun i => bB s (f + i)) (min (t - f) 9)) := fun u N hT h202 hN => by
            obtain ⟨N, rfl⟩ : ∃ q, N = q + 1 := ⟨N - 1, by omega⟩
            have fx : FX u (sl (si u 204 0 0 (nI f)) 206 0 0 0) := ((FX.refl u).si (by omega)).sl
            rw [r_n0 hT hl h202 (by omega) (by omega), if_neg h1, if_pos h2]
            obtain ⟨u', r1, r2, r3, r4, r5, r6⟩ := r_n202 (by omega) (by omega) hd he (t - f) 0 900 (sl (si u 204 0 0 (nI f)) 206 0 0 0) (by omega) (by omega) (hT.fx fx) (by rw [sl_1, si_o (by decide)]; exact h202) (by rw [sl_e]; rfl)
            exact ⟨u', r1, fx.trans r2, r3, by rw [r4, sl_1, si_eq], r5, r6⟩
          obtain ⟨K, V, hA, hK, tok⟩ : ∃ K V, k_addDigits (nI f) (nI t) s = some (tkS s c K V (nI f)) ∧ ¬ K = 0 ∧ ∀ u N, TU s u z → u.1 202 0 0 = nI f → z - f < N → ∃ u', r_next_0 N u = some u' ∧ FX u u' ∧ u'.1 202 0 0 = nI t ∧ TkV K V (nI f) u' := by
            unfold k_addDigits
            rw [nI_sub (by omega)]
            by_cases q9 : t - f ≤ 9
            · rw [if_pos (show nI (t - f) ≤ 9 from nI_le (b := 9) q9 (by decide))]
              have hlt := dgN_lt (d := fun i => bB s (f + i)) (t - f) (fun i hi => (isD_c (hd (f + i) (by omega) (by omega))).2)
              have h9 : 10 ^ (t - f) ≤ 10 ^ 9 := Nat.pow_le_pow_right (by decide) q9
              refine ⟨4, nI (dgN (fun i => bB s (f + i)) (t - f)), k_d22 (by omega) (by omega) (by omega) h99 (fun i i1 i2 => ⟨(isD_c (hd i i1 i2)).1, (ht i (by omega)).2⟩) (t - f) 0 20 (by omega) (by omega), by decide, fun u N hT h202 hN => ?_⟩
              obtain ⟨u', r1, r2, r3, r4, r5, r6⟩ := nx u N hT h202 hN
              rw [if_pos q9] at r5
              refine ⟨u', r1, r2, r3, r4, Or.inr (Or.inr (Or.inr (Or.inr (Or.inl ⟨rfl, _, by omega, rfl, r5, ?_⟩))))⟩
              rw [r6, nI64 (by omega), show min (t - f) 9 = t - f by omega]
            · rw [if_neg (show ¬ nI (t - f) ≤ 9 from nI_ge (a := 9) (by omega) (by omega)), k_aT (by omega) h99, cal_s]
              refine ⟨1, 0, rfl, by decide, fun u N hT h202 hN => ?_⟩
              obtain ⟨u', r1, r2, r3, r4, r5, r6⟩ := nx u N hT h202 hN
              rw [if_neg q9] at r5
              exact ⟨u', r1, r2, r3, r4, Or.inr (Or.inl ⟨rfl, Or.inl r5⟩)⟩
          unfold k_scan_93 k_scan_138
          rw [hA, cal_s]
          obtain ⟨t1, t2⟩ := hTs (K := K) (V := V) rfl
          obtain ⟨s', cnt, E, i1, i2⟩ := ih t N (c + 1) _ (by omega) (by omega) (by omega) t2 (by omega) t1
          exact ⟨s', cnt, _, i1, lex_comb hf hK i2 tok⟩
        · rw [if_neg h2]
          by_cases h3 : bB s f = 32 ∨ bB s f = 10
          · -- a blank
            rw [if_pos h3]
            obtain ⟨s', cnt, E, i1, I⟩ := ih (f + 1) N c s (by omega) (by omega) (by omega) h99 (by omega) ht
            refine ⟨s', cnt, fun k => if k = c then f else E k, i1, I.sc, I.lt, I.le, if_pos rfl, fun k k1 k2 => ?_, I.en, I.ne, I.pl⟩
            by_cases e : k = c
            · subst e
              simp only [if_pos, if_neg (show ¬ k + 1 = k by omega)]
              intro u N hT h202 hN
              obtain ⟨N, rfl⟩ : ∃ q, N = q + 1 := ⟨N - 1, by omega⟩
              have e128 := I.sc.o1 128 (by omega)
              have hTs' := hT.s e128
              have hA : r_byteAt (nI f) u = some (nI (bB s f), u) := by rw [r_bA hTs' (by omega), if_pos hl]
              have fx : FX u (si u 202 0 0 (nI (f + 1))) := (FX.refl u).si (by omega)
              obtain ⟨u', r1, r2, r3, r4⟩ := I.nx k (Nat.le_refl _) k2 (si u 202 0 0 (nI (f + 1))) N (hT.fx fx) (by rw [si_eq, I.e0]) (by rw [I.e0]; omega)
              refine ⟨u', ?_, fx.trans r2, r3, r4⟩
              have h26 : r_next_26 (r_next_0 N) u = some u' := by
                unfold r_next_26
                rw [bnd_d, h202, bnd_d, nI_1]; exact r1
              rw [r_next_0.eq_2, bnd_d, h202, hA, cal2_s]
              rcases h3 with h32 | h10
              · rw [if_pos (by rw [h32]; rfl)]; exact h26
              · rw [if_neg (by rw [h10]; decide), bnd_d, h202, hA, cal2_s, if_pos (by rw [h10]; rfl)]; exact h26
            · simp only [if_neg e, if_neg (show ¬ k + 1 = c by omega)]
              exact I.nx k k1 k2
          · -- a sign, or what is no token
            rw [if_neg h3, k_aT (by omega) h99, cal_s]
            have tok : ∀ u N, TU s u z → u.1 202 0 0 = nI f → z - f < N → ∃ u', r_next_0 N u = some u' ∧ FX u u' ∧ u'.1 202 0 0 = nI (f + 1) ∧ TkV (if isG (bB s f) = true then nI (bB s f) else 1) 0 (nI f) u' := fun u N hT h202 hN => by
              obtain ⟨N, rfl⟩ : ∃ q, N = q + 1 := ⟨N - 1, by omega⟩
              rw [r_n0 hT hl h202 (fun q => h3 (Or.inl q)) (fun q => h3 (Or.inr q)), if_neg h1, if_neg h2]
              unfold r_next_307
              have fx : ∀ y, FX u (si (si (si (si u 204 0 0 (nI f)) 207 0 0 (nI (bB s f))) 203 0 0 y) 202 0 0 (nI (f + 1))) := fun y => ((((FX.refl u).si (by omega)).si (by omega)).si (by omega)).si (by omega)
              have rd : ∀ y, (si (si (si u 204 0 0 (nI f)) 207 0 0 (nI (bB s f))) 203 0 0 y).1 202 0 0 = nI f := fun y => by rw [si_o (by decide), si_o (by decide), si_o (by decide)]; exact h202
              have p4 : ∀ y, (si (si (si (si u 204 0 0 (nI f)) 207 0 0 (nI (bB s f))) 203 0 0 y) 202 0 0 (nI (f + 1))).1 204 0 0 = nI f := fun y => by rw [si_o (by decide), si_o (by decide), si_o (by decide), si_eq]
              have p3 : ∀ y, (si (si (si (si u 204 0 0 (nI f)) 207 0 0 (nI (bB s f))) 203 0 0 y) 202 0 0 (nI (f + 1))).1 203 0 0 = y := fun y => by rw [si_o (by decide), si_eq]
              have p7 : ∀ y, (si (si (si (si u 204 0 0 (nI f)) 207 0 0 (nI (bB s f))) 203 0 0 y) 202 0 0 (nI (f + 1))).1 207 0 0 = nI (bB s f) := fun y => by rw [si_o (by decide), si_o (by decide), si_eq]
              by_cases hg : isG (bB s f) = true
              · rw [if_pos hg, if_pos hg, bnd_d, bnd_d, rd, bnd_d, nI_1]
                exact ⟨_, rfl, fx 4, si_eq, p4 4, Or.inr (Or.inr (Or.inr (Or.inr (Or.inr (Or.inr ⟨_, hg, rfl, p3 4, p7 4⟩)))))⟩
              · rw [if_neg hg, if_neg hg, bnd_d, bnd_d, rd, bnd_d, nI_1]
                exact ⟨_, rfl, fx 1, si_eq, p4 1, Or.inr (Or.inl ⟨rfl, Or.inl (p3 1)⟩)⟩
            obtain ⟨t1, t2⟩ := hTs (K := if isG (bB s f) = true then nI (bB s f) else 1) (V := 0) rfl
            obtain ⟨s', cnt, E, i1, i2⟩ := ih (f + 1) N (c + 1) _ (by omega) (by omega) (by omega) t2 (by omega) t1
            refine ⟨s', cnt, _, i1, lex_comb hf ?_ i2 tok⟩
            by_cases hg : isG (bB s f) = true
            · rw [if_pos hg]
              intro q
              have q0 := (nI_z (by omega)).mp q
              rw [q0] at hg; exact absurd hg (by decide)
            · rw [if_neg hg]; decide
    · exact ih f N c s hf (by omega) (by omega) h99 hc ht
/-- the text's tokens -/
theorem lex_all {s : St} {z : Nat} (hz : z ≤ 800) (ht : tapeOK s z) : ∃ s' cnt E, k_scan (nI z) s = some s' ∧ Lex (si s 99 0 0 0) s' z 0 0 cnt E := by
  unfold k_scan
  rw [bnd_d]
  exact scan_ok hz z 0 900 0 _ (by omega) (by omega) (by omega) si_eq (by omega) (ht.s (si_id (by decide)))
