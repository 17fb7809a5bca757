/-! the face: calls on both sides -/
def TP (s u : St) : Prop := ∃ z, z ≤ 800 ∧ s.1 129 0 0 = nI z ∧ u.1 201 0 0 = nI z ∧ ∀ i, i < z → ∃ b, b < 256 ∧ s.1 128 0 i = nI b ∧ (u.1 200 0 i) &&& 255 = nI b
/-- class and reference hold the same: pc PROGRAMS, n sends so far, k a bound of the TURNS so far -/
def RL (sd : Nat → Nat → Nat) (pc n k : Nat) (s u : St) : Prop := (WR sd pc n s u) ∧ (∃ c, c ≤ k ∧ s.1 16 0 0 = nI c) ∧ (n ≤ k) ∧ (TP s u) ∧ (s.1 133 0 0 = u.1 209 0 0)
theorem RL.wr {sd : Nat → Nat → Nat} {pc n k : Nat} {s u : St} (h : RL sd pc n k s u) : WR sd pc n s u := h.1
theorem RL.ck {sd : Nat → Nat → Nat} {pc n k : Nat} {s u : St} (h : RL sd pc n k s u) : ∃ c, c ≤ k ∧ s.1 16 0 0 = nI c := h.2.1
theorem RL.nk {sd : Nat → Nat → Nat} {pc n k : Nat} {s u : St} (h : RL sd pc n k s u) : n ≤ k := h.2.2.1
theorem RL.tp {sd : Nat → Nat → Nat} {pc n k : Nat} {s u : St} (h : RL sd pc n k s u) : TP s u := h.2.2.2.1
theorem RL.pl {sd : Nat → Nat → Nat} {pc n k : Nat} {s u : St} (h : RL sd pc n k s u) : s.1 133 0 0 = u.1 209 0 0 := h.2.2.2.2
theorem Fc0.rf {s s' : St} (h : Fc0 s s') : Rf s s' := fun id hi => h id (Or.inr (Or.inr (by omega)))
theorem TP.to {s u s' u' : St} (h : TP s u) (hs : ∀ id, id = 128 ∨ id = 129 → s'.1 id = s.1 id) (hu : ∀ id, id = 200 ∨ id = 201 → u'.1 id 0 = u.1 id 0) : TP s' u' := by
  unfold TP at *
  rw [hs 128 (by omega), hs 129 (by omega), hu 200 (by omega), hu 201 (by omega)]; exact h
theorem RL.to {sd : Nat → Nat → Nat} {pc n k n' k' c : Nat} {s u s' u' : St} (h : RL sd pc n k s u) (w : WR sd pc n' s' u') (hc : s'.1 16 0 0 = nI c) (hck : c ≤ k') (hn : n' ≤ k') (fc : Fc0 s s') (fr : Fr u u') : RL sd pc n' k' s' u' :=
  ⟨w, ⟨c, hck, hc⟩, hn, h.tp.to (fun id z => (fc id (by omega)).1) (fun id z => (fr id (by omega) (by omega)).1), by rw [(fc 133 (by omega)).1, (fr 209 (by omega) (by omega)).1]; exact h.pl⟩
theorem inW_d {x : Int32} {n : Nat} (hn : n < 2 ^ 31) : inW x (nI n) = 0 ∨ ∃ t, t < n ∧ x = nI t ∧ inW x (nI n) = 1 := by
  by_cases h : inW x (nI n) = 0
  · exact Or.inl h
  · obtain ⟨h1, h2⟩ := inW_c hn h
    refine Or.inr ⟨_, h2, h1, ?_⟩
    unfold inW at *
    split at h
    · exact absurd rfl h
    · split at h
      · exact absurd rfl h
      · rename_i a b; rw [if_neg a, if_neg b]
theorem inW_6 (x : Int32) : inW x 6 = 0 ∨ ∃ t, t < 6 ∧ x = nI t ∧ inW x 6 = 1 := inW_d (n := 6) (by decide)
theorem r_isT (x : Int32) (s : St) : r_isThread x s = some (inW x 6, s) := by
  unfold r_isThread r_isThread_14 inW
  split
  · rfl
  · split <;> rfl
theorem rn_d {s : St} {t : Nat} (ht : t < 6) : rnV s (nI t) = if s.1 38 t 0 = 1 then 1 else 0 := by
  unfold rnV
  rcases inW_6 (nI t) with z | ⟨t', h1, h2, h3⟩
  · unfold inW at z
    rw [if_neg (nI_pos (by omega)), if_neg (show ¬ (6 : Int32) ≤ nI t from nI_ge (b := 6) ht (by decide))] at z
    exact absurd z (by decide)
  · rw [h3, if_neg (by decide), nI_clamp (by omega)]
/-! turn -/
theorem S_turn {sd : Nat → Nat → Nat} {pc n k : Nat} {s u : St} (x : Int32) (L : RL sd pc n k s u) (hk : k + 1 < 2 ^ 30) :
    (∀ i, i < 6 → s.1 38 i 0 = 1 → TW s i) ∧ ∃ v s' u' n', turnM s x = (v, s') ∧ r_turn x u = some (v, u') ∧ RL sd pc n' (k + 1) s' u' ∧ Rf s s' ∧ Cl u u' := by
  obtain ⟨c, hc, hck⟩ := L.ck
  have hnk := L.nk
  refine ⟨fun i hi hr => (sim_turn hi L.wr hr hck (by omega) (by omega)).1, ?_⟩
  unfold turnM r_turn r_turn_25
  rw [r_isT, cal2_s]
  rcases inW_6 x with z | ⟨t, ht, rfl, z⟩
  · refine ⟨-1, s, u, n, by unfold rnV; rw [if_pos z, if_pos rfl], by rw [if_pos z], ⟨L.wr, ⟨c, by omega, hck⟩, by omega, L.tp, L.pl⟩, Rf.refl s, Cl.refl u⟩
  · rw [rn_d ht, z, if_neg (show ¬ (1 : Int32) = 0 by decide), gI (by omega) (by decide), nI_clamp (by omega), ← (L.wr.th t ht).tb.st]
    by_cases hr : s.1 38 t 0 = 1
    · obtain ⟨-, y, s', u', n', a1, a2, a3, a4, a5, a6, a7, a8, a9, -⟩ := sim_turn ht L.wr hr hck (by omega) (by omega)
      rw [if_pos hr, if_neg (show ¬ (1 : Int32) = 0 by decide), if_pos hr, a1, a2, cal2_s]
      exact ⟨y, s', u', n', rfl, rfl, L.to a5 a6 (by omega) (by omega) a7 a8, a7.rf, a9⟩
    · rw [if_neg hr, if_pos (show (0 : Int32) = 0 from rfl), if_neg hr]
      exact ⟨-1, s, u, n, rfl, rfl, ⟨L.wr, ⟨c, by omega, hck⟩, by omega, L.tp, L.pl⟩, Rf.refl s, Cl.refl u⟩
/-! play -/
theorem RL.up {sd : Nat → Nat → Nat} {pc n k k' : Nat} {s u : St} (L : RL sd pc n k s u) (h : k ≤ k') : RL sd pc n k' s u := by
  obtain ⟨c, hc, hck⟩ := L.ck
  exact ⟨L.wr, ⟨c, by omega, hck⟩, by have := L.nk; omega, L.tp, L.pl⟩
theorem draw_eq (x : Int64) : x * 6364136223846793005 + 1442695040888963407 = draw x := by unfold draw; rw [Int64.mul_comm]
theorem sim_play {sd : Nat → Nat → Nat} {pc N0 : Nat} (hN0 : N0 ≤ 2000) : ∀ (m i N f n k : Nat) (x : Int64) (s u : St), i + m = N0 → m < N → RL sd pc n k s u → k + m < 2 ^ 30 →
    ∃ u' n', r_play_22 N (nI N0) x (nI f) (nI i) u = some (nI (plS m x f s).1, u') ∧ RL sd pc n' (k + m) (plS m x f s).2 u' ∧ Rf s (plS m x f s).2 ∧ Cl u u' := by
  intro m
  induction m with
  | zero =>
    intro i N f n k x s u hi hN L hk
    obtain ⟨N, rfl⟩ : ∃ q, N = q + 1 := ⟨N - 1, by omega⟩
    refine ⟨u, n, ?_, L, Rf.refl s, Cl.refl u⟩
    rw [r_play_22.eq_2, if_pos (nI_le (by omega) (by omega))]; rfl
  | succ m ih =>
    intro i N f n k x s u hi hN L hk
    obtain ⟨N, rfl⟩ : ∃ q, N = q + 1 := ⟨N - 1, by omega⟩
    obtain ⟨c, hc, hck⟩ := L.ck
    have hnk := L.nk
    have R : r_play_22 (N + 1) (nI N0) x (nI f) (nI i) u = if inW (who x) 6 = 0 then r_play_22 N (nI N0) (draw x) (nI f) (nI (i + 1)) u else (grd (ib (who x) 7) (u.1 240 0 (who x).toNatClampNeg) fun v3 => if v3 = 1 then (cal2 (r_turnOnce (who x) u) fun v5 s4 => if (4 : Int32) ≤ v5 then r_play_22 N (nI N0) (draw x) (nI f + 0) (nI (i + 1)) s4 else r_play_22 N (nI N0) (draw x) (nI f + 1) (nI (i + 1)) s4) else r_play_22 N (nI N0) (draw x) (nI f) (nI (i + 1)) u) := by
      rw [r_play_22.eq_2, if_neg (nI_ge (by omega) (by omega)), draw_eq]
      show (cal2 (r_isThread (who x) u) _) = _
      rw [r_isT, cal2_s]
      unfold r_play_87 r_play_84 r_play_87
      rw [nI_1]
      rfl
    rw [R]
    unfold plS
    have skip : ∃ u' n', r_play_22 N (nI N0) (draw x) (nI f) (nI (i + 1)) u = some (nI (plS m (draw x) f s).1, u') ∧ RL sd pc n' (k + (m + 1)) (plS m (draw x) f s).2 u' ∧ Rf s (plS m (draw x) f s).2 ∧ Cl u u' := by
      obtain ⟨u', n', a1, a2, a3⟩ := ih (i + 1) N f n k (draw x) s u (by omega) (by omega) L (by omega)
      exact ⟨u', n', a1, a2.up (by omega), a3⟩
    rcases inW_6 (who x) with z | ⟨t, ht, hw, z⟩
    · rw [if_pos z, if_pos (by unfold rnV; rw [if_pos z])]
      exact skip
    · rw [z, if_neg (by decide), hw, rn_d ht, nI_clamp (by omega), gI (by omega) (by decide), ← (L.wr.th t ht).tb.st]
      by_cases hr : s.1 38 t 0 = 1
      · obtain ⟨-, y, s', u', n', a1, a2, a3, a4, a5, a6, a7, a8, a9, a10⟩ := sim_turn ht L.wr hr hck (by omega) (by omega)
        have L' := L.to (k' := k + 1) a5 a6 (by omega) (by omega) a7 a8
        rw [if_pos hr, if_pos hr, if_neg (by decide), a1, a2, cal2_s]
        by_cases y4 : y = 4
        · subst y4
          rw [if_pos (by decide), if_pos rfl, Int32.add_zero]
          obtain ⟨u2, n2, b1, b2, b3, b4⟩ := ih (i + 1) N f n' (k + 1) (draw x) s' u' (by omega) (by omega) L' (by omega)
          exact ⟨u2, n2, b1, b2.up (by omega), a7.rf.trans b3, a9.trans b4⟩
        · have ny : ¬ (4 : Int32) ≤ y := by
            rcases a10 with z | z | z | z | z
            · rw [z]; decide
            · rw [z]; decide
            · rw [z]; decide
            · rw [z]; decide
            · exact absurd z y4
          rw [if_neg ny, if_neg y4, nI_1]
          obtain ⟨u2, n2, b1, b2, b3, b4⟩ := ih (i + 1) N (f + 1) n' (k + 1) (draw x) s' u' (by omega) (by omega) L' (by omega)
          exact ⟨u2, n2, b1, b2.up (by omega), a7.rf.trans b3, a9.trans b4⟩
      · rw [if_neg hr, if_neg hr, if_pos rfl]
        exact skip
def PJR (sd : Nat → Nat → Nat) (pc m : Nat) (s : St) : Prop := ∃ n k u, RL sd pc n k s u ∧ k + m < 2 ^ 30
theorem PJ_R {sd : Nat → Nat → Nat} {pc : Nat} : PJ (PJR sd pc) := fun m s ⟨n, k, u, L, hk⟩ => by
  obtain ⟨c, hc, hck⟩ := L.ck
  have hnk := L.nk
  refine ⟨L.wr.wc.gv, ⟨n, k, u, L, by omega⟩, fun i hi hr => ?_⟩
  obtain ⟨h0, y, s', u', n', a1, a2, a3, a4, a5, a6, a7, a8, a9, a10⟩ := sim_turn hi L.wr hr hck (by omega) (by omega)
  rw [a1]
  exact ⟨h0, n', k + 1, u', L.to a5 a6 (by omega) (by omega) a7 a8, by omega⟩
theorem S_play {sd : Nat → Nat → Nat} {pc n k : Nat} {s u : St} (y : Int64) (x : Int32) (L : RL sd pc n k s u) (hk : k + 2000 < 2 ^ 30) :
    (∀ m, m ≤ 2000 → PJR sd pc m s) ∧ ∃ u' n', r_play y x u = some (playV s y x, u') ∧ RL sd pc n' (k + 2000) (playS s y x) u' ∧ Rf s (playS s y x) ∧ Cl u u' := by
  refine ⟨fun m hm => ⟨n, k, u, L, by omega⟩, ?_⟩
  unfold r_play playV playS
  by_cases h0 : x < 0
  · rw [if_pos h0, if_pos (Or.inl h0), if_pos (Or.inl h0)]
    exact ⟨u, n, rfl, L.up (by omega), Rf.refl s, Cl.refl u⟩
  · rw [if_neg h0]
    by_cases h1 : x ≤ 2000
    · rw [if_pos h1, if_neg (fun h => h.elim h0 (fun h => h h1)), if_neg (fun h => h.elim h0 (fun h => h h1))]
      obtain ⟨q, hq, rfl⟩ := le_ok (n := 2000) (by decide) h0 h1
      rw [nI_clamp (by omega)]
      obtain ⟨u', n', a1, a2, a3, a4⟩ := sim_play (sd := sd) (pc := pc) (N0 := q) (by omega) q 0 2100 0 n k y s u (by omega) (by omega) L (by omega)
      exact ⟨u', n', a1, a2.up (by omega), a3, a4⟩
    · rw [if_neg h1, if_pos (Or.inr h1), if_pos (Or.inr h1)]
      exact ⟨u, n, rfl, L.up (by omega), Rf.refl s, Cl.refl u⟩
/-! boxes -/
theorem WR.lb {sd : Nat → Nat → Nat} {pc n : Nat} {s u s1 u1 : St} (w : WR sd pc n s u) (hs : ∀ id, ¬ (id = 34 ∨ id = 114 ∨ id = 115) → s1.1 id = s.1 id ∧ s1.2 id = s.2 id) (hu : ∀ id, ¬ (id = 245 ∨ id = 238 ∨ id = 239) → u1.1 id 0 = u.1 id 0 ∧ u1.2 id 0 = u.2 id 0)
    (lo : ∀ g k, g < 6 → k < 10 → s1.2 34 g k = u1.2 245 0 (10 * g + k)) (bx : ∀ b, b < 8 → s1.1 114 0 b = u1.1 238 0 b ∧ s1.2 115 0 b = u1.2 239 0 b) (hG : GV s1) : WR sd pc n s1 u1 ∧ Fc s s1 ∧ Fr u u1 := by
  have fc : Fc s s1 := fun id z => hs id (by omega)
  have fr : Fr u u1 := fun id z1 z2 => hu id (by omega)
  exact ⟨⟨⟨hG, w.wc.nr.lv (fun id z1 z2 => hs id (by omega)) (fun id z => hu id (by omega)), by rw [(hs 16 (by omega)).1]; exact w.wc.ck, w.wc.pp.to fc fr, w.wc.sg.lb (hs 44 (by omega)).1 (hs 80 (by omega)).1 (hs 81 (by omega)).1 (fun id z => (hu id (by omega)).1), bx⟩, fun g hg => (w.th g hg).lb hs hu (fun k hk => lo g k hg hk)⟩, fc, fr⟩
theorem S_fill {sd : Nat → Nat → Nat} {pc n k : Nat} {s u : St} (x : Int32) (y : Int64) (L : RL sd pc n k s u) : mfillV u x = fillV s x ∧ RL sd pc n k (fillS s x y) (mfillS u x y) ∧ Rf s (fillS s x y) ∧ Cl u (mfillS u x y) := by
  unfold mfillV fillV mfillS fillS
  rcases inW_d (x := x) (n := 8) (by decide) with z | ⟨b, hb, rfl, z⟩
  · have z : inW x 8 = 0 := z
    have hc : inW x 8 = 0 ∨ ¬ u.1 238 0 x.toNatClampNeg = 0 := Or.inl z
    have hc2 : inW x 8 = 0 ∨ ¬ s.1 114 0 x.toNatClampNeg = 0 := Or.inl z
    simp only [if_pos hc, if_pos hc2]
    exact ⟨trivial, L, Rf.refl s, Cl.refl u⟩
  · have z : inW (nI b) 8 = 1 := z
    have bx := L.wr.wc.bx b hb
    rw [nI_clamp (by omega), bx.1]
    by_cases h : u.1 238 0 b = 0
    · have hc : ¬ (inW (nI b) 8 = 0 ∨ ¬ u.1 238 0 b = 0) := fun q => q.elim (by rw [z]; decide) (fun q => q h)
      simp only [if_neg hc]
      obtain ⟨c, hc1, hc2⟩ := L.ck
      obtain ⟨w, f1, f2⟩ := L.wr.lb (s1 := sl (si s 114 0 b 1) 115 0 b y) (u1 := sl (si u 238 0 b 1) 239 0 b y) (fun id z => ⟨by rw [sl_1, si_id (by omega)], by rw [sl_id (by omega)]; rfl⟩) (fun id z => ⟨by rw [sl_1, si_id (by omega)], by rw [sl_id (by omega)]; rfl⟩)
        (fun g q hg hq => by rw [sl_o (by decide), sl_o (by decide), si_2, si_2]; exact (L.wr.th g hg).tb.lo q hq)
        (fun q hq => by
          by_cases e : q = b
          · subst e; rw [sl_1, sl_1, si_eq, si_eq, sl_e, sl_e]; exact ⟨rfl, rfl⟩
          · rw [sl_1, sl_1, si_q e, si_q e, sl_q e, sl_q e, si_2, si_2]; exact L.wr.wc.bx q hq) (GV_sl (GV_si L.wr.wc.gv (okN_of (q := 1) (by decide))))
      exact ⟨trivial, L.to w (by rw [sl_1, si_o (by decide)]; exact hc2) hc1 L.nk f1.z f2, f1.z.rf, ((Cl.refl u).si (by decide)).sl (by decide)⟩
    · have hc : inW (nI b) 8 = 0 ∨ ¬ u.1 238 0 b = 0 := Or.inr h
      simp only [if_pos hc]
      exact ⟨trivial, L, Rf.refl s, Cl.refl u⟩
theorem S_full {sd : Nat → Nat → Nat} {pc n k : Nat} {s u : St} (x : Int32) (L : RL sd pc n k s u) : mfullV u x = fullV s x := by
  unfold mfullV fullV
  rcases inW_d (x := x) (n := 8) (by decide) with z | ⟨b, hb, rfl, z⟩
  · have z : inW x 8 = 0 := z
    rw [if_pos z, if_pos z]
  · rw [nI_clamp (by omega), (L.wr.wc.bx b hb).1]
theorem S_box {sd : Nat → Nat → Nat} {pc n k : Nat} {s u : St} (x : Int32) (L : RL sd pc n k s u) : mboxV u x = boxV s x := by
  unfold mboxV boxV
  rcases inW_d (x := x) (n := 8) (by decide) with z | ⟨b, hb, rfl, z⟩
  · have z : inW x 8 = 0 := z
    rw [if_pos (Or.inl z), if_pos (Or.inl z)]
  · rw [nI_clamp (by omega), (L.wr.wc.bx b hb).1, (L.wr.wc.bx b hb).2]
theorem S_died {sd : Nat → Nat → Nat} {pc n k : Nat} {s u : St} (x : Int32) (L : RL sd pc n k s u) : mdieV u x = dieV s x := by
  unfold mdieV dieV
  rcases inW_6 x with z | ⟨t, ht, rfl, z⟩
  · rw [if_pos z, if_pos z]
  · rw [nI_clamp (by omega), (L.wr.th t ht).tb.di]
theorem S_local {sd : Nat → Nat → Nat} {pc n k : Nat} {s u : St} (x y : Int32) (L : RL sd pc n k s u) : mlocV u x y = locV s x y := by
  unfold mlocV locV
  rcases inW_6 x with z | ⟨t, ht, rfl, z⟩
  · rw [if_pos (Or.inl z), if_pos z]
  · have z0 : ¬ inW (nI t) 6 = 0 := by rw [z]; decide
    rcases inW_d (x := y) (n := 10) (by decide) with q | ⟨b, hb, rfl, q⟩
    · have q' : inW y 10 = 0 := q
      rw [if_pos (Or.inr q'), if_neg z0]
      unfold inW at q'
      by_cases h1 : y < 0
      · rw [if_pos h1]
      · rw [if_neg h1] at q' ⊢
        by_cases h2 : (10 : Int32) ≤ y
        · rw [if_neg (Int32.not_lt.mpr h2)]
        · rw [if_neg h2] at q'; exact absurd q' (by decide)
    · have q : inW (nI b) 10 = 1 := q
      rw [if_neg (fun h => h.elim z0 (by rw [q]; decide)), if_neg z0, if_neg (nI_pos (by omega)), if_pos (show nI b < 10 from nI_lt (b := 10) hb (by decide)), nI_clamp (by omega), nI_clamp (by omega), (L.wr.th t ht).tb.lo b hb]
theorem S_ir {sd : Nat → Nat → Nat} {pc n k : Nat} {s u : St} (x y : Int32) (L : RL sd pc n k s u) : mirV u x y = irV s x y ∧ (irV s x y = 0 ∨ ∃ t q d c, t < 6 ∧ x = nI t ∧ y = nI q ∧ RwR s u t d c ∧ q < c ∧ irV s x y = 1) := by
  unfold mirV irV
  rcases inW_6 x with z | ⟨t, ht, rfl, z⟩
  · rw [if_pos z, if_pos z]; exact ⟨rfl, Or.inl rfl⟩
  · obtain ⟨d, c, R⟩ := (L.wr.th t ht).row
    have hc := R.c22
    rw [z, if_neg (by decide), nI_clamp (by omega), if_neg (by decide), R.cs, R.cu]
    refine ⟨rfl, ?_⟩
    rcases inW_d (x := y) (n := c) (by omega) with q | ⟨q, q1, rfl, q2⟩
    · exact Or.inl q
    · exact Or.inr ⟨t, q, d, c, ht, rfl, rfl, R, q1, q2⟩
theorem S_row {sd : Nat → Nat → Nat} {pc n k : Nat} {s u : St} (x y z : Int32) (L : RL sd pc n k s u) : mrowV u x y z = rowV s x y z := by
  unfold mrowV rowV
  obtain ⟨e, h⟩ := S_ir x y L
  rw [e]
  rcases h with h | ⟨t, q, d, c, ht, rfl, rfl, R, hq, h⟩
  · rw [if_pos (Or.inl h), if_pos h]
  · have hc := R.c22
    obtain ⟨w, l, a1, a2, a3, a4, a5⟩ := R.en q hq
    rw [h, if_neg (show ¬ (1 : Int32) = 0 by decide), nI_clamp (by omega), nI_clamp (by omega), a3, a2]
    by_cases z0 : z = 0
    · subst z0
      rw [if_neg (show ¬ ((1 : Int32) = 0 ∨ (0 : Int32) < 0 ∨ ¬ (0 : Int32) ≤ 1) by decide), if_pos rfl, if_pos rfl]
    · by_cases z1 : z = 1
      · subst z1
        rw [if_neg (show ¬ ((1 : Int32) = 0 ∨ (1 : Int32) < 0 ∨ ¬ (1 : Int32) ≤ 1) by decide), if_neg (show ¬ (1 : Int32) = 0 by decide), if_neg (show ¬ (1 : Int32) = 0 by decide), if_pos rfl]
        rcases a5 with ⟨b1, b2, b3, b4⟩ | ⟨b1, b2⟩
        · rw [b3, b4, if_pos (by rw [b1]; rfl), nI_1]
        · rw [b2, if_neg (show ¬ nI w = 7 from fun q => b1 ((nI_eq (b := 7) (by omega) (by decide)).mp q))]
      · rw [if_neg z0, if_neg z0, if_neg z1, if_pos]
        by_cases h0 : z < 0
        · exact Or.inr (Or.inl h0)
        · refine Or.inr (Or.inr (fun h1 => ?_))
          obtain ⟨q, hq, e⟩ := le_ok (n := 1) (by decide) h0 h1
          rcases (show q = 0 ∨ q = 1 by omega) with rfl | rfl
          · exact z0 e
          · exact z1 e
theorem S_value {sd : Nat → Nat → Nat} {pc n k : Nat} {s u : St} (x y : Int32) (L : RL sd pc n k s u) : mvalV u x y = valV s x y := by
  unfold mvalV valV
  obtain ⟨e, h⟩ := S_ir x y L
  rw [e]
  rcases h with h | ⟨t, q, d, c, ht, rfl, rfl, R, hq, h⟩
  · rw [if_pos h, if_pos h]
  · have hc := R.c22
    obtain ⟨w, l, a1, a2, a3, a4, a5⟩ := R.en q hq
    rw [h, if_neg (by decide), if_neg (by decide), nI_clamp (by omega), nI_clamp (by omega), a4]
theorem S_note {sd : Nat → Nat → Nat} {pc n k : Nat} {s u : St} (x y : Int32) (L : RL sd pc n k s u) : mntV u x y = ntV s x y := by
  obtain ⟨m, m1, m2, m3⟩ := L.wr.wc.nr.n4
  unfold mntV ntV
  rw [L.wr.wc.nr.cs, m2]
  rcases inW_d (x := x) (n := m) (by omega) with q | ⟨q, q1, rfl, q2⟩
  · rw [if_pos q, if_pos q]
  · rw [nI_clamp (by omega), (m3 q q1).1, (m3 q q1).2.1, (m3 q q1).2.2.1]
theorem S_noted {sd : Nat → Nat → Nat} {pc n k : Nat} {s u : St} (x : Int32) (L : RL sd pc n k s u) : mndV u x = ndV s x := by
  obtain ⟨m, m1, m2, m3⟩ := L.wr.wc.nr.n4
  unfold mndV ndV
  rw [L.wr.wc.nr.cs, m2]
  rcases inW_d (x := x) (n := m) (by omega) with q | ⟨q, q1, rfl, q2⟩
  · rw [if_pos q, if_pos q]
  · rw [nI_clamp (by omega), (m3 q q1).2.2.2]
theorem S_told {sd : Nat → Nat → Nat} {pc n k : Nat} {s u : St} (x y : Int32) (L : RL sd pc n k s u) : mtoldV u x y = toldV s x y := by
  obtain ⟨h1, h2, h3, h4⟩ := L.wr.wc.pp
  unfold mtoldV toldV
  rw [h2, h3]
  rcases inW_d (x := x) (n := pc) (by omega) with q | ⟨q, q1, rfl, q2⟩
  · rw [if_pos q, if_pos q]
  · rw [nI_clamp (by omega), (h4 q q1).e1, (h4 q q1).e2, (h4 q q1).e3]
theorem S_end {sd : Nat → Nat → Nat} {pc n k : Nat} {s u : St} (x : Int32) (L : RL sd pc n k s u) : mendV u x = endV s x ∧ RL sd pc n k (endS s x) (mendS u x) ∧ Rf s (endS s x) ∧ Cl u (mendS u x) := by
  obtain ⟨z, z1, z2, z3, z4⟩ := L.tp
  unfold mendV endV mendS endS
  rw [z2, z3]
  have e : nI z - 20 + x = nI z - (20 - x) := by rw [Int32.sub_eq_add_neg, Int32.sub_eq_add_neg, Int32.sub_eq_add_neg, Int32.neg_add, Int32.sub_eq_add_neg, Int32.neg_neg, Int32.add_assoc]
  rw [e]
  by_cases h : x < 0 ∨ 20 < x ∨ ¬ 20 ≤ nI z
  · simp only [if_pos h]; exact ⟨trivial, L, Rf.refl s, Cl.refl u⟩
  · simp only [if_neg h]
    have h0 : ¬ x < 0 := fun q => h (Or.inl q)
    have h1 : x ≤ 20 := Int32.not_lt.mp (fun q => h (Or.inr (Or.inl q)))
    have h2 : (20 : Int32) ≤ nI z := by
      by_cases q : (20 : Int32) ≤ nI z
      · exact q
      · exact absurd (Or.inr (Or.inr q)) h
    have hz : 20 ≤ z := (nI_leiff (a := 20) (by decide) (by omega)).mp h2
    obtain ⟨q, hq, rfl⟩ := le_ok (n := 20) (by decide) h0 h1
    have e2 : nI z - (20 - nI q) = nI (z - 20 + q) := by rw [← e, show (20 : Int32) = nI 20 from rfl, nI_sub hz, nI_add]
    rw [e2]
    obtain ⟨c, hc, hck⟩ := L.ck
    have fc : Fc s (si s 129 0 0 (nI (z - 20 + q))) → True := fun _ => trivial
    refine ⟨trivial, ⟨⟨⟨GV_si L.wr.wc.gv trivial, L.wr.wc.nr.lv (fun id _ _ => ⟨si_id (by omega), rfl⟩) (fun id _ => ⟨by rw [si_id (by omega)], rfl⟩), by rw [si_o (by decide)]; exact L.wr.wc.ck, ?_, L.wr.wc.sg.lb (si_id (by decide)) (si_id (by decide)) (si_id (by decide)) (fun id _ => by rw [si_id (by omega)]), fun b hb => by rw [si_o (by decide), si_o (by decide)]; exact L.wr.wc.bx b hb⟩, fun g hg => ?_⟩, ⟨c, hc, by rw [si_o (by decide)]; exact hck⟩, L.nk, ⟨z - 20 + q, by omega, si_eq, si_eq, fun i hi => ?_⟩, by rw [si_o (by decide), si_o (by decide)]; exact L.pl⟩, (Rf.refl s).si (by decide), (Cl.refl u).si (by decide)⟩
    · exact ⟨L.wr.wc.pp.1, by rw [si_o (by decide)]; exact L.wr.wc.pp.2.1, by rw [si_o (by decide)]; exact L.wr.wc.pp.2.2.1, fun p hp => (L.wr.wc.pp.2.2.2 p hp).to (fun id _ _ => si_id (by omega)) (fun id _ _ => ⟨by rw [si_id (by omega)], rfl⟩)⟩
    · exact (L.wr.th g hg).other (fun id e _ => ⟨si_o (by omega), rfl⟩) (fun id e hp _ => ⟨si_o (fun q => by unfold PT at hp; omega), rfl⟩) (fun id e _ => ⟨si_o (by omega), rfl⟩) (fun id e hp _ => ⟨si_o (by omega), rfl⟩) (fun id _ _ => si_id (by omega)) (fun id _ _ => ⟨by rw [si_id (by omega)], rfl⟩) (by rw [si_o (by decide)]; exact Nat.le_refl _)
    · rw [si_o (by decide), si_o (by decide)]; exact z4 i (by omega)
