/-! times that run out, on both sides -/
theorem nI_sub {a b : Nat} (h : b ≤ a) : nI a - nI b = nI (a - b) := by
  have e : nI a = nI (a - b) + nI b := by rw [nI_add]; congr 1; omega
  rw [e, Int32.add_sub_cancel]
theorem due_iff {ck wi m : Nat} (h1 : ck < 2 ^ 30) (h2 : wi ≤ ck) (h3 : m < 2 ^ 30) : ((nI ck).toInt64 < (nI wi).toInt64 + (nI m).toInt64) ↔ ¬ nI m ≤ nI ck - nI wi := by
  rw [nI_sub h2, nI_leiff (by omega) (by omega), Int64.lt_iff_toInt_lt, Int64.toInt_add, Int32.toInt_toInt64, Int32.toInt_toInt64, Int32.toInt_toInt64, nI_toInt (by omega), nI_toInt (by omega), nI_toInt (by omega), Int.bmod_eq_of_le (by omega) (by omega)]
  omega
theorem due_pos {wi m : Nat} (h2 : wi < 2 ^ 30) (h3 : m < 2 ^ 30) : ¬ ((nI wi).toInt64 + (nI m).toInt64 < 0) := by
  rw [Int64.lt_iff_toInt_lt, Int64.toInt_add, Int32.toInt_toInt64, Int32.toInt_toInt64, nI_toInt (by omega), nI_toInt (by omega), Int.bmod_eq_of_le (by omega) (by omega), Int64.toInt_zero]
  omega
theorem cntA_dec {s s' : St} {t : Nat} : ∀ d b, 1 ≤ b → b ≤ d → s.1 4 t b = 1 → s'.1 4 t b = 2 → (∀ k, k ≠ b → s'.1 4 t k = s.1 4 t k) → cntA s t d = cntA s' t d + 1
  | 0, b, h1, h2, _, _, _ => by omega
  | d + 1, b, h1, h2, h3, h4, h5 => by
    unfold cntA
    by_cases z : b = d + 1
    · subst z
      rw [h3, h4, if_pos rfl, if_neg (by decide), cntA_to (s := s) (s' := s') d (fun k _ hk => h5 k (by omega))]; omega
    · rw [h5 (d + 1) (by omega), cntA_dec d b h1 (by omega) h3 h4 h5]; omega
theorem cntA_pos {s : St} {t : Nat} : ∀ d b, 1 ≤ b → b ≤ d → s.1 4 t b = 1 → 1 ≤ cntA s t d
  | 0, b, h1, h2, _ => by omega
  | d + 1, b, h1, h2, h3 => by
    unfold cntA
    by_cases z : b = d + 1
    · subst z; rw [h3, if_pos rfl]; omega
    · have := cntA_pos d b h1 (by omega) h3; omega
theorem cntA_le {s : St} {t : Nat} : ∀ d, cntA s t d ≤ d
  | 0 => Nat.le_refl _
  | d + 1 => by
    unfold cntA
    have := cntA_le (s := s) (t := t) d
    split <;> omega
def toC (s : St) (t b c : Nat) : St := apC (si (si s 4 t b 2) 42 t 0 (s.1 42 t 0 - 1)) t c (nI 7) (nI b) 0
def toU (u : St) (t b c : Nat) : St := apU (si u 251 0 (9 * t + (b - 1)) 1) t c (nI 7) (nI (b - 1)) 0 0
theorem Ac_ap {s : St} {t c : Nat} {x1 x2 : Int32} {v : Int64} : Ac t s (apC s t c x1 x2 v) := by
  unfold apC
  exact ((((Ac.refl t s).si (PC.a (by omega))).si (PC.a (by omega))).sl (PC.a (by omega))).si (PC.a (by omega))
theorem Ag_ap {u : St} {t c : Nat} {x1 l r : Int32} {v : Int64} (hc : c < 32) : Ag t u (apU u t c x1 l r v) := by
  unfold apU
  exact (((((Ag.refl t u).si (PT.r (by omega) hc)).sl (PT.r (by omega) hc)).si (PT.r (by omega) hc)).si (PT.r (by omega) hc)).si (PT.a (by omega))
/-- a TIMEOUT comes -/
theorem step_to {sd : Nat → Nat → Nat} {pc n t p d c b : Nat} {s u : St} (ht : t < 6) (w : WT sd pc n s u t p d c) (hb : 1 ≤ b) (hd : b ≤ d) (h4 : s.1 4 t b = 1) (hG : GV (toC s t b c)) :
    WT sd pc n (toC s t b c) (toU u t b c) t p d (c + 1) ∧ Fc s (toC s t b c) ∧ Fr u (toU u t b c) ∧ Cl u (toU u t b c) ∧ c ≤ 21 := by
  have h8 := w.tc.d8
  have c21 := row21 ht w.tc.rw w.wc.sg
  have ac : Ac t s (toC s t b c) := (((Ac.refl t s).si (PC.a (by omega))).si (PC.a (by omega))).trans Ac_ap
  have ag : Ag t u (toU u t b c) := ((Ag.refl t u).si (PT.l (by omega) (by omega))).trans (Ag_ap (by omega))
  have cl : Cl u (toU u t b c) := ((Cl.refl u).si (by decide)).trans Cl_ap
  have so : ∀ id o e, ¬ (id = 4 ∨ id = 42 ∨ (80 ≤ id ∧ id ≤ 83)) → (toC s t b c).1 id o e = s.1 id o e := fun id o e z => by unfold toC; rw [apC_o (by omega), si_o (by omega), si_o (by omega)]
  have s2 : ∀ id o e, id ≠ 83 → (toC s t b c).2 id o e = s.2 id o e := fun id o e z => by unfold toC; rw [apC_o2 (by omega)]; rfl
  have s4 : ∀ e, (toC s t b c).1 4 t e = if e = b then 2 else s.1 4 t e := fun e => by
    unfold toC; rw [apC_o (by omega), si_o (by decide)]
    by_cases z : e = b
    · rw [if_pos z, z, si_eq]
    · rw [if_neg z, si_q z]
  have s42 : (toC s t b c).1 42 t 0 = s.1 42 t 0 - 1 := by unfold toC; rw [apC_o (by omega), si_eq]
  have uo : ∀ id e, ¬ (id = 251 ∨ (255 ≤ id ∧ id ≤ 259)) → (toU u t b c).1 id 0 e = u.1 id 0 e ∧ (toU u t b c).2 id 0 e = u.2 id 0 e := fun id e z => by
    unfold toU
    have q := apU_o (u := si u 251 0 (9 * t + (b - 1)) 1) (g := t) (c := c) (id := id) (e := e) (x1 := nI 7) (l := nI (b - 1)) (r := 0) (v := 0) (by omega) (by omega)
    exact ⟨q.1.trans (si_o (by omega)), q.2⟩
  have u251 : ∀ e, (toU u t b c).1 251 0 e = if e = 9 * t + (b - 1) then 1 else u.1 251 0 e := fun e => by
    unfold toU
    rw [(apU_o (by omega) (by omega)).1]
    by_cases z : e = 9 * t + (b - 1)
    · rw [if_pos z, z, si_eq]
    · rw [if_neg z, si_q z]
  have u251' : ∀ e, (toU u t b c).2 251 0 e = u.2 251 0 e := fun e => by
    unfold toU; rw [(apU_o (by omega) (by omega)).2]; rfl
  have R0 : RwR (si (si s 4 t b 2) 42 t 0 (s.1 42 t 0 - 1)) (si u 251 0 (9 * t + (b - 1)) 1) t d c := w.tc.rw.to (fun id e z => by rw [si_o (by omega), si_o (by omega)]) (fun _ => rfl) (si_o (by decide)) (fun id k z _ => si_o (by omega)) (fun _ _ => rfl) (fun k l z1 z2 z3 => by
    have := w.tc.rw.tm k l z1 z2 z3
    refine ⟨this.1, ?_⟩
    rw [si_o (by decide)]
    by_cases z : l + 1 = b
    · rw [z, si_eq]
    · rw [si_q z]; exact this.2)
  have R1 : RwR (toC s t b c) (toU u t b c) t d (c + 1) := by
    refine R0.app (l := b - 1) c21 (by decide) (Or.inl ⟨rfl, by omega, by congr 1; omega, rfl, by omega, ?_⟩) (fun _ k hk z1 z2 => ?_) (fun z => by omega)
    · rw [si_o (by decide), show b - 1 + 1 = b by omega, si_eq]
    · rw [si_o (by decide), si_o (by decide)] at z1 z2
      have := (w.tc.rw.tm k (b - 1) hk (by rw [z2]; congr 1; omega) (by omega)).2
      rw [show b - 1 + 1 = b by omega, h4] at this
      exact absurd this (by decide)
  have n40 := w.ev.pr.n4.2
  have T1 : TC sd (toC s t b c) (toU u t b c) t p d (c + 1) := by
    refine ⟨(so _ _ _ (by omega)).trans w.tc.hp, (so _ _ _ (by omega)).trans w.tc.ds, (uo _ _ (by omega)).1.trans w.tc.du, h8, ?_, fun b' b1 b2 => ?_, R1, ?_⟩
    · rw [so _ _ _ (by omega), (uo _ _ (by omega)).1]; exact w.tc.st
    · obtain ⟨a, wh, L⟩ := w.tc.lv b' b1 b2
      by_cases z : b' = b
      · subst z
        obtain ⟨l1, l2, l3, l4, l5, l6, l7⟩ := L
        refine ⟨a, wh, by unfold nS at *; rw [so _ _ _ (by omega)]; exact l1, ⟨(so _ _ _ (by omega)).trans l2.1, (so _ _ _ (by omega)).trans l2.2.1, (uo _ _ (by omega)).1.trans l2.2.2⟩, ⟨(so _ _ _ (by omega)).trans l3.1, (uo _ _ (by omega)).1.trans l3.2⟩, ?_, ⟨(uo _ _ (by omega)).1.trans l5.1, l5.2⟩, ?_, ?_⟩
        · rw [so _ _ _ (by omega), (uo _ _ (by omega)).1]; exact l4
        · rcases l6 with ⟨m1, m2, wi, m, m3, m4, m5, m6, m7, m8⟩ | ⟨m1, m2, m3⟩
          · refine Or.inl ⟨(uo _ _ (by omega)).1.trans m1, m2, wi, m, by rw [so _ _ _ (by omega)]; exact m3, m4, (so _ _ _ (by omega)).trans m5, (so _ _ _ (by omega)).trans m6, (uo _ _ (by omega)).2.trans m7, Or.inr ⟨by rw [s4, if_pos rfl], by rw [u251, if_pos rfl]⟩⟩
          · rw [m2] at h4; exact absurd h4 (by decide)
        · unfold HdR at *
          rw [so _ _ _ (by omega), (uo _ _ (by omega)).1, (uo _ _ (by omega)).1, s2 _ _ _ (by omega), (uo _ _ (by omega)).2, so _ _ _ (by omega), (uo _ _ (by omega)).1]; exact l7
      · refine ⟨a, wh, L.to ?_ ?_ ?_ (fun id z1 z2 => ⟨?_, s2 _ _ _ (by omega)⟩) (so _ _ _ (by omega)) ?_ ?_ (fun id z1 z2 => ?_)⟩
        · funext o e; exact so _ _ _ (by omega)
        · funext o e; exact so _ _ _ (by omega)
        · rw [so _ _ _ (by omega)]; exact Nat.le_refl _
        · by_cases q : id = 4
          · subst q; rw [s4, if_neg z]
          · exact so _ _ _ (by omega)
        · funext e; exact (uo _ _ (by omega)).1
        · funext e; exact (uo _ _ (by omega)).1
        · by_cases q : id = 251
          · subst q; exact ⟨by rw [u251, if_neg (by omega)], u251' _⟩
          · exact uo _ _ (by omega)
    · rw [s42, w.tc.aw]
      have := cntA_dec (s := s) (s' := toC s t b c) d b hb hd h4 (by rw [s4, if_pos rfl]) (fun k hk => by rw [s4, if_neg hk])
      rw [this, nI_s1 (by omega)]; congr 1
  have sg : SG (toC s t b c) (toU u t b c) n := by
    have Sg := w.wc.sg
    refine ⟨Sg.n30, by rw [(uo _ _ (by omega)).1]; exact Sg.sr, fun e he => ?_, fun e e' he he' => ?_, fun g k hg hk => ?_⟩
    · unfold SE; rw [so _ _ _ (by omega), (uo _ _ (by omega)).1, (uo _ _ (by omega)).1]; exact Sg.se e he
    · rw [(uo _ _ (by omega)).1, (uo _ _ (by omega)).1]; exact Sg.di e e' he he'
    · have old : k < cN s g → (toC s t b c).1 81 g k = s.1 81 g k → (toU u t b c).1 259 0 (32 * g + k) = u.1 259 0 (32 * g + k) → RS (toC s t b c) (toU u t b c) g k := fun q1 q2 q3 => by
        obtain ⟨w', c1, c2⟩ := Sg.rs g k hg q1
        refine ⟨w', q2.trans c1, ?_⟩
        rw [so _ _ _ (by omega), q3, (uo _ _ (by omega)).1]; exact c2
      by_cases q : g = t
      · subst q
        rw [cN_of R1.cs R1.c22] at hk
        by_cases qk : k = c
        · subst qk
          refine ⟨7, by unfold toC; exact apC_81, Or.inr ⟨by decide, by decide, by unfold toU; exact apU_259⟩⟩
        · refine old (by rw [cN_of w.tc.rw.cs w.tc.rw.c22]; omega) ?_ ?_
          · unfold toC; rw [apC_k (Or.inl rfl) qk, si_o (by decide), si_o (by decide)]
          · unfold toU; rw [(apU_o (by omega) (by omega)).1, si_o (by decide)]
      · have e80 : cN (toC s t b c) g = cN s g := by unfold cN; rw [(ac.sr q 80 0 (by omega)).1]
        rw [e80] at hk
        have h22 := w.cN g hg
        exact old hk (ac.sr q 81 k (by omega)).1 (ag.ur q 259 _ (PT.r (by omega) (by omega)) (by omega)).1
  refine ⟨⟨⟨hG, w.wc.nr.lv (fun id z1 z2 => ⟨by funext o e; exact so _ _ _ (by omega), by funext o e; exact s2 _ _ _ (by omega)⟩) (fun id z => ⟨by funext e; exact (uo _ _ (by omega)).1, by funext e; exact (uo _ _ (by omega)).2⟩), by rw [so _ _ _ (by omega)]; exact w.wc.ck, w.wc.pp.to ac.fc ag.fr, sg, fun q hq => ?_⟩, fun g hg hn => (w.th g hg hn).fw hn ac ag, ⟨?_, ?_, ?_, fun k hk => ?_⟩, ?_, T1, w.hp, ?_⟩, ac.fc, ag.fr, cl, c21⟩
  · rw [so _ _ _ (by omega), (uo _ _ (by omega)).1, s2 _ _ _ (by omega), (uo _ _ (by omega)).2]; exact w.wc.bx q hq
  · rw [so _ _ _ (by omega), (uo _ _ (by omega)).1]; exact w.tb.st
  · rw [so _ _ _ (by omega), (uo _ _ (by omega)).1]; exact w.tb.sp
  · rw [s2 _ _ _ (by omega), (uo _ _ (by omega)).2]; exact w.tb.di
  · rw [s2 _ _ _ (by omega), (uo _ _ (by omega)).2]; exact w.tb.lo k hk
  · rw [so _ _ _ (by omega)]; exact w.nu
  · rw [so _ _ _ (by omega)]; exact w.rn
/-- a level of the reference's loop that does nothing -/
theorem r_to_none {sd : Nat → Nat → Nat} {pc n t p d : Nat} (ht : t < 6) (K : Int32 → St → Option St) : ∀ (m b N : Nat) (s u : St) (c : Nat), b + m = d + 1 → 1 ≤ b → m < N → WT sd pc n s u t p d c → (∀ k, b ≤ k → k ≤ d → ¬ s.1 4 t k = 1) → r_timeouts_10 K N (nI t) (nI (b - 1)) u = K (nI (t + 1)) u := by
  intro m
  induction m with
  | zero =>
    intro b N s u c hm hb hN w hno
    obtain ⟨N, rfl⟩ : ∃ q, N = q + 1 := ⟨N - 1, by omega⟩
    have h8 := w.tc.d8
    rw [r_timeouts_10.eq_2, gI (by omega) (by decide), nI_clamp (by omega), w.tc.du, if_pos (nI_le (by omega) (by omega))]
    unfold r_timeouts_95; rw [nI_1]
  | succ m ih =>
    intro b N s u c hm hb hN w hno
    obtain ⟨N, rfl⟩ : ∃ q, N = q + 1 := ⟨N - 1, by omega⟩
    have h8 := w.tc.d8
    obtain ⟨a, wh, L⟩ := w.tc.lv b hb (by omega)
    have hi := ih (b + 1) N s u c (by omega) (by omega) (by omega) w (fun k h1 h2 => hno k (by omega) h2)
    rw [show b + 1 - 1 = b - 1 + 1 by omega] at hi
    rw [r_timeouts_10.eq_2, gI (by omega) (by decide), nI_clamp (by omega), w.tc.du, if_neg (nI_ge (by omega) (by omega)), gI (by omega) (by decide), ← w.tb.st, w.rn, if_pos rfl]
    simp only [m9]
    rw [gI (by omega) (by decide), nI_clamp (by omega)]
    unfold r_timeouts_89
    rw [nI_1]
    rcases L.2.2.2.2.2.1 with ⟨m1, m2, wi, q, m3, m4, m5, m6, m7, m8⟩ | ⟨m1, m2, m3, -⟩
    · obtain ⟨ck, ck1, ck2⟩ := w.wc.ck
      rw [ck2, nI_clamp (by omega)] at m3
      rw [m7, if_neg (due_pos (by omega) (by omega)), gI (by omega) (by decide)]
      rcases m8 with ⟨q1, q2⟩ | ⟨q1, q2⟩
      · exact absurd q1 (hno b (Nat.le_refl _) (by omega))
      · rw [q2, if_neg (by decide)]; exact hi
    · rw [m3, if_pos (by decide)]; exact hi
theorem lp_to {sd : Nat → Nat → Nat} {pc n t p d : Nat} (ht : t < 6) (K : Int32 → St → Option St) : ∀ (m b N : Nat) (s u : St) (c : Nat), b + m = d + 1 → 1 ≤ b → m < N → WT sd pc n s u t p d c → PS sd s u t p d → SP s t p d →
    ∃ u' c', r_timeouts_10 K N (nI t) (nI (b - 1)) u = K (nI (t + 1)) u' ∧ WT sd pc n (btS t m b s) u' t p d c' ∧ PS sd (btS t m b s) u' t p d ∧ SP (btS t m b s) t p d ∧ Fc s (btS t m b s) ∧ Fr u u' ∧ Cl u u' ∧ (btS t m b s).1 38 = s.1 38 := by
  intro m
  induction m with
  | zero =>
    intro b N s u c hm hb hN w P Q
    exact ⟨u, c, r_to_none ht K 0 b N s u c hm hb hN w (fun k _ _ => by omega), w, P, Q, Fc.refl s, Fr.refl u, Cl.refl u, rfl⟩
  | succ m ih =>
    intro b N s u c hm hb hN w P Q
    have h8 := w.tc.d8
    have hcA := cntA_le (s := s) (t := t) d
    have h12 := w.ev.p12
    have n40 := w.ev.pr.n4.2
    unfold btS
    by_cases h42 : s.1 42 t 0 ≤ 0
    · rw [if_pos h42]
      refine ⟨u, c, r_to_none ht K (m + 1) b N s u c hm hb hN w (fun k h1 h2 z => ?_), w, P, Q, Fc.refl s, Fr.refl u, Cl.refl u, rfl⟩
      rw [w.tc.aw] at h42
      have := (nI_0lt (by omega)).mp h42
      have := cntA_pos (s := s) (t := t) d k (by omega) h2 z
      omega
    · rw [if_neg h42]
      obtain ⟨N, rfl⟩ : ∃ q, N = q + 1 := ⟨N - 1, by omega⟩
      obtain ⟨a, wh, L⟩ := w.tc.lv b hb (by omega)
      have ha := L.1.1
      obtain ⟨ck, ck1, ck2⟩ := w.wc.ck
      have eb : bt1 s t b = if s.1 4 t b = 1 ∧ s.1 70 p a ≤ nI ck - s.1 5 t b then appS (si (si s 4 t b 2) 42 t 0 (s.1 42 t 0 - 1)) t 7 (nI b) 0 else s := by
        unfold bt1 oN
        rw [pN_of w.tc.hp (by omega), L.2.1.1, nI_clamp (by omega), show co t = 0 by unfold co; rw [if_pos ht], ck2]
      have R : r_timeouts_10 K (N + 1) (nI t) (nI (b - 1)) u = if u.2 250 0 (9 * t + (b - 1)) < (0 : Int64) then r_timeouts_10 K N (nI t) (nI (b - 1 + 1)) u else if u.1 251 0 (9 * t + (b - 1)) = 0 then (if (nI ck).toInt64 < u.2 250 0 (9 * t + (b - 1)) then r_timeouts_10 K N (nI t) (nI (b - 1 + 1)) u else (cal (r_toRow (nI t) (7 : Int32) (0 : Int64) (nI (b - 1)) (0 : Int32) (si u 251 0 (9 * t + (b - 1)) 1)) fun s8 => r_timeouts_10 K N (nI t) (nI (b - 1 + 1)) s8)) else r_timeouts_10 K N (nI t) (nI (b - 1 + 1)) u := by
        rw [r_timeouts_10.eq_2, gI (by omega) (by decide), nI_clamp (by omega), w.tc.du, if_neg (nI_ge (by omega) (by omega)), gI (by omega) (by decide), ← w.tb.st, w.rn, if_pos rfl]
        simp only [m9]
        rw [gI (by omega) (by decide), nI_clamp (by omega), gI (by omega) (by decide), bnd_d, gI (by omega) (by decide), gZ (by omega) (by decide) zo1, ← w.wc.nr.ck, ck2]
        unfold r_timeouts_89
        rw [nI_1]
      have skip : bt1 s t b = s → r_timeouts_10 K (N + 1) (nI t) (nI (b - 1)) u = r_timeouts_10 K N (nI t) (nI (b - 1 + 1)) u → ∃ u' c', r_timeouts_10 K (N + 1) (nI t) (nI (b - 1)) u = K (nI (t + 1)) u' ∧ WT sd pc n (btS t m (b + 1) (bt1 s t b)) u' t p d c' ∧ PS sd (btS t m (b + 1) (bt1 s t b)) u' t p d ∧ SP (btS t m (b + 1) (bt1 s t b)) t p d ∧ Fc s (btS t m (b + 1) (bt1 s t b)) ∧ Fr u u' ∧ Cl u u' ∧ (btS t m (b + 1) (bt1 s t b)).1 38 = s.1 38 := fun e1 e2 => by
        rw [e1, e2, show b - 1 + 1 = b + 1 - 1 by omega]
        exact ih (b + 1) N s u c (by omega) (by omega) (by omega) w P Q
      rcases L.2.2.2.2.2.1 with ⟨m1, m2, wi, q, m3, m4, m5, m6, m7, m8⟩ | ⟨m1, m2, m3, -⟩
      · rw [ck2, nI_clamp (by omega)] at m3
        rw [m5, m6] at eb
        rw [m7, if_neg (due_pos (by omega) (by omega))] at R
        rcases m8 with ⟨q1, q2⟩ | ⟨q1, q2⟩
        · rw [q2, if_pos rfl] at R
          by_cases hdue : nI q ≤ nI ck - nI wi
          · rw [if_pos ⟨q1, hdue⟩] at eb
            rw [if_neg (fun z => ((due_iff ck1 m3 (by omega)).mp z) hdue)] at R
            have c21 := row21 ht w.tc.rw w.wc.sg
            have eC : bt1 s t b = toC s t b c := by
              rw [eb]; exact app_eq (by rw [si_o (by decide), si_o (by decide)]; exact w.tc.rw.cs) c21
            have hG : GV (toC s t b c) := by rw [← eC]; exact GV_bt1 w.wc.gv (by omega)
            obtain ⟨w1, f1, f2, f3, -⟩ := step_to ht w hb (by omega) q1 hG
            rw [show r_toRow (nI t) (7 : Int32) (0 : Int64) (nI (b - 1)) (0 : Int32) (si u 251 0 (9 * t + (b - 1)) 1) = some (toU u t b c) from r_toRow_eq (by omega) (by rw [si_o (by decide)]; exact w.tc.rw.cu) w.tc.rw.c22, cal_s] at R
            rw [eC, R, show b - 1 + 1 = b + 1 - 1 by omega]
            have e3 : (toC s t b c).1 3 = s.1 3 := by funext o e; unfold toC; rw [apC_o (by omega), si_o (by decide), si_o (by decide)]
            have e38 : (toC s t b c).1 38 = s.1 38 := by funext o e; unfold toC; rw [apC_o (by omega), si_o (by decide), si_o (by decide)]
            have e44 : (toC s t b c).1 44 = s.1 44 := by funext o e; unfold toC; rw [apC_o (by omega), si_o (by decide), si_o (by decide)]
            have e241 : (toU u t b c).1 241 0 t = u.1 241 0 t := by unfold toU; rw [(apU_o (by omega) (by omega)).1, si_o (by decide)]
            obtain ⟨u', c', r1, r2, r3, r4, r5, r6, r7, r8⟩ := ih (b + 1) N (toC s t b c) (toU u t b c) (c + 1) (by omega) (by omega) (by omega) w1 (by unfold PS at *; rw [nS_to f1.ap, e3, e241]; exact P) (by unfold SP at *; rw [nS_to f1.ap, e3, e44, (f1 68 (by omega)).1, (f1 70 (by omega)).1]; exact Q)
            exact ⟨u', c', r1, r2, r3, r4, f1.trans r5, f2.trans r6, f3.trans r7, r8.trans e38⟩
          · rw [if_neg (fun z => hdue z.2)] at eb
            rw [if_pos ((due_iff ck1 m3 (by omega)).mpr hdue)] at R
            exact skip eb R
        · rw [q2, if_neg (by decide)] at R
          rw [if_neg (fun z => absurd (q1.symm.trans z.1) (by decide))] at eb
          exact skip eb R
      · rw [m3, if_pos (by decide)] at R
        rw [if_neg (fun z => absurd (m2.symm.trans z.1) (by decide))] at eb
        exact skip eb R
theorem sim_bring {sd : Nat → Nat → Nat} {pc n t : Nat} {s u : St} (K : Int32 → St → Option St) (ht : t < 6) (w : WR sd pc n s u) : ∃ u', r_timeouts_10 K 40 (nI t) 0 u = K (nI (t + 1)) u' ∧ WR sd pc n (bringS s t) u' ∧ Fc s (bringS s t) ∧ Fr u u' ∧ Cl u u' ∧ (bringS s t).1 38 = s.1 38 := by
  by_cases hr : s.1 38 t 0 = 1
  · obtain ⟨p, d, c, wt, P, Q⟩ := w.wt ht hr
    have h8 := wt.tc.d8
    obtain ⟨u', c', r1, r2, r3, r4, r5, r6, r7, r8⟩ := lp_to ht K d 1 40 s u c (by omega) (by decide) (by omega) wt P Q
    unfold bringS
    rw [dN_of wt.tc.ds h8]
    exact ⟨u', r1, r2.wr r3 r4, r5, r6, r7, r8⟩
  · have h := w.th t ht
    have e : bringS s t = s := by
      rcases h.ru with z | ⟨_, I⟩
      · exact absurd z.1 hr
      · unfold bringS dN; rw [I.a3]; rfl
    rw [e]
    refine ⟨u, ?_, w, Fc.refl s, Fr.refl u, Cl.refl u, rfl⟩
    rw [r_timeouts_10.eq_2, gI (by omega) (by decide), nI_clamp (by omega)]
    unfold r_timeouts_95
    split
    · rw [nI_1]
    · rw [gI (by omega) (by decide), ← h.tb.st, if_neg hr, nI_1]
theorem sim_b6 {sd : Nat → Nat → Nat} {pc n : Nat} : ∀ (m k N : Nat) (s u : St), k + m = 6 → m < N → WR sd pc n s u → ∃ u', r_timeouts_2 N (nI k) u = some u' ∧ WR sd pc n (b6S m k s) u' ∧ Fc s (b6S m k s) ∧ Fr u u' ∧ Cl u u' ∧ (b6S m k s).1 38 = s.1 38 := by
  intro m
  induction m with
  | zero =>
    intro k N s u hk hN w
    obtain ⟨N, rfl⟩ : ∃ q, N = q + 1 := ⟨N - 1, by omega⟩
    refine ⟨u, ?_, w, Fc.refl s, Fr.refl u, Cl.refl u, rfl⟩
    rw [r_timeouts_2.eq_2, if_pos (show (6 : Int32) ≤ nI k from nI_le (a := 6) (by omega) (by omega))]
  | succ m ih =>
    intro k N s u hk hN w
    obtain ⟨N, rfl⟩ : ∃ q, N = q + 1 := ⟨N - 1, by omega⟩
    obtain ⟨u1, a1, a2, a3, a4, a5, a6⟩ := sim_bring (r_timeouts_2 N) (show k < 6 by omega) w
    obtain ⟨u2, b1, b2, b3, b4, b5, b6⟩ := ih (k + 1) N (bringS s k) u1 (by omega) (by omega) a2
    refine ⟨u2, ?_, b2, a3.trans b3, a4.trans b4, a5.trans b5, b6.trans a6⟩
    rw [r_timeouts_2.eq_2, if_neg (show ¬ (6 : Int32) ≤ nI k from nI_ge (b := 6) (by omega) (by decide)), a1, b1]
/-- the clock goes on, and times run out -/
theorem sim_tick {sd : Nat → Nat → Nat} {pc n ck : Nat} {s u : St} (w : WR sd pc n s u) (hc : s.1 16 0 0 = nI ck) (hk : ck + 1 < 2 ^ 30) :
    ∃ u', r_timeouts (si u 237 0 0 (u.1 237 0 0 + 1)) = some u' ∧ WR sd pc n (tick s) u' ∧ Fc0 s (tick s) ∧ (tick s).1 16 0 0 = nI (ck + 1) ∧ Fr u u' ∧ Cl u u' ∧ (tick s).1 38 = s.1 38 := by
  have hu : u.1 237 0 0 = nI ck := w.wc.nr.ck.symm.trans hc
  have fc : Fc0 s (si s 16 0 0 (nI (ck + 1))) := fun id z => ⟨si_id (by omega), rfl⟩
  have W1 : WR sd pc n (si s 16 0 0 (nI (ck + 1))) (si u 237 0 0 (nI (ck + 1))) := by
    refine ⟨⟨GV_si w.wc.gv trivial, ?_, ⟨ck + 1, hk, si_eq⟩, ⟨w.wc.pp.1, by rw [si_o (by decide)]; exact w.wc.pp.2.1, by rw [si_o (by decide)]; exact w.wc.pp.2.2.1, fun p hp => (w.wc.pp.2.2.2 p hp).to (fun id _ _ => si_id (by omega)) (fun id _ _ => ⟨by rw [si_id (by omega)], rfl⟩)⟩, w.wc.sg.lb (si_id (by decide)) (si_id (by decide)) (si_id (by decide)) (fun id z => by rw [si_id (by omega)]), fun b hb => ?_⟩, fun t ht => ?_⟩
    · obtain ⟨m, m1, m2, m3⟩ := w.wc.nr.n4
      exact ⟨by rw [si_o (by decide), si_o (by decide)]; exact w.wc.nr.cs, ⟨m, m1, by rw [si_o (by decide)]; exact m2, fun k hk => by rw [si_o (by decide), si_o (by decide), si_o (by decide), si_o (by decide), si_o (by decide), si_o (by decide)]; exact m3 k hk⟩, by rw [si_eq, si_eq]⟩
    · rw [si_o (by decide), si_o (by decide)]; exact w.wc.bx b hb
    · refine (w.th t ht).other (fun id e z => ⟨si_o (by omega), rfl⟩) (fun id e hp z => ⟨si_o (fun q => by unfold PT at hp; omega), rfl⟩) (fun id e z => ⟨si_o (by omega), rfl⟩) (fun id e _ z => ⟨si_o (by omega), rfl⟩) (fun id _ _ => si_id (by omega)) (fun id _ _ => ⟨by rw [si_id (by omega)], rfl⟩) ?_
      rw [si_eq, hc, nI_clamp (by omega), nI_clamp (by omega)]; omega
  obtain ⟨u', a1, a2, a3, a4, a5, a6⟩ := sim_b6 6 0 40 _ _ (by omega) (by omega) W1
  unfold r_timeouts tick
  rw [hu, hc, nI_1]
  exact ⟨u', a1, a2, fc.trans a3.z, by rw [(a3 16 (Or.inl rfl)).1, si_eq], Fr.trans (s1 := si u 237 0 0 (nI (ck + 1))) (fun id _ _ => ⟨by rw [si_id (by omega)], rfl⟩) a4, Cl.trans ((Cl.refl u).si (by decide)) a5, a6.trans (si_id (by decide))⟩
