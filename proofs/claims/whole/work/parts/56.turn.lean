/-! a TURN, on both sides -/
theorem WT.sw {sd : Nat → Nat → Nat} {pc n t p d c a : Nat} {s u : St} (w : WT sd pc n s u t p d c) (ha : a < nS s p) : SW s p a := by
  have S := w.ev.pr.st a ha
  have n40 := w.ev.pr.n4.2
  refine ⟨by omega, fun z => ?_, fun z => ?_, fun z => ?_, fun z => ?_⟩
  · obtain ⟨b, b1, b2, -⟩ := S.lt (by rcases z with z | z | z <;> (rw [z]; decide))
    exact ⟨b, b1, b2⟩
  · obtain ⟨b, b1, b2, -⟩ := S.bx (by rcases z with z | z <;> (rw [z]; decide))
    exact ⟨b, b1, b2⟩
  · obtain ⟨b, b1, b2, -⟩ := S.sn z
    exact ⟨b, b1, b2⟩
  · exact (S.xp (by rcases z with z | z | z | z | z | z | z <;> (rw [z]; decide))).xw
theorem WT.lw {sd : Nat → Nat → Nat} {pc n t p d c : Nat} {s u : St} (w : WT sd pc n s u t p d c) : LW s t := fun b b1 b2 hk => by
  have h12 := w.ev.p12
  have n40 := w.ev.pr.n4.2
  rw [dN_of w.tc.ds w.tc.d8] at b2
  obtain ⟨a, wh, L⟩ := w.tc.lv b b1 b2
  have ha := L.1.1
  rw [kd_eq w.tc.hp (by omega) L.2.1.1 (by omega)] at hk
  unfold oN
  rw [pN_of w.tc.hp (by omega), L.2.1.1, nI_clamp (by omega)]
  obtain ⟨q, b1, b2, -⟩ := (w.ev.pr.st a ha).lt (by rw [hk]; decide)
  exact ⟨q, b1, b2⟩
theorem LW_to {s s' : St} {t : Nat} (h : LW s t) (e : ∀ id, id = 0 ∨ id = 37 ∨ id = 41 ∨ id = 68 ∨ id = 69 → s'.1 id = s.1 id) : LW s' t := by
  unfold LW kdN oN pN dN at *
  rw [e 0 (by omega), e 37 (by omega), e 41 (by omega), e 68 (by omega), e 69 (by omega)]; exact h
theorem br_id {s : St} {t id : Nat} (h : ¬ (id = 44 ∨ (80 ≤ id ∧ id ≤ 82))) : (brS s t).1 id = s.1 id := by
  unfold brS
  split
  · rfl
  · rw [si_id (by omega), rm_id (by omega) (by omega) (by omega)]
theorem tf_id {s : St} {t id : Nat} (h : ¬ (id = 44 ∨ id = 46 ∨ (80 ≤ id ∧ id ≤ 82) ∨ (17 ≤ id ∧ id ≤ 20))) : (tfS s t).1 id = s.1 id := by
  unfold tfS tf3 tf2
  rw [tell_id (by omega) (by omega) (by omega) (by omega), rm_id (by omega) (by omega) (by omega), si_id (by omega), sl_1, br_id (by omega)]
theorem pf_5 {s : St} {t a id : Nat} (h : ¬ (id = 44 ∨ id = 46 ∨ (80 ≤ id ∧ id ≤ 82))) (hv : pfV s t a = 4 ∨ pfV s t a = 5) : (pfS s t a).1 id = s.1 id := by
  unfold pfV at hv
  by_cases k9 : s.1 68 (pN s t) a = 9
  · rw [if_pos k9] at hv
    unfold pfS; rw [k9, if_neg (by decide), if_neg (by decide), if_neg (by decide), if_neg (by decide), if_pos rfl]
    unfold tbV at hv; unfold tbS
    split at hv
    · rcases hv with hv | hv <;> exact absurd hv (by decide)
    · rename_i z; rw [if_neg z]
  rw [if_neg k9] at hv
  by_cases k11 : s.1 68 (pN s t) a = 11
  · rw [if_pos k11] at hv
    unfold pfS; rw [k11, if_neg (by decide), if_neg (by decide), if_neg (by decide), if_neg (by decide), if_neg (by decide), if_pos rfl]
    unfold tbV at hv; unfold pbS
    split at hv
    · rcases hv with hv | hv <;> exact absurd hv (by decide)
    · rename_i z; rw [if_neg z]
  rw [if_neg k11] at hv
  have tv : (tvS s t a).1 id = s.1 id := by unfold tvS; rw [si_id (by omega), sl_1, wS_1]
  by_cases k13 : s.1 68 (pN s t) a = 13
  · unfold pfS; rw [k13, if_neg (by decide), if_neg (by decide), if_neg (by decide), if_neg (by decide), if_neg (by decide), if_neg (by decide), if_pos rfl]
    exact tv
  rw [if_neg k13] at hv
  by_cases k14 : s.1 68 (pN s t) a = 14
  · rw [if_pos k14] at hv
    unfold pfS; rw [k14, if_neg (by decide), if_neg (by decide), if_neg (by decide), if_neg (by decide), if_neg (by decide), if_neg (by decide), if_neg (by decide), if_pos rfl]
    unfold sdV at hv; unfold sdS
    split
    · exact tv
    · rename_i z1
      rw [if_neg z1] at hv
      split at hv
      · rcases hv with hv | hv <;> exact absurd hv (by decide)
      · rename_i z2
        rw [if_neg z2]
        split
        · unfold sd3 sd0; rw [app_id (by omega) (by omega) (by omega), wS_1, si_id (by omega)]
        · rfl
  rw [if_neg k14] at hv
  rcases hv with hv | hv <;> exact absurd hv (by decide)
theorem st1_5 {r : St} {t id : Nat} (h : id = 0 ∨ id = 37 ∨ id = 41 ∨ id = 68 ∨ id = 69) (h5 : (st1R r t).1 = 5) : (st1R r t).2.1 id = r.1 id := by
  unfold st1R at h5 ⊢
  split
  · exact tf_id (by omega)
  · rename_i z1
    rw [if_neg z1] at h5
    split
    · rename_i z2; rw [if_pos z2] at h5; exact absurd h5 (show ¬ (2 : Int32) = 5 by decide)
    · rename_i z2
      rw [if_neg z2] at h5
      unfold st2R at h5 ⊢
      split
      · rename_i z3
        show (tfS _ t).1 id = _
        rw [tf_id (by omega), pf_5 (by omega) (Or.inl z3.1)]
      · rename_i z3
        rw [if_neg z3] at h5
        exact pf_5 (by omega) (Or.inr h5)
theorem settle_no {sd : Nat → Nat → Nat} {s u : St} {t p d c a : Nat} (ht : t < 7) (T : TC sd s u t p d c) (h3 : s.1 3 t d = nI a) (ha : a < 40) (hu : u.1 241 0 t = nI (40 * p + a)) (hp : p < 12) : setS t 24 s = (0, s) ∧ r_settle (nI t) u = some (0, u) := by
  refine ⟨?_, ?_⟩
  · rw [setS.eq_2, dN_of T.ds T.d8, if_pos (Or.inr (by rw [h3]; exact nI_n1 (by omega)))]
  · unfold r_settle
    rw [r_settle_0.eq_2, gI (by omega) (by decide), nI_clamp (by omega), hu, if_pos (nI_pos' (by omega))]
/-- settle, in the world -/
theorem sim_set {sd : Nat → Nat → Nat} {pc n t p d c : Nat} {s u : St} (ht : t < 6) (w : WT sd pc n s u t p d c) (P : PS sd s u t p d) (Q : SP s t p d) :
    ∃ v s' u' d' c', setS t 24 s = (v, s') ∧ r_settle (nI t) u = some (v, u') ∧ WT sd pc n s' u' t p d' c' ∧ Fc s s' ∧ Fr u u' ∧ Cl u u' ∧ ((v = 0 ∧ PS sd s' u' t p d' ∧ SP s' t p d') ∨ (v = 1 ∧ ThR s' u' t d' ∧ s'.1 44 t 0 = -1 ∧ ∃ a, a < nS s' p ∧ s'.1 3 t d' = nI a)) := by
  have h12 := w.ev.p12
  have n40 := w.ev.pr.n4.2
  rcases Q with q | ⟨a, q1, q2, q3, q4⟩
  · have h8 := w.tc.d8
    have hm := mu_le (s := s) (t := t) d
    obtain ⟨v, s', u', d', c', r1, r2, r3, r4, r5, r6⟩ := sim_settle (show t < 7 by omega) 24 40 s u d c w.ev w.tc P (by omega) (by omega)
    have e44 : s'.1 44 t 0 = -1 := by rw [(r4.ks 44 (by omega)).1]; exact q
    refine ⟨v, s', u', d', c', r1, r2, w.fm ht r4 r5 r3, r4.ac.fc, r4.ag.fr, r4.cl, ?_⟩
    rcases r6 with ⟨z1, z2, -⟩ | ⟨z1, z2, z3⟩
    · exact Or.inl ⟨z1, z2, Or.inl e44⟩
    · exact Or.inr ⟨z1, z2, e44, z3⟩
  · have hu : u.1 241 0 t = nI (40 * p + a) := by
      rcases P with z | ⟨a', z1, z2, z3, z4⟩
      · rw [q2] at z; exact absurd z.1 (nI_n1 (by omega))
      · have : a' = a := (nI_eq (by omega) (by omega)).mp (z2.symm.trans q2)
        rw [← this]; exact z3
    obtain ⟨r1, r2⟩ := settle_no (by omega) w.tc q2 (by omega) hu h12
    exact ⟨0, s, u, d, c, r1, r2, w, Fc.refl s, Fr.refl u, Cl.refl u, Or.inl ⟨rfl, P, Or.inr ⟨a, q1, q2, q3, q4⟩⟩⟩
/-- a THREAD that has come to its end -/
theorem out_fin {sd : Nat → Nat → Nat} {pc n t p d c : Nat} {s u : St} (ht : t < 6) (w : WT sd pc n s u t p d c) (h44 : s.1 44 t 0 = -1) :
    OutT sd pc n s u (2, finS s t) (cal (r_note0 4 (nI t) 0 (si (si u 240 0 t 2) 255 0 t 0)) fun s87 => some ((2 : Int32), s87)) := by
  have e32 : (leaveAllS (si s 38 t 0 2) t).1 32 t 0 = nI t := by rw [leaveAll_o (by decide), si_o (by decide)]; exact w.nu
  have N0 : NR (leaveAllS (si s 38 t 0 2) t) (si (si u 240 0 t 2) 255 0 t 0) := w.wc.nr.lv (fun id z1 z2 => ⟨by funext o e; rw [leaveAll_o (by omega), si_o (by omega)], rfl⟩) (fun id z => ⟨by rw [si_id (by omega), si_id (by omega)], rfl⟩)
  have G0 : GV (leaveAllS (si s 38 t 0 2) t) := GV_leaveAll (GV_si w.wc.gv (okN_of (q := 2) (by decide)))
  obtain ⟨u', n1, n2, n3⟩ := sim_note (t := t) (k := 4) (x := nI t) (v := 0) (by omega) N0 (G0.H 1) (fun _ => rfl)
  have eP : finS s t = tellS (leaveAllS (si s 38 t 0 2) t) (co t) 4 (nI t) 0 := by unfold finS; rw [e32]
  rw [← eP] at n2
  have ac : Ac t s (finS s t) := by
    rw [eP]; exact (((Ac.refl t s).si (PC.a (by omega))).trans Ac_leaveAll).trans Ac_tell
  have ag : Ag t u u' := (((Ag.refl t u).si (PT.a (by omega))).si (PT.a (by omega))).trans n3.ag
  have cl : Cl u u' := (((Cl.refl u).si (by decide)).si (by decide)).trans n3.cl
  have tc : ∀ id, ¬ (17 ≤ id ∧ id ≤ 21) → (finS s t).1 id = (leaveAllS (si s 38 t 0 2) t).1 id ∧ (finS s t).2 id = s.2 id := fun id z => by rw [eP]; exact tell_c z
  have I : TI (finS s t) u' t := by
    rw [eP]; refine TI_of ?_
    rw [(n3 255 (by omega)).1, si_eq]
  have k38 : (finS s t).1 38 t 0 = 2 := by rw [(tc 38 (by omega)).1, leaveAll_o (by decide), si_eq]
  have sb : SbR t s u (finS s t) u' := fun k hk => by
    unfold cN at hk
    rw [I.a0] at hk
    exact absurd hk (Nat.not_lt_zero _)
  refine ⟨2, finS s t, u', rfl, by rw [n1, cal_s], ⟨w.wc.fw ht ac ag sb (I.a5.trans h44.symm) w.cN (by rw [eP]; exact GV_tell G0) n2, fun g hg => ?_⟩, ac.fc, ag.fr, cl, by simp⟩
  by_cases hgt : g = t
  · subst hgt
    refine ⟨⟨?_, ?_, ?_, fun k hk => ?_⟩, ?_, Or.inr ⟨by rw [k38]; decide, I⟩⟩
    · rw [k38, (n3 240 (by omega)).1, si_o (by decide), si_eq]
    · rw [(tc 40 (by omega)).1, leaveAll_o (by decide), si_o (by decide), (n3 243 (by omega)).1, si_o (by decide), si_o (by decide)]; exact w.tb.sp
    · rw [(tc 43 (by omega)).2, (n3 244 (by omega)).2]; exact w.tb.di
    · rw [(tc 34 (by omega)).2, (n3 245 (by omega)).2]; exact w.tb.lo k hk
    · rw [(tc 32 (by omega)).1]; exact e32
  · exact (w.th g hg hgt).fw hgt ac ag
/-- settled: the rest of a TURN -/
theorem sim_st1 {sd : Nat → Nat → Nat} {pc n t p d c : Nat} {s u : St} (ht : t < 6) (w : WT sd pc n s u t p d c) (P : PS sd s u t p d) (Q : SP s t p d) (hn : n + 1 < 2 ^ 30) :
    ∃ n', n ≤ n' ∧ n' ≤ n + 1 ∧ OutT sd pc n' s u (uw (st1R s t) t) (grd (ib (nI t) 7) (u.1 242 0 (nI t).toNatClampNeg) fun v3 => if v3 = 0 then (grd (ib (nI t) 7) (u.1 255 0 (nI t).toNatClampNeg) fun v89 => if v89 ≤ 0 then (r_turnOf_81 (nI t) u) else (cal2 (r_throwFirst (nI t) u) fun v91 s90 => some (v91, s90))) else (r_turnOf_81 (nI t) u)) := by
  have hc := w.tc.rw.c22
  have n40 := w.ev.pr.n4.2
  have e0 : 0 < s.1 80 t 0 ↔ 1 ≤ c := by rw [w.tc.rw.cs]; exact nI_ltiff (a := 0) (by decide) (by omega)
  rw [gI (by omega) (by decide), nI_clamp (by omega), gI (by omega) (by decide), ← w.tc.st, w.tc.rw.cu]
  have rest : ¬ (s.1 39 t 0 = 0 ∧ 0 < s.1 80 t 0) → ∃ n', n ≤ n' ∧ n' ≤ n + 1 ∧ OutT sd pc n' s u (uw (st1R s t) t) (r_turnOf_81 (nI t) u) := fun z => by
    unfold st1R
    rw [if_neg z, dN_of w.tc.ds w.tc.d8]
    rcases P with ⟨p1, p2⟩ | ⟨a, q1, q2, q3, q4⟩
    · rw [if_pos p1]
      have h44 : s.1 44 t 0 = -1 := by
        rcases Q with q | ⟨a, q1, q2, -⟩
        · exact q
        · rw [p1] at q2; exact absurd q2.symm (nI_n1 (by omega))
      refine ⟨n, Nat.le_refl _, by omega, ?_⟩
      unfold r_turnOf_81
      rw [gI (by omega) (by decide), nI_clamp (by omega), p2, if_neg (by decide), gI (by omega) (by decide), gI (by omega) (by decide)]
      exact out_fin ht w h44
    · have eA : aN s t d = a := by unfold aN; rw [q2, nI_clamp (by omega)]
      have A : AtR sd s u t p d a := ⟨q2, q1, q4, q3⟩
      rw [if_neg (by rw [q2]; exact nI_n1 (by omega)), eA]
      by_cases k14 : s.1 68 p a = 14
      · exact sim_send ht w A Q k14 hn
      · exact ⟨n, Nat.le_refl _, by omega, sim_perf ht w A Q k14⟩
  by_cases h0 : s.1 39 t 0 = 0
  · rw [if_pos h0]
    rcases Nat.lt_or_ge c 1 with h1 | h1
    · rw [if_pos ((nI_0lt (by omega)).mpr (by omega))]
      exact rest (fun z => by have := e0.mp z.2; omega)
    · rw [if_neg (nI_nle (by omega) (by omega))]
      obtain ⟨y, s', u', a1, a2, a3, a4, a5, a6, a7⟩ := sim_take ht w P Q h1
      refine ⟨n, Nat.le_refl _, by omega, y, s', u', ?_, by rw [a2, cal2_s], a4, a5, a6, a7, by rcases a3 with z | z <;> simp [z]⟩
      unfold st1R
      rw [if_pos ⟨h0, e0.mpr h1⟩]
      exact a1
  · rw [if_neg h0]
    exact rest (fun z => h0 z.1)
theorem WR.steps {sd : Nat → Nat → Nat} {pc n t : Nat} {s u : St} {x : Int32} (ht : t < 6) (w : WR sd pc n s u) : WR sd pc n (si s 40 t 0 x) (si u 243 0 t x) := by
  have ac : Ac t s (si s 40 t 0 x) := (Ac.refl t s).si (PC.a (by omega))
  have ag : Ag t u (si u 243 0 t x) := (Ag.refl t u).si (PT.a (by omega))
  have hc : ∀ g, g < 6 → cN s g ≤ 22 := fun g hg => (w.th g hg).cN
  refine ⟨w.wc.fw ht ac ag (SbR.eq (si_o (by decide)) (fun k => si_o (by decide)) (fun k _ => si_o (by decide)) (hc t ht)) (si_o (by decide)) hc (GV_si w.wc.gv trivial) (w.wc.nr.lv (fun id _ _ => ⟨si_id (by omega), rfl⟩) (fun id _ => ⟨by rw [si_id (by omega)], rfl⟩)), fun g hg => ?_⟩
  by_cases hgt : g = t
  · subst hgt
    have h := w.th g hg
    refine ⟨⟨by rw [si_o (by decide), si_o (by decide)]; exact h.tb.st, by rw [si_eq, si_eq], h.tb.di, h.tb.lo⟩, by rw [si_o (by decide)]; exact h.nu, ?_⟩
    rw [si_o (by decide)]
    rcases h.ru with ⟨r1, p, d, c, r2, T, P, Q⟩ | ⟨r1, I⟩
    · refine Or.inl ⟨r1, p, d, c, r2, T.to (fun id e z => ⟨si_o (by omega), rfl⟩) (si_id (by decide)) (si_id (by decide)) (by rw [si_o (by decide)]; exact Nat.le_refl _) (by rw [si_id (by decide)]) (by rw [si_id (by decide)]) (fun id e _ z => ⟨si_o (by omega), rfl⟩), ?_, ?_⟩
      · unfold PS at *; rw [nS_to ac.ap, si_o (by decide), si_o (by decide)]; exact P
      · unfold SP at *; rw [nS_to ac.ap, si_o (by decide), si_o (by decide), si_id (by decide), si_id (by decide)]; exact Q
    · exact Or.inr ⟨r1, by rw [si_o (by decide)]; exact I.a0, by rw [si_o (by decide)]; exact I.a1, by rw [si_o (by decide)]; exact I.a2, by rw [si_o (by decide)]; exact I.a3, by rw [si_o (by decide)]; exact I.a4, by rw [si_o (by decide)]; exact I.a5⟩
  · exact (w.th g hg).fw hgt ac ag
/-- a TURN of a THREAD that runs -/
theorem sim_turn {sd : Nat → Nat → Nat} {pc n ck t : Nat} {s u : St} (ht : t < 6) (w : WR sd pc n s u) (hr : s.1 38 t 0 = 1) (hc : s.1 16 0 0 = nI ck) (hk : ck + 1 < 2 ^ 30) (hn : n + 1 < 2 ^ 30) :
    TW s t ∧ ∃ y s' u' n', turnR s t = (y, s') ∧ r_turnOnce (nI t) u = some (y, u') ∧ n ≤ n' ∧ n' ≤ n + 1 ∧ WR sd pc n' s' u' ∧ s'.1 16 0 0 = nI (ck + 1) ∧ Fc0 s s' ∧ Fr u u' ∧ Cl u u' ∧ (y = 0 ∨ y = 1 ∨ y = 2 ∨ y = 3 ∨ y = 4) := by
  obtain ⟨u1, a1, a2, a3, a4, a5, a6, a7⟩ := sim_tick w hc hk
  obtain ⟨p, d, c, w1, P1, Q1⟩ := a2.wt ht (by rw [a7]; exact hr)
  obtain ⟨v, s2, u2, d2, c2, b1, b2, w2, b4, b5, b6, b7⟩ := sim_set ht w1 P1 Q1
  have n40 := w2.ev.pr.n4.2
  have h12 := w2.ev.p12
  have h8 := w2.tc.d8
  have hd2 : dN s2 t = d2 := dN_of w2.tc.ds h8
  have hp2 : pN s2 t = p := pN_of w2.tc.hp (by omega)
  have hTW : TW s t := by
    have nx : ∀ a, a < nS s2 p → s2.1 3 t d2 = nI a → s2.1 3 t (dN s2 t) = nI (aN s2 t (dN s2 t)) ∧ SW s2 (pN s2 t) (aN s2 t (dN s2 t)) := fun a q1 q2 => by
      have eA : aN s2 t d2 = a := by unfold aN; rw [q2, nI_clamp (by omega)]
      rw [hd2, hp2, eA]
      exact ⟨q2, w2.sw q1⟩
    refine ⟨?_, fun h5 => ?_⟩
    · rw [b1]
      intro z
      rcases b7 with ⟨-, P, -⟩ | ⟨-, -, -, a, q1, q2⟩
      · rcases P with ⟨p1, -⟩ | ⟨a, q1, q2, -⟩
        · have : dN (v, s2).2 t = d2 := hd2
          rw [this] at z
          exact absurd p1 z
        · exact nx a q1 q2
      · exact nx a q1 q2
    · unfold stepR at h5 ⊢
      rw [b1] at h5 ⊢
      rcases b7 with ⟨z, -⟩ | ⟨z, -⟩
      · subst z
        rw [if_pos (show ((0 : Int32), s2).1 = 0 from rfl)] at h5 ⊢
        exact LW_to w2.lw (fun id q => st1_5 q h5)
      · subst z
        rw [if_neg (show ¬ ((1 : Int32), s2).1 = 0 from (by decide : ¬ (1 : Int32) = 0))]; exact w2.lw
  refine ⟨hTW, ?_⟩
  have main : ∃ n', n ≤ n' ∧ n' ≤ n + 1 ∧ OutT sd pc n' s2 u2 (if (stepR (tick s) t).1 = 5 then unwS t (dN (stepR (tick s) t).2 t) (stepR (tick s) t).2 else stepR (tick s) t) (r_turnOf (nI t) u1) := by
    unfold stepR r_turnOf
    rw [b1, b2, cal2_s]
    rcases b7 with ⟨z, P, Q⟩ | ⟨z, hT, h44, -⟩
    · subst z
      rw [if_pos (show ((0 : Int32), s2).1 = 0 from rfl), if_pos (show (0 : Int32) = 0 from rfl)]
      exact sim_st1 ht w2 P Q hn
    · subst z
      rw [if_neg (show ¬ ((1 : Int32), s2).1 = 0 from (by decide : ¬ (1 : Int32) = 0)), if_pos (show ((5 : Int32), s2).1 = 5 from rfl), if_neg (show ¬ (1 : Int32) = 0 by decide), gI (by omega) (by decide), nI_clamp (by omega), w2.tc.du]
      simp only [m9]
      rw [gI (by omega) (by decide), nI_clamp (by omega)]
      refine ⟨n, Nat.le_refl _, by omega, ?_⟩
      rcases hT.2 with ⟨q1, q2⟩ | ⟨q1, o, o1, o2, o3⟩
      · rw [if_neg (by rw [q1]; decide)]
        unfold r_turnOf_38
        rw [gI (by omega) (by decide), nI_clamp (by omega), gI (by omega) (by decide)]
        exact out_raise ht w2 h44 ⟨hT.1, Or.inl ⟨rfl, q2⟩⟩
      · rw [if_pos q1]
        unfold r_turnOf_38
        rw [gI (by omega) (by decide), nI_clamp (by omega), gI (by omega) (by decide)]
        exact out_raise ht w2 h44 ⟨hT.1, Or.inr ⟨rfl, o, o1, o2, o3⟩⟩
  obtain ⟨n', m1, m2, y, s3, u3, m3, m4, m5, m6, m7, m8, m9⟩ := main
  have hclk : s3.1 16 0 0 = nI (ck + 1) := by rw [(m6 16 (Or.inl rfl)).1, (b4 16 (Or.inl rfl)).1]; exact a4
  have fc : Fc0 s s3 := (a3.trans b4.z).trans m6.z
  have fr : Fr u u3 := (a5.trans b5).trans m7
  have cl : Cl u u3 := (a6.trans b6).trans m8
  unfold turnR endR r_turnOnce
  rw [m3, bnd_d, bnd_d, a1, cal_s, m4, cal2_s, gI (by omega) (by decide), nI_clamp (by omega)]
  have sp := (m5.th t ht).tb.sp
  by_cases y4 : y = 4
  · subst y4
    refine ⟨4, s3, si u3 243 0 t (u3.1 243 0 t), n', rfl, ?_, m1, m2, ?_, hclk, fc, ?_, ?_, by simp⟩
    · rw [if_pos (by decide), gI (by omega) (by decide), Int32.add_zero]
    · rw [si_same rfl]; exact m5
    · rw [si_same rfl]; exact fr
    · rw [si_same rfl]; exact cl
  · refine ⟨y, si s3 40 t 0 (s3.1 40 t 0 + 1), si u3 243 0 t (u3.1 243 0 t + 1), n', by rw [if_neg y4], ?_, m1, m2, ?_, by rw [si_o (by decide)]; exact hclk, fc.trans (fun id z => ⟨si_id (by omega), rfl⟩), fr.trans (fun id z1 z2 => ⟨by rw [si_id (by omega)], rfl⟩), cl.trans ((Cl.refl u3).si (by decide)), m9⟩
    · rw [if_neg (by rcases m9 with z | z | z | z | z; (· rw [z]; decide); (· rw [z]; decide); (· rw [z]; decide); (· rw [z]; decide); exact absurd z y4), gI (by omega) (by decide)]
    · rw [sp]; exact m5.steps ht
