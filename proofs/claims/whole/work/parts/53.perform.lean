/-! a statement is performed, on both sides -/
def OutT (sd : Nat → Nat → Nat) (pc n : Nat) (s u : St) (R : Int32 × St) (o : Option (Int32 × St)) : Prop :=
  ∃ y s' u', R = (y, s') ∧ o = some (y, u') ∧ WR sd pc n s' u' ∧ Fc s s' ∧ Fr u u' ∧ Cl u u' ∧ (y = 0 ∨ y = 1 ∨ y = 2 ∨ y = 3 ∨ y = 4)
theorem OutT.pre {sd : Nat → Nat → Nat} {pc n : Nat} {s u s1 u1 : St} {R : Int32 × St} {o : Option (Int32 × St)} (h : OutT sd pc n s1 u1 R o) (f : Fc s s1) (g : Fr u u1) (l : Cl u u1) : OutT sd pc n s u R o := by
  obtain ⟨y, s', u', h1, h2, h3, h4, h5, h6, h7⟩ := h
  exact ⟨y, s', u', h1, h2, h3, f.trans h4, g.trans h5, l.trans h6, h7⟩
def uw (r : Int32 × St) (t : Nat) : Int32 × St := if r.1 = 5 then unwS t (dN r.2 t) r.2 else r
theorem uw0 {X : St} {t : Nat} : uw (st2R X 0 t) t = (0, X) := by
  unfold st2R; rw [if_neg (fun z => absurd z.1 (by decide))]; rfl
theorem uw5 {X : St} {t : Nat} : uw (st2R X 5 t) t = unwS t (dN X t) X := by
  unfold st2R; rw [if_neg (fun z => absurd z.1 (by decide))]; rfl
/-- where a THREAD stands: at statement a -/
def AtR (sd : Nat → Nat → Nat) (s u : St) (t p d a : Nat) : Prop := (s.1 3 t d = nI a) ∧ (a < nS s p) ∧ (sd p a = d) ∧ (u.1 241 0 t = nI (40 * p + a))
theorem AtR.h3 {sd : Nat → Nat → Nat} {s u : St} {t p d a : Nat} (h : AtR sd s u t p d a) : s.1 3 t d = nI a := h.1
theorem AtR.ha {sd : Nat → Nat → Nat} {s u : St} {t p d a : Nat} (h : AtR sd s u t p d a) : a < nS s p := h.2.1
theorem AtR.sdd {sd : Nat → Nat → Nat} {s u : St} {t p d a : Nat} (h : AtR sd s u t p d a) : sd p a = d := h.2.2.1
theorem AtR.hu {sd : Nat → Nat → Nat} {s u : St} {t p d a : Nat} (h : AtR sd s u t p d a) : u.1 241 0 t = nI (40 * p + a) := h.2.2.2
theorem AtR.to {sd : Nat → Nat → Nat} {s u s1 u1 : St} {t p d a : Nat} (h : AtR sd s u t p d a) (e3 : s1.1 3 t d = s.1 3 t d) (e64 : s1.1 64 = s.1 64) (eu : u1.1 241 0 t = u.1 241 0 t) : AtR sd s1 u1 t p d a :=
  ⟨e3.trans h.h3, by unfold nS; rw [e64]; exact h.ha, h.sdd, eu.trans h.hu⟩
theorem AtR.ps {sd : Nat → Nat → Nat} {s u : St} {t p d a : Nat} (h : AtR sd s u t p d a) : PS sd s u t p d := Or.inr ⟨a, h.ha, h.h3, h.hu, h.sdd⟩
theorem WT.a40 {sd : Nat → Nat → Nat} {pc n t p d c a : Nat} {s u : St} (w : WT sd pc n s u t p d c) (h : AtR sd s u t p d a) : a < 40 ∧ p < 12 := by
  have h1 := w.ev.pr.n4.2
  have h2 := h.ha
  exact ⟨by omega, w.ev.p12⟩
theorem out_beh {sd : Nat → Nat → Nat} {pc n t p d c a : Nat} {s u : St} (ht : t < 6) (w : WT sd pc n s u t p d c) (h : AtR sd s u t p d a) (h44 : s.1 44 t 0 = -1) : OutT sd pc n s u (0, behS s t) (r_turnOf_656 (nI t) (nI (40 * p + a)) u) := by
  obtain ⟨a40, p12⟩ := w.a40 h
  obtain ⟨B1, B2, B3, B4⟩ := sim_beh w.ev w.tc h.h3 h.ha h.sdd
  refine ⟨0, behS s t, bhU u t (40 * p + a), rfl, ?_, (w.fm ht B3 B4 B1).wr B2 (Or.inl (by rw [(B3.ks 44 (by omega)).1]; exact h44)), B3.ac.fc, B3.ag.fr, B3.cl, Or.inl rfl⟩
  unfold r_turnOf_656
  rw [gI (by omega) (by decide), nI_clamp (by omega), gI (by omega) (by decide), nI_clamp (by omega)]
  rfl
theorem out_in {sd : Nat → Nat → Nat} {pc n t p d c a q : Nat} {s u : St} {y : Int32} (ht : t < 6) (w : WT sd pc n s u t p d c) (h : AtR sd s u t p d a) (h44 : s.1 44 t 0 = -1) (hq : q < 3) (hb : u.1 220 0 (3 * (40 * p + a) + q) = 1) (hy : okN 3 y) : OutT sd pc n s u (0, inS s t q y) (cal (r_goIn (nI t) (nI (40 * p + a)) (nI q) y u) fun q => some ((0 : Int32), q)) := by
  obtain ⟨B0, B1, B2, B3, B4⟩ := sim_in ht w.ev w.tc h.h3 h.ha h.sdd hq hb hy
  exact ⟨0, _, _, rfl, by rw [B0, cal_s], (w.fm ht B3 B4 B1).wr B2 (Or.inl (by rw [(B3.ks 44 (by omega)).1]; exact h44)), B3.ac.fc, B3.ag.fr, B3.cl, Or.inl rfl⟩
theorem out_wait {sd : Nat → Nat → Nat} {pc n t p d c : Nat} {s u : St} (ht : t < 6) (w : WT sd pc n s u t p d c) (P : PS sd s u t p d) (Q : SP s t p d) : OutT sd pc n s u (uw (st2R s 4 t) t) (cal2 (r_waits (nI t) u) fun v1 s1 => some (v1, s1)) := by
  have hc := w.tc.rw.c22
  have e0 : 0 < s.1 80 t 0 ↔ 1 ≤ c := by rw [w.tc.rw.cs]; exact nI_ltiff (a := 0) (by decide) (by omega)
  by_cases h1 : s.1 39 t 0 = 1
  · rcases Nat.lt_or_ge c 1 with h2 | h2
    · refine ⟨4, s, u, ?_, ?_, w.wr P Q, Fc.refl s, Fr.refl u, Cl.refl u, by simp⟩
      · unfold st2R; rw [if_neg (fun z => by have := e0.mp z.2.2; omega)]; rfl
      · unfold r_waits r_waits_27
        rw [gI (by omega) (by decide), nI_clamp (by omega), ← w.tc.st, if_pos h1, gI (by omega) (by decide), w.tc.rw.cu, if_pos ((nI_0lt (by omega)).mpr (by omega)), cal2_s]
    · obtain ⟨y, s', u', a1, a2, a3, a4, a5, a6, a7⟩ := sim_take ht w P Q h2
      refine ⟨y, s', u', ?_, ?_, a4, a5, a6, a7, by rcases a3 with z | z <;> simp [z]⟩
      · unfold st2R; rw [if_pos ⟨rfl, h1, e0.mpr h2⟩]; exact a1
      · unfold r_waits
        rw [gI (by omega) (by decide), nI_clamp (by omega), ← w.tc.st, if_pos h1, gI (by omega) (by decide), w.tc.rw.cu, if_neg (nI_nle (by omega) (by omega)), a2, cal2_s, cal2_s]
  · refine ⟨4, s, u, ?_, ?_, w.wr P Q, Fc.refl s, Fr.refl u, Cl.refl u, by simp⟩
    · unfold st2R; rw [if_neg (fun z => h1 z.2.1)]; rfl
    · unfold r_waits r_waits_27
      rw [gI (by omega) (by decide), nI_clamp (by omega), ← w.tc.st, if_neg h1, cal2_s]
theorem out_raise {sd : Nat → Nat → Nat} {pc n t p d c : Nat} {s u : St} {x2 x5 : Int32} {v : Int64} (ht : t < 6) (w : WT sd pc n s u t p d c) (h44 : s.1 44 t 0 = -1) (hT : TF s t x2 v x5) :
    OutT sd pc n s u (unwS t (dN s t) s) (cal2 (r_throwOut (nI t) x2 v x5 u) fun v9 s8 => cal2 (r_thrown v9 s8) fun v11 s10 => some (v11, s10)) := by
  obtain ⟨y, s', u', a1, a2, a3, a4, a5, a6, a7⟩ := sim_raise ht w h44 hT
  exact ⟨y, s', u', a1, a2, a4, a5, a6, a7, by rcases a3 with z | z <;> simp [z]⟩
/-- after an exp is worked -/
theorem WT.wk {sd : Nat → Nat → Nat} {pc n t p d c : Nat} {s s1 u u1 : St} (ht : t < 6) (w : WT sd pc n s u t p d c) (g1 : s1.1 = s.1) (g2 : ∀ id, id ≠ 77 → s1.2 id = s.2 id) (h1 : u1.1 = u.1) (h2 : ∀ id, id ≠ 268 → u1.2 id = u.2 id) : WT sd pc n s1 u1 t p d c ∧ Fc s s1 ∧ Fr u u1 ∧ Cl u u1 := by
  have hc := w.tc.rw.c22
  have F : Fm t s u s1 u1 := by
    refine Fm.mk1 (w.cN t ht) (fun id o e hn => ?_) (fun id e hn => ?_) (fun id hi => ?_) (fun id hi => ?_) (fun id hi => ?_) (by rw [g1]) (fun k => by rw [g1]) (fun k _ => by rw [h1])
    · rw [g1, g2 id (fun z => hn (Or.inr (Or.inr z)))]; exact ⟨rfl, rfl⟩
    · rw [h1, h2 id (fun z => hn (Or.inr (Or.inr (Or.inr (Or.inr ⟨by omega, by omega⟩)))))]; exact ⟨rfl, rfl⟩
    · rw [h1, h2 id (by omega)]; exact ⟨rfl, rfl⟩
    · rw [g1, g2 id (by omega)]; exact ⟨rfl, rfl⟩
    · rw [h1, h2 id (by omega)]; exact ⟨rfl, rfl⟩
  have E := w.ev.to F (w.wc.nr.lv (fun id z1 z2 => ⟨by rw [g1], g2 id (by omega)⟩) (fun id z => ⟨by rw [h1], by rw [h2 id (by omega)]⟩)) (GV_1 g1 w.wc.gv)
  refine ⟨w.fm ht F E (w.tc.to (fun id e hi => ⟨by rw [g1], by rw [g2 id (by omega)]⟩) (by rw [g1]) (by rw [g1]) (by rw [g1]; exact Nat.le_refl _) (by rw [h1]) (by rw [h1]) (fun id e _ hi => ⟨by rw [h1], by rw [h2 id (by omega)]⟩)), F.ac.fc, F.ag.fr, F.cl⟩
/-- after a note -/
theorem WT.tell {sd : Nat → Nat → Nat} {pc n t p d c : Nat} {s u u2 : St} {k x : Int32} {v : Int64} (ht : t < 6) (w : WT sd pc n s u t p d c) (n2 : NR (tellS s 0 k x v) u2) (n3 : NtK u u2) : WT sd pc n (tellS s 0 k x v) u2 t p d c ∧ Fc s (tellS s 0 k x v) ∧ Fr u u2 ∧ Cl u u2 := by
  have F : Fm t s u (tellS s 0 k x v) u2 := Fm.mk1 (w.cN t ht) Ac_tell n3.ag n3.cl (fun id hi => by rw [(tell_c (by omega)).1, (tell_c (by omega)).2]; exact ⟨rfl, rfl⟩) (fun id hi => by rw [(n3 id (by omega)).1, (n3 id (by omega)).2]; exact ⟨rfl, rfl⟩) (by rw [(tell_c (by decide)).1]) (fun k => by rw [(tell_c (by decide)).1]) (fun k _ => by rw [(n3 259 (by omega)).1])
  exact ⟨w.fm ht F (w.ev.to F n2 (GV_tell w.wc.gv)) (w.tc.to (fun id e hi => by rw [(tell_c (by omega)).1, (tell_c (by omega)).2]; exact ⟨rfl, rfl⟩) (tell_c (by decide)).1 (tell_c (by decide)).1 (by rw [(tell_c (by decide)).1]; exact Nat.le_refl _) (by rw [(n3 216 (by omega)).1]) (by rw [(n3 220 (by omega)).1]) (fun id e _ hi => by rw [(n3 id (by omega)).1, (n3 id (by omega)).2]; exact ⟨rfl, rfl⟩)), F.ac.fc, F.ag.fr, F.cl⟩
/-- what is to be THROWN -/
theorem WT.t45 {sd : Nat → Nat → Nat} {pc n t p d c : Nat} {s u : St} {y : Int32} {v : Int64} (ht : t < 6) (w : WT sd pc n s u t p d c) (hy : okN 9 y) : WT sd pc n (si (sl s 45 t 0 v) 46 t 0 y) u t p d c ∧ Fc s (si (sl s 45 t 0 v) 46 t 0 y) := by
  have F : Fm t s u (si (sl s 45 t 0 v) 46 t 0 y) u := Fm.mk1 (w.cN t ht) (((Ac.refl t s).sl (PC.a (by omega))).si (PC.a (by omega))) (Ag.refl t u) (Cl.refl u) (fun id hi => ⟨by rw [si_id (by omega)]; rfl, by rw [si_2, sl_id (by omega)]⟩) (fun _ _ => ⟨rfl, rfl⟩) (by rw [si_o (by decide)]; rfl) (fun k => by rw [si_o (by decide)]; rfl) (fun _ _ => rfl)
  exact ⟨w.fm ht F (w.ev.to F (w.wc.nr.lv (fun id _ _ => ⟨si_id (by omega), by rw [si_2, sl_id (by omega)]⟩) (fun _ _ => ⟨rfl, rfl⟩)) (GV_si (GV_sl w.wc.gv) hy)) (w.tc.to (fun id e hi => ⟨si_o (by omega), by rw [si_2, sl_o (by omega)]⟩) (by rw [si_id (by decide)]; rfl) (by rw [si_id (by decide)]; rfl) (by rw [si_o (by decide)]; exact Nat.le_refl _) rfl rfl (fun _ _ _ _ => ⟨rfl, rfl⟩)), F.ac.fc⟩
/-- locals and boxes anew -/
theorem TH.lb {sd : Nat → Nat → Nat} {pc g : Nat} {s u s1 u1 : St} (h : TH sd pc s u g) (hs : ∀ id, ¬ (id = 34 ∨ id = 114 ∨ id = 115) → s1.1 id = s.1 id ∧ s1.2 id = s.2 id) (hu : ∀ id, ¬ (id = 245 ∨ id = 238 ∨ id = 239) → u1.1 id 0 = u.1 id 0 ∧ u1.2 id 0 = u.2 id 0) (lo : ∀ k, k < 10 → s1.2 34 g k = u1.2 245 0 (10 * g + k)) : TH sd pc s1 u1 g := by
  refine ⟨⟨?_, ?_, ?_, lo⟩, ?_, ?_⟩
  · rw [(hs 38 (by omega)).1, (hu 240 (by omega)).1]; exact h.tb.st
  · rw [(hs 40 (by omega)).1, (hu 243 (by omega)).1]; exact h.tb.sp
  · rw [(hs 43 (by omega)).2, (hu 244 (by omega)).2]; exact h.tb.di
  · rw [(hs 32 (by omega)).1]; exact h.nu
  · rw [(hs 38 (by omega)).1]
    rcases h.ru with ⟨r1, p, d, c, r2, T, P, Q⟩ | ⟨r1, I⟩
    · refine Or.inl ⟨r1, p, d, c, r2, T.to (fun id e hi => ⟨by rw [(hs id (by omega)).1], by rw [(hs id (by omega)).2]⟩) (hs 64 (by omega)).1 (hs 70 (by omega)).1 (by rw [(hs 16 (by omega)).1]; exact Nat.le_refl _) (hu 216 (by omega)).1 (hu 220 (by omega)).1 (fun id e _ hi => ⟨by rw [(hu id (by omega)).1], by rw [(hu id (by omega)).2]⟩), ?_, ?_⟩
      · unfold PS nS at *
        rw [(hs 64 (by omega)).1, (hs 3 (by omega)).1, (hu 241 (by omega)).1]; exact P
      · unfold SP nS at *
        rw [(hs 64 (by omega)).1, (hs 3 (by omega)).1, (hs 44 (by omega)).1, (hs 68 (by omega)).1, (hs 70 (by omega)).1]; exact Q
    · exact Or.inr ⟨r1, by rw [(hs 80 (by omega)).1]; exact I.a0, by rw [(hu 255 (by omega)).1]; exact I.a1, by rw [(hs 39 (by omega)).1]; exact I.a2, by rw [(hs 41 (by omega)).1]; exact I.a3, by rw [(hs 42 (by omega)).1]; exact I.a4, by rw [(hs 44 (by omega)).1]; exact I.a5⟩
theorem SG.lb {s u s1 u1 : St} {n : Nat} (h : SG s u n) (h44 : s1.1 44 = s.1 44) (h80 : s1.1 80 = s.1 80) (h81 : s1.1 81 = s.1 81) (hu : ∀ id, id = 259 ∨ id = 260 ∨ id = 261 ∨ id = 262 → u1.1 id 0 = u.1 id 0) : SG s1 u1 n := by
  refine ⟨h.n30, by rw [hu 260 (by omega)]; exact h.sr, fun t ht => ?_, fun t t' ht ht' => ?_, fun g k hg hk => ?_⟩
  · unfold SE; rw [h44, hu 261 (by omega), hu 262 (by omega)]; exact h.se t ht
  · rw [hu 261 (by omega)]; exact h.di t t' ht ht'
  · unfold cN at hk
    rw [h80] at hk
    unfold RS; rw [h44, h81, hu 259 (by omega), hu 261 (by omega)]; exact h.rs g k hg hk
theorem WT.lb {sd : Nat → Nat → Nat} {pc n t p d c : Nat} {s u s1 u1 : St} (w : WT sd pc n s u t p d c) (hs : ∀ id, ¬ (id = 34 ∨ id = 114 ∨ id = 115) → s1.1 id = s.1 id ∧ s1.2 id = s.2 id) (hu : ∀ id, ¬ (id = 245 ∨ id = 238 ∨ id = 239) → u1.1 id 0 = u.1 id 0 ∧ u1.2 id 0 = u.2 id 0)
    (lo : ∀ g k, g < 6 → k < 10 → s1.2 34 g k = u1.2 245 0 (10 * g + k)) (bx : ∀ b, b < 8 → s1.1 114 0 b = u1.1 238 0 b ∧ s1.2 115 0 b = u1.2 239 0 b) (hG : GV s1) (ht : t < 6) : WT sd pc n s1 u1 t p d c ∧ Fc s s1 ∧ Fr u u1 := by
  have fc : Fc s s1 := fun id z => hs id (by omega)
  have fr : Fr u u1 := fun id z1 z2 => hu id (by omega)
  refine ⟨⟨⟨hG, w.wc.nr.lv (fun id z1 z2 => hs id (by omega)) (fun id z => hu id (by omega)), by rw [(hs 16 (by omega)).1]; exact w.wc.ck, w.wc.pp.to fc fr, w.wc.sg.lb (hs 44 (by omega)).1 (hs 80 (by omega)).1 (hs 81 (by omega)).1 (fun id z => (hu id (by omega)).1), bx⟩, fun g hg hn => (w.th g hg hn).lb hs hu (fun k hk => lo g k hg hk), ⟨?_, ?_, ?_, fun k hk => lo t k ht hk⟩, ?_, ?_, w.hp, ?_⟩, fc, fr⟩
  · rw [(hs 38 (by omega)).1, (hu 240 (by omega)).1]; exact w.tb.st
  · rw [(hs 40 (by omega)).1, (hu 243 (by omega)).1]; exact w.tb.sp
  · rw [(hs 43 (by omega)).2, (hu 244 (by omega)).2]; exact w.tb.di
  · rw [(hs 32 (by omega)).1]; exact w.nu
  · exact w.tc.to (fun id e hi => ⟨by rw [(hs id (by omega)).1], by rw [(hs id (by omega)).2]⟩) (hs 64 (by omega)).1 (hs 70 (by omega)).1 (by rw [(hs 16 (by omega)).1]; exact Nat.le_refl _) (hu 216 (by omega)).1 (hu 220 (by omega)).1 (fun id e _ hi => ⟨by rw [(hu id (by omega)).1], by rw [(hu id (by omega)).2]⟩)
  · rw [(hs 38 (by omega)).1]; exact w.rn
theorem WT.lo {sd : Nat → Nat → Nat} {pc n t p d c : Nat} {s u : St} (w : WT sd pc n s u t p d c) (g k : Nat) (hg : g < 6) (hk : k < 10) : s.2 34 g k = u.2 245 0 (10 * g + k) := by
  by_cases h : g = t
  · subst h; exact w.tb.lo k hk
  · exact (w.th g hg h).tb.lo k hk
/-- a local is set -/
theorem WT.loc {sd : Nat → Nat → Nat} {pc n t p d c b : Nat} {s u : St} {v : Int64} (ht : t < 6) (hb : b < 10) (w : WT sd pc n s u t p d c) : WT sd pc n (sl s 34 t b v) (sl u 245 0 (10 * t + b) v) t p d c ∧ Fc s (sl s 34 t b v) ∧ Fr u (sl u 245 0 (10 * t + b) v) := by
  refine w.lb (fun id z => ⟨rfl, sl_id (by omega)⟩) (fun id z => ⟨rfl, by rw [sl_id (by omega)]⟩) (fun g k hg hk => ?_) (fun q hq => ?_) (GV_sl w.wc.gv) ht
  · by_cases z : g = t ∧ k = b
    · obtain ⟨rfl, rfl⟩ := z; rw [sl_e, sl_e]
    · rw [sl_r, if_neg (fun q => z ⟨q.2.1, q.2.2⟩), sl_q (by omega)]; exact w.lo g k hg hk
  · rw [sl_1, sl_1, sl_o (by decide), sl_o (by decide)]; exact w.wc.bx q hq
/-- into a body, or behind a statement that has no such body -/
theorem out_342 {sd : Nat → Nat → Nat} {pc n t p d c a q : Nat} {s u : St} {y : Int32} (ht : t < 6) (w : WT sd pc n s u t p d c) (h : AtR sd s u t p d a) (h44 : s.1 44 t 0 = -1) (hq : q < 3) (hy : okN 3 y) : OutT sd pc n s u (0, inS s t q y) (r_turnOf_342 (nI t) (nI (40 * p + a)) y (nI q) u) := by
  obtain ⟨a40, p12⟩ := w.a40 h
  unfold r_turnOf_342
  rw [m3, gI (by omega) (by decide), nI_clamp (by omega)]
  by_cases hb : u.1 220 0 (3 * (40 * p + a) + q) = 1
  · rw [if_neg (by rw [hb]; decide)]; exact out_in ht w h h44 hq hb hy
  · have hb0 : u.1 220 0 (3 * (40 * p + a) + q) = 0 := by
      rcases (w.ev.pr.st a h.ha).bd q hq with z | z
      · exact z.2
      · exact absurd z.1 hb
    rw [if_pos hb0, in_no w.ev w.tc h.h3 h.ha hq hb]; exact out_beh ht w h h44
theorem sim_perf {sd : Nat → Nat → Nat} {pc n t p d c a : Nat} {s u : St} (ht : t < 6) (w : WT sd pc n s u t p d c) (h : AtR sd s u t p d a) (Q : SP s t p d) (hs : ¬ s.1 68 p a = 14) :
    OutT sd pc n s u (uw (st2R (pfS s t a) (pfV s t a) t) t) (r_turnOf_81 (nI t) u) := by
  obtain ⟨a40, p12⟩ := w.a40 h
  have S := w.ev.pr.st a h.ha
  have pe : pN s t = p := pN_of w.tc.hp (by omega)
  have x44 : s.1 44 t 0 = -1 := by
    rcases Q with z | ⟨a', z1, z2, z3, -⟩
    · exact z
    · have n40 := w.ev.pr.n4.2
      have : a' = a := (nI_eq (by omega) (by omega)).mp (z2.symm.trans h.h3)
      rw [this] at z3; exact absurd z3 hs
  have y39 : okN 3 (s.1 39 t 0) := w.wc.gv 39 t 0
  have lo := fun b hb => w.tb.lo b hb
  have kd := S.kd
  unfold KM at kd
  simp only [List.mem_cons, Prod.mk.injEq, List.not_mem_nil, or_false] at kd
  rcases kd with ⟨k1, k2⟩ | ⟨k1, k2⟩ | ⟨k1, k2⟩ | ⟨k1, k2⟩ | ⟨k1, k2⟩ | ⟨k1, k2⟩ | ⟨k1, k2⟩ | ⟨k1, k2⟩ | ⟨k1, k2⟩ | ⟨k1, k2⟩ | ⟨k1, k2⟩ | ⟨k1, k2⟩ | ⟨k1, k2⟩ | ⟨k1, k2⟩
  · -- note
    obtain ⟨u1, b1, b2, b3⟩ := sim_work (t := t) (by omega) (S.xp (by rw [k2]; decide)) lo
    obtain ⟨w1, f1, g1, l1⟩ := w.wk (s1 := wS s t p a) ht wS_1 (fun id z => wS_2 z) b2 b3
    obtain ⟨u2, n1, n2, n3⟩ := sim_note (t := t) (k := 0) (x := nI t) (v := wV s t p a) (by omega) w1.wc.nr (w1.wc.gv.H 1) (fun _ => rfl)
    rw [show co t = 0 by unfold co; rw [if_pos ht]] at n2
    obtain ⟨w2, f2, g2, l2⟩ := w1.tell ht n2 n3
    have pS : pfS s t a = behS (tellS (wS s t p a) 0 0 (nI t) (wV s t p a)) t := by unfold pfS; rw [pe, k2, if_neg (by decide), if_pos rfl, w.nu]
    have pV : pfV s t a = 0 := by unfold pfV; rw [pe, k2, if_neg (by decide), if_neg (by decide), if_neg (by decide), if_neg (by decide)]
    have hR : r_turnOf_81 (nI t) u = r_turnOf_656 (nI t) (nI (40 * p + a)) u2 := by
      unfold r_turnOf_81; rw [gI (by omega) (by decide), nI_clamp (by omega), h.hu, if_pos (nI_pos' (by omega)), gI (by omega) (by decide), gI (by omega) (by decide), nI_clamp (by omega), k1, if_pos rfl, gI (by omega) (by decide), b1, cal2_s, n1, cal_s]
    rw [pS, pV, uw0, hR]
    exact (out_beh ht w2 (h.to (by rw [(tell_c (by decide)).1, wS_1]) (by rw [(tell_c (by decide)).1, wS_1]) (by rw [(n3 241 (by omega)).1, b2])) (by rw [(tell_c (by decide)).1, wS_1]; exact x44)).pre (f1.trans f2) (g1.trans g2) (l1.trans l2)
  · -- if
    obtain ⟨u1, b1, b2, b3⟩ := sim_work (t := t) (by omega) (S.xp (by rw [k2]; decide)) lo
    obtain ⟨w1, f1, g1, l1⟩ := w.wk (s1 := wS s t p a) ht wS_1 (fun id z => wS_2 z) b2 b3
    have A1 : AtR sd (wS s t p a) u1 t p d a := h.to (by rw [wS_1]) (by rw [wS_1]) (by rw [b2])
    have pS : pfS s t a = if wV s t p a = 0 then inS (wS s t p a) t 1 (s.1 39 t 0) else inS (wS s t p a) t 0 (s.1 39 t 0) := by unfold pfS; rw [pe, k2, if_neg (by decide), if_neg (by decide), if_pos rfl, wS_1]
    have pV : pfV s t a = 0 := by unfold pfV; rw [pe, k2, if_neg (by decide), if_neg (by decide), if_neg (by decide), if_neg (by decide)]
    have hR : r_turnOf_81 (nI t) u = if wV s t p a = 0 then r_turnOf_342 (nI t) (nI (40 * p + a)) (s.1 39 t 0) (nI 1) u1 else r_turnOf_342 (nI t) (nI (40 * p + a)) (s.1 39 t 0) (nI 0) u1 := by
      unfold r_turnOf_81; rw [gI (by omega) (by decide), nI_clamp (by omega), h.hu, if_pos (nI_pos' (by omega)), gI (by omega) (by decide), gI (by omega) (by decide), nI_clamp (by omega), k1, if_neg (by decide), if_pos rfl, gI (by omega) (by decide), b1, cal2_s, w.tc.st]; rfl
    rw [pS, pV, uw0, hR]
    by_cases z : wV s t p a = 0
    · rw [if_pos z, if_pos z]; exact (out_342 ht w1 A1 (by rw [wS_1]; exact x44) (by decide) y39).pre f1 g1 l1
    · rw [if_neg z, if_neg z]; exact (out_342 ht w1 A1 (by rw [wS_1]; exact x44) (by decide) y39).pre f1 g1 l1
  · -- while
    obtain ⟨u1, b1, b2, b3⟩ := sim_work (t := t) (by omega) (S.xp (by rw [k2]; decide)) lo
    obtain ⟨w1, f1, g1, l1⟩ := w.wk (s1 := wS s t p a) ht wS_1 (fun id z => wS_2 z) b2 b3
    have A1 : AtR sd (wS s t p a) u1 t p d a := h.to (by rw [wS_1]) (by rw [wS_1]) (by rw [b2])
    have pS : pfS s t a = if wV s t p a = 0 then behS (wS s t p a) t else inS (wS s t p a) t 0 (s.1 39 t 0) := by unfold pfS; rw [pe, k2, if_neg (by decide), if_neg (by decide), if_neg (by decide), if_pos rfl, wS_1]
    have pV : pfV s t a = 0 := by unfold pfV; rw [pe, k2, if_neg (by decide), if_neg (by decide), if_neg (by decide), if_neg (by decide)]
    have hR : r_turnOf_81 (nI t) u = if wV s t p a = 0 then r_turnOf_656 (nI t) (nI (40 * p + a)) u1 else (cal (r_goIn (nI t) (nI (40 * p + a)) (nI 0) (s.1 39 t 0) u1) fun q => some ((0 : Int32), q)) := by
      unfold r_turnOf_81; rw [gI (by omega) (by decide), nI_clamp (by omega), h.hu, if_pos (nI_pos' (by omega)), gI (by omega) (by decide), gI (by omega) (by decide), nI_clamp (by omega), k1, if_neg (by decide), if_neg (by decide), if_pos rfl, gI (by omega) (by decide), b1, cal2_s, w.tc.st]; rfl
    rw [pS, pV, uw0, hR]
    by_cases z : wV s t p a = 0
    · rw [if_pos z, if_pos z]; exact (out_beh ht w1 A1 (by rw [wS_1]; exact x44)).pre f1 g1 l1
    · rw [if_neg z, if_neg z]; exact (out_in ht w1 A1 (by rw [wS_1]; exact x44) (by decide) (by rw [b2]; exact S.b0 (by rw [k2]; decide)) y39).pre f1 g1 l1
  · -- take
    obtain ⟨b, e1, e2, e3⟩ := S.bx (by rw [k2]; decide)
    obtain ⟨l, q1, q2, q3⟩ := S.lt (by rw [k2]; decide)
    have bx := w.wc.bx b e1
    have nu : nuN s t a = b := by unfold nuN; rw [pe, e2, nI_clamp (by omega)]
    have le : leN s t a = l := by unfold leN; rw [pe, q2, nI_clamp (by omega)]
    have wt : wtV s t a = if s.1 114 0 b = 0 then 1 else 0 := by unfold wtV; rw [pe, k2, if_pos rfl, nu]
    have pS : pfS s t a = tbS s t a := by unfold pfS; rw [pe, k2, if_neg (by decide), if_neg (by decide), if_neg (by decide), if_neg (by decide), if_pos rfl]
    have pV : pfV s t a = tbV s t a := by unfold pfV; rw [pe, k2, if_pos rfl]
    have hR : r_turnOf_81 (nI t) u = if u.1 238 0 b = 0 then (cal2 (r_waits (nI t) u) fun v1 s1 => some (v1, s1)) else r_turnOf_656 (nI t) (nI (40 * p + a)) (si (sl u 245 0 (10 * t + l) (u.2 239 0 b)) 238 0 b 0) := by
      unfold r_turnOf_81; rw [gI (by omega) (by decide), nI_clamp (by omega), h.hu, if_pos (nI_pos' (by omega)), gI (by omega) (by decide), gI (by omega) (by decide), nI_clamp (by omega), k1, if_neg (by decide), if_neg (by decide), if_neg (by decide), if_pos rfl, gI (by omega) (by decide), e3, gI (by omega) (by decide), nI_clamp (by omega), gI (by omega) (by decide), q3, gI (by omega) (by decide), gI (by omega) (by decide), nI_clamp (by omega), m10s, gI (by omega) (by decide), nI_clamp (by omega), gI (by omega) (by decide), sl_1, e3, gZ (by omega) (by decide) zo0, nI_clamp (by omega)]
    rw [pS, pV, hR]
    unfold tbS tbV
    rw [wt, bx.1]
    by_cases z : u.1 238 0 b = 0
    · rw [if_pos z, if_pos z, if_neg (by decide), if_neg (by decide)]; exact out_wait ht w h.ps Q
    · rw [if_neg z, if_neg z, if_pos rfl, if_pos rfl, uw0]
      have eT : tb1 s t a = sl (si s 114 0 b 0) 34 t l (u.2 239 0 b) := by unfold tb1; rw [nu, le, bx.2]
      rw [eT]
      have lo2 : ∀ g k, g < 6 → k < 10 → (sl (si s 114 0 b 0) 34 t l (u.2 239 0 b)).2 34 g k = (si (sl u 245 0 (10 * t + l) (u.2 239 0 b)) 238 0 b 0).2 245 0 (10 * g + k) := fun g k hg hk => by
        by_cases zz : g = t ∧ k = l
        · obtain ⟨rfl, rfl⟩ := zz; rw [sl_e, si_2, sl_e]
        · rw [sl_r, if_neg (fun q => zz ⟨q.2.1, q.2.2⟩), si_2, si_2, sl_q (by omega)]; exact w.lo g k hg hk
      have bx2 : ∀ q, q < 8 → (sl (si s 114 0 b 0) 34 t l (u.2 239 0 b)).1 114 0 q = (si (sl u 245 0 (10 * t + l) (u.2 239 0 b)) 238 0 b 0).1 238 0 q ∧ (sl (si s 114 0 b 0) 34 t l (u.2 239 0 b)).2 115 0 q = (si (sl u 245 0 (10 * t + l) (u.2 239 0 b)) 238 0 b 0).2 239 0 q := fun q hq => by
        by_cases zz : q = b
        · subst zz; rw [sl_1, si_eq, si_eq, sl_o (by decide), si_2, si_2, sl_o (by decide)]; exact ⟨rfl, bx.2⟩
        · rw [sl_1, si_q zz, si_q zz, sl_1, sl_o (by decide), si_2, si_2, sl_o (by decide)]; exact w.wc.bx q hq
      obtain ⟨w2, f2, g2⟩ := w.lb (fun id z => ⟨by rw [sl_1, si_id (by omega)], by rw [sl_id (by omega)]; rfl⟩) (fun id z => ⟨by rw [si_id (by omega)]; rfl, by rw [si_2, sl_id (by omega)]⟩) lo2 bx2 (GV_sl (GV_si w.wc.gv (okN_of (q := 0) (by decide)))) ht
      exact (out_beh ht w2 (h.to (by rw [sl_1, si_o (by decide)]) (by rw [sl_1, si_id (by decide)]) (by rw [si_o (by decide)]; rfl)) (by rw [sl_1, si_o (by decide)]; exact x44)).pre f2 g2 (((Cl.refl u).sl (by decide)).si (by decide))
  · -- put
    obtain ⟨b, e1, e2, e3⟩ := S.bx (by rw [k2]; decide)
    have bx := w.wc.bx b e1
    have nu : nuN s t a = b := by unfold nuN; rw [pe, e2, nI_clamp (by omega)]
    have wt : wtV s t a = s.1 114 0 b := by unfold wtV; rw [pe, k2, if_neg (by decide), if_pos rfl, nu]
    have eP : pb0 s t a = si s 114 0 b 1 := by unfold pb0; rw [nu]
    have hX : XpR (si s 114 0 b 1) u p a := by
      have := S.xp (by rw [k2]; decide)
      unfold XpR CdR at *
      simp only [evOK_eq (s' := si s 114 0 b 1) (s := s) (si_id (by decide)) (si_id (by decide)), si_id (s := s) (id := 114) (a := 71) (by decide), si_id (s := s) (id := 114) (a := 72) (by decide), si_id (s := s) (id := 114) (a := 75) (by decide), si_id (s := s) (id := 114) (a := 76) (by decide)]
      exact this
    obtain ⟨u1, b1, b2, b3⟩ := sim_work (t := t) (by omega) hX lo
    obtain ⟨w1, f1, g1, l1⟩ := w.wk (s1 := (s.1, (wS (si s 114 0 b 1) t p a).2)) ht rfl (fun id z => wS_2 z) b2 b3
    have pS : pfS s t a = pbS s t a := by unfold pfS; rw [pe, k2, if_neg (by decide), if_neg (by decide), if_neg (by decide), if_neg (by decide), if_neg (by decide), if_pos rfl]
    have pV : pfV s t a = tbV s t a := by unfold pfV; rw [pe, k2, if_neg (by decide), if_pos rfl]
    have hR : r_turnOf_81 (nI t) u = if u.1 238 0 b = 0 then r_turnOf_656 (nI t) (nI (40 * p + a)) (si (sl u1 239 0 b (wV (si s 114 0 b 1) t p a)) 238 0 b 1) else (cal2 (r_waits (nI t) u) fun v1 s1 => some (v1, s1)) := by
      unfold r_turnOf_81; rw [gI (by omega) (by decide), nI_clamp (by omega), h.hu, if_pos (nI_pos' (by omega)), gI (by omega) (by decide), gI (by omega) (by decide), nI_clamp (by omega), k1, if_neg (by decide), if_neg (by decide), if_neg (by decide), if_neg (by decide), if_pos rfl, gI (by omega) (by decide), e3, gI (by omega) (by decide), nI_clamp (by omega), gI (by omega) (by decide), gI (by omega) (by decide), b1, cal2_s, gI (by omega) (by decide), nI_clamp (by omega), gI (by omega) (by decide), sl_1, b2, e3, gZ (by omega) (by decide) zo1, nI_clamp (by omega)]
    rw [pS, pV, hR]
    unfold pbS tbV
    rw [wt, bx.1]
    by_cases z : u.1 238 0 b = 0
    · rw [if_pos z, if_pos z, if_pos z, uw0]
      have eT : pb1 s t a = sl (wS (si s 114 0 b 1) t p a) 115 0 b (wV (si s 114 0 b 1) t p a) := by unfold pb1; rw [eP, nu, pe]
      rw [eT]
      have lo2 : ∀ g k, g < 6 → k < 10 → (sl (wS (si s 114 0 b 1) t p a) 115 0 b (wV (si s 114 0 b 1) t p a)).2 34 g k = (si (sl u1 239 0 b (wV (si s 114 0 b 1) t p a)) 238 0 b 1).2 245 0 (10 * g + k) := fun g k hg hk => by
        rw [sl_o (by decide), wS_2 (by decide), si_2, si_2, sl_o (by decide), b3 245 (by decide)]; exact w.lo g k hg hk
      have bx2 : ∀ q, q < 8 → (sl (wS (si s 114 0 b 1) t p a) 115 0 b (wV (si s 114 0 b 1) t p a)).1 114 0 q = (si (sl u1 239 0 b (wV (si s 114 0 b 1) t p a)) 238 0 b 1).1 238 0 q ∧ (sl (wS (si s 114 0 b 1) t p a) 115 0 b (wV (si s 114 0 b 1) t p a)).2 115 0 q = (si (sl u1 239 0 b (wV (si s 114 0 b 1) t p a)) 238 0 b 1).2 239 0 q := fun q hq => by
        by_cases zz : q = b
        · subst zz; rw [sl_1, wS_1, si_eq, si_eq, sl_e, si_2, sl_e]; exact ⟨rfl, rfl⟩
        · rw [sl_1, wS_1, si_q zz, si_q zz, sl_1, sl_q zz, si_2, sl_q zz, wS_2 (by decide), si_2, b2, b3 239 (by decide)]; exact w.wc.bx q hq
      obtain ⟨w2, f2, g2⟩ := w1.lb (fun id z => ⟨by rw [sl_1, wS_1, si_id (by omega)], by rw [sl_id (by omega)]⟩) (fun id z => ⟨by rw [si_id (by omega)]; rfl, by rw [si_2, sl_id (by omega)]⟩) lo2 bx2 (GV_sl (GV_w (GV_si w.wc.gv (okN_of (q := 1) (by decide))))) ht
      exact (out_beh ht w2 (h.to (by rw [sl_1, wS_1, si_o (by decide)]) (by rw [sl_1, wS_1, si_id (by decide)]) (by rw [si_o (by decide), sl_1, b2])) (by rw [sl_1, wS_1, si_o (by decide)]; exact x44)).pre (f1.trans f2) (g1.trans g2) (l1.trans (((Cl.refl u1).sl (by decide)).si (by decide)))
    · rw [if_neg z, if_neg z, if_neg z]; exact out_wait ht w h.ps Q
  · -- throw
    obtain ⟨u1, b1, b2, b3⟩ := sim_work (t := t) (by omega) (S.xp (by rw [k2]; decide)) lo
    obtain ⟨w1, f1, g1, l1⟩ := w.wk (s1 := wS s t p a) ht wS_1 (fun id z => wS_2 z) b2 b3
    obtain ⟨w2, f2⟩ := w1.t45 (v := wV s t p a) (y := 0) ht (okN_of (q := 0) (by decide))
    have pS : pfS s t a = si (sl (wS s t p a) 45 t 0 (wV s t p a)) 46 t 0 0 := by unfold pfS tvS; rw [pe, k2, if_neg (by decide), if_neg (by decide), if_neg (by decide), if_neg (by decide), if_neg (by decide), if_neg (by decide), if_pos rfl]
    have pV : pfV s t a = 5 := by unfold pfV; rw [pe, k2, if_neg (by decide), if_neg (by decide), if_pos rfl]
    have hR : r_turnOf_81 (nI t) u = (cal2 (r_throwOut (nI t) 0 (wV s t p a) (-1) u1) fun v9 s8 => cal2 (r_thrown v9 s8) fun v11 s10 => some (v11, s10)) := by
      unfold r_turnOf_81; rw [gI (by omega) (by decide), nI_clamp (by omega), h.hu, if_pos (nI_pos' (by omega)), gI (by omega) (by decide), gI (by omega) (by decide), nI_clamp (by omega), k1, if_neg (by decide), if_neg (by decide), if_neg (by decide), if_neg (by decide), if_neg (by decide), if_pos rfl, gI (by omega) (by decide), b1, cal2_s]
    rw [pS, pV, uw5, hR]
    exact (out_raise ht w2 (by rw [si_o (by decide), sl_1, wS_1]; exact x44) ⟨by rw [si_2, sl_e], Or.inl ⟨rfl, si_eq⟩⟩).pre (f1.trans f2) g1 l1
  · exact absurd k2 hs
  · -- mask
    have pS : pfS s t a = inS s t 0 (mx (s.1 39 t 0) 1) := by unfold pfS; rw [pe, k2, if_neg (by decide), if_neg (by decide), if_neg (by decide), if_neg (by decide), if_neg (by decide), if_neg (by decide), if_neg (by decide), if_neg (by decide), if_pos rfl]
    have pV : pfV s t a = 0 := by unfold pfV; rw [pe, k2, if_neg (by decide), if_neg (by decide), if_neg (by decide), if_neg (by decide)]
    have hR : r_turnOf_81 (nI t) u = (cal (r_goIn (nI t) (nI (40 * p + a)) (nI 0) (mx (s.1 39 t 0) 1) u) fun q => some ((0 : Int32), q)) := by
      unfold r_turnOf_81; rw [gI (by omega) (by decide), nI_clamp (by omega), h.hu, if_pos (nI_pos' (by omega)), gI (by omega) (by decide), gI (by omega) (by decide), nI_clamp (by omega), k1, if_neg (by decide), if_neg (by decide), if_neg (by decide), if_neg (by decide), if_neg (by decide), if_neg (by decide), if_neg (by decide), if_pos rfl, at_least, cal2_s, w.tc.st]; rfl
    rw [pS, pV, uw0, hR]
    exact out_in ht w h x44 (by decide) (S.b0 (by rw [k2]; decide)) (okN_mx y39)
  · -- hard
    have pS : pfS s t a = inS s t 0 2 := by unfold pfS; rw [pe, k2, if_neg (by decide), if_neg (by decide), if_neg (by decide), if_neg (by decide), if_neg (by decide), if_neg (by decide), if_neg (by decide), if_neg (by decide), if_neg (by decide), if_pos rfl]
    have pV : pfV s t a = 0 := by unfold pfV; rw [pe, k2, if_neg (by decide), if_neg (by decide), if_neg (by decide), if_neg (by decide)]
    have hR : r_turnOf_81 (nI t) u = (cal (r_goIn (nI t) (nI (40 * p + a)) (nI 0) 2 u) fun q => some ((0 : Int32), q)) := by
      unfold r_turnOf_81; rw [gI (by omega) (by decide), nI_clamp (by omega), h.hu, if_pos (nI_pos' (by omega)), gI (by omega) (by decide), gI (by omega) (by decide), nI_clamp (by omega), k1, if_neg (by decide), if_neg (by decide), if_neg (by decide), if_neg (by decide), if_neg (by decide), if_neg (by decide), if_neg (by decide), if_neg (by decide), if_pos rfl]; rfl
    rw [pS, pV, uw0, hR]
    exact out_in ht w h x44 (by decide) (S.b0 (by rw [k2]; decide)) (okN_of (q := 2) (by decide))
  · -- open
    have pS : pfS s t a = inS s t 0 0 := by unfold pfS; rw [pe, k2, if_neg (by decide), if_neg (by decide), if_neg (by decide), if_neg (by decide), if_neg (by decide), if_neg (by decide), if_neg (by decide), if_neg (by decide), if_neg (by decide), if_neg (by decide), if_pos rfl]
    have pV : pfV s t a = 0 := by unfold pfV; rw [pe, k2, if_neg (by decide), if_neg (by decide), if_neg (by decide), if_neg (by decide)]
    have hR : r_turnOf_81 (nI t) u = (cal (r_goIn (nI t) (nI (40 * p + a)) (nI 0) 0 u) fun q => some ((0 : Int32), q)) := by
      unfold r_turnOf_81; rw [gI (by omega) (by decide), nI_clamp (by omega), h.hu, if_pos (nI_pos' (by omega)), gI (by omega) (by decide), gI (by omega) (by decide), nI_clamp (by omega), k1, if_neg (by decide), if_neg (by decide), if_neg (by decide), if_neg (by decide), if_neg (by decide), if_neg (by decide), if_neg (by decide), if_neg (by decide), if_neg (by decide), if_pos rfl]; rfl
    rw [pS, pV, uw0, hR]
    exact out_in ht w h x44 (by decide) (S.b0 (by rw [k2]; decide)) (okN_of (q := 0) (by decide))
  · -- try
    have pS : pfS s t a = inS s t 0 (s.1 39 t 0) := by unfold pfS; rw [pe, k2, if_neg (by decide), if_neg (by decide), if_neg (by decide), if_neg (by decide), if_neg (by decide), if_neg (by decide), if_neg (by decide), if_neg (by decide), if_neg (by decide), if_neg (by decide), if_neg (by decide), if_neg (by decide)]
    have pV : pfV s t a = 0 := by unfold pfV; rw [pe, k2, if_neg (by decide), if_neg (by decide), if_neg (by decide), if_neg (by decide)]
    have hR : r_turnOf_81 (nI t) u = (cal (r_goIn (nI t) (nI (40 * p + a)) (nI 0) (s.1 39 t 0) u) fun q => some ((0 : Int32), q)) := by
      unfold r_turnOf_81 r_turnOf_646; rw [gI (by omega) (by decide), nI_clamp (by omega), h.hu, if_pos (nI_pos' (by omega)), gI (by omega) (by decide), gI (by omega) (by decide), nI_clamp (by omega), k1, if_neg (by decide), if_neg (by decide), if_neg (by decide), if_neg (by decide), if_neg (by decide), if_neg (by decide), if_neg (by decide), if_neg (by decide), if_neg (by decide), if_neg (by decide), if_neg (by decide), if_neg (by decide), w.tc.st]; rfl
    rw [pS, pV, uw0, hR]
    exact out_in ht w h x44 (by decide) (S.b0 (by rw [k2]; decide)) y39
  · -- first
    have pS : pfS s t a = inS s t 0 (mx (s.1 39 t 0) 1) := by unfold pfS; rw [pe, k2, if_neg (by decide), if_neg (by decide), if_neg (by decide), if_neg (by decide), if_neg (by decide), if_neg (by decide), if_neg (by decide), if_neg (by decide), if_neg (by decide), if_neg (by decide), if_neg (by decide), if_pos rfl]
    have pV : pfV s t a = 0 := by unfold pfV; rw [pe, k2, if_neg (by decide), if_neg (by decide), if_neg (by decide), if_neg (by decide)]
    have hR : r_turnOf_81 (nI t) u = (cal (r_goIn (nI t) (nI (40 * p + a)) (nI 0) (mx (s.1 39 t 0) 1) u) fun q => some ((0 : Int32), q)) := by
      unfold r_turnOf_81; rw [gI (by omega) (by decide), nI_clamp (by omega), h.hu, if_pos (nI_pos' (by omega)), gI (by omega) (by decide), gI (by omega) (by decide), nI_clamp (by omega), k1, if_neg (by decide), if_neg (by decide), if_neg (by decide), if_neg (by decide), if_neg (by decide), if_neg (by decide), if_neg (by decide), if_neg (by decide), if_neg (by decide), if_neg (by decide), if_pos rfl, at_least, cal2_s, w.tc.st]; rfl
    rw [pS, pV, uw0, hR]
    exact out_in ht w h x44 (by decide) (S.b0 (by rw [k2]; decide)) (okN_mx y39)
  · -- within
    have pS : pfS s t a = inS s t 0 (s.1 39 t 0) := by unfold pfS; rw [pe, k2, if_neg (by decide), if_neg (by decide), if_neg (by decide), if_neg (by decide), if_neg (by decide), if_neg (by decide), if_neg (by decide), if_neg (by decide), if_neg (by decide), if_neg (by decide), if_neg (by decide), if_neg (by decide)]
    have pV : pfV s t a = 0 := by unfold pfV; rw [pe, k2, if_neg (by decide), if_neg (by decide), if_neg (by decide), if_neg (by decide)]
    have hR : r_turnOf_81 (nI t) u = (cal (r_goIn (nI t) (nI (40 * p + a)) (nI 0) (s.1 39 t 0) u) fun q => some ((0 : Int32), q)) := by
      unfold r_turnOf_81 r_turnOf_646; rw [gI (by omega) (by decide), nI_clamp (by omega), h.hu, if_pos (nI_pos' (by omega)), gI (by omega) (by decide), gI (by omega) (by decide), nI_clamp (by omega), k1, if_neg (by decide), if_neg (by decide), if_neg (by decide), if_neg (by decide), if_neg (by decide), if_neg (by decide), if_neg (by decide), if_neg (by decide), if_neg (by decide), if_neg (by decide), if_neg (by decide), if_neg (by decide), w.tc.st]; rfl
    rw [pS, pV, uw0, hR]
    exact out_in ht w h x44 (by decide) (S.b0 (by rw [k2]; decide)) y39
  · -- a local is set
    obtain ⟨l, q1, q2, q3⟩ := S.lt (by rw [k2]; decide)
    have le : leN s t a = l := by unfold leN; rw [pe, q2, nI_clamp (by omega)]
    obtain ⟨u1, b1, b2, b3⟩ := sim_work (t := t) (by omega) (S.xp (by rw [k2]; decide)) lo
    obtain ⟨w1, f1, g1, l1⟩ := w.wk (s1 := wS s t p a) ht wS_1 (fun id z => wS_2 z) b2 b3
    obtain ⟨w2, f2, g2⟩ := w1.loc (v := wV s t p a) ht q1
    have pS : pfS s t a = behS (sl (wS s t p a) 34 t l (wV s t p a)) t := by unfold pfS; rw [pe, k2, if_pos rfl, le]
    have pV : pfV s t a = 0 := by unfold pfV; rw [pe, k2, if_neg (by decide), if_neg (by decide), if_neg (by decide), if_neg (by decide)]
    have hR : r_turnOf_81 (nI t) u = r_turnOf_656 (nI t) (nI (40 * p + a)) (sl u1 245 0 (10 * t + l) (wV s t p a)) := by
      unfold r_turnOf_81; rw [gI (by omega) (by decide), nI_clamp (by omega), h.hu, if_pos (nI_pos' (by omega)), gI (by omega) (by decide), gI (by omega) (by decide), nI_clamp (by omega), k1, if_neg (by decide), if_neg (by decide), if_neg (by decide), if_neg (by decide), if_neg (by decide), if_neg (by decide), if_neg (by decide), if_neg (by decide), if_neg (by decide), if_neg (by decide), if_neg (by decide), if_pos rfl, gI (by omega) (by decide), gI (by omega) (by decide), b1, cal2_s, q3, m10s, gI (by omega) (by decide), nI_clamp (by omega)]
    rw [pS, pV, uw0, hR]
    exact (out_beh ht w2 (h.to (by rw [sl_1, wS_1]) (by rw [sl_1, wS_1]) (by rw [sl_1, b2])) (by rw [sl_1, wS_1]; exact x44)).pre (f1.trans f2) (g1.trans g2) (l1.trans ((Cl.refl u1).sl (by decide)))
