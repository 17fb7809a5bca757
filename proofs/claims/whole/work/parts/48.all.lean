/-! all THREADS, on both sides -/
def SP (s : St) (t p d : Nat) : Prop := s.1 44 t 0 = -1 ∨ ∃ a, a < nS s p ∧ s.1 3 t d = nI a ∧ s.1 68 p a = 14 ∧ s.1 70 p a = s.1 44 t 0
def TH (sd : Nat → Nat → Nat) (pc : Nat) (s u : St) (t : Nat) : Prop := (TB s u t) ∧ (s.1 32 t 0 = nI t) ∧ ((s.1 38 t 0 = 1 ∧ ∃ p d c, p < pc ∧ TC sd s u t p d c ∧ PS sd s u t p d ∧ SP s t p d) ∨ (¬ s.1 38 t 0 = 1 ∧ TI s u t))
theorem TH.tb {sd : Nat → Nat → Nat} {pc : Nat} {s u : St} {t : Nat} (h : TH sd pc s u t) : TB s u t := h.1
theorem TH.nu {sd : Nat → Nat → Nat} {pc : Nat} {s u : St} {t : Nat} (h : TH sd pc s u t) : s.1 32 t 0 = nI t := h.2.1
theorem TH.ru {sd : Nat → Nat → Nat} {pc : Nat} {s u : St} {t : Nat} (h : TH sd pc s u t) : (s.1 38 t 0 = 1 ∧ ∃ p d c, p < pc ∧ TC sd s u t p d c ∧ PS sd s u t p d ∧ SP s t p d) ∨ (¬ s.1 38 t 0 = 1 ∧ TI s u t) := h.2.2
def SE (s u : St) (t n : Nat) : Prop := (s.1 44 t 0 = -1 ∧ u.1 261 0 t = 0) ∨ ∃ g r, g < 6 ∧ g ≠ t ∧ s.1 44 t 0 = nI g ∧ u.1 262 0 t = nI g ∧ u.1 261 0 t = nI r ∧ 1 ≤ r ∧ r ≤ n
def RS (s u : St) (g k : Nat) : Prop := ∃ w, s.1 81 g k = nI w ∧ ((w < 6 ∧ w ≠ g ∧ s.1 44 w 0 = nI g ∧ u.1 259 0 (32 * g + k) = u.1 261 0 w) ∨ (6 ≤ w ∧ w < 8 ∧ u.1 259 0 (32 * g + k) = 0))
def SG (s u : St) (n : Nat) : Prop := (n < 2 ^ 30) ∧ (u.1 260 0 0 = nI n) ∧ (∀ t, t < 6 → SE s u t n) ∧ (∀ t t', t < 6 → t' < 6 → u.1 261 0 t = u.1 261 0 t' → ¬ u.1 261 0 t = 0 → t = t') ∧ (∀ g k, g < 6 → k < cN s g → RS s u g k)
theorem SG.n30 {s u : St} {n : Nat} (h : SG s u n) : n < 2 ^ 30 := h.1
theorem SG.sr {s u : St} {n : Nat} (h : SG s u n) : u.1 260 0 0 = nI n := h.2.1
theorem SG.se {s u : St} {n : Nat} (h : SG s u n) : ∀ t, t < 6 → SE s u t n := h.2.2.1
theorem SG.di {s u : St} {n : Nat} (h : SG s u n) : ∀ t t', t < 6 → t' < 6 → u.1 261 0 t = u.1 261 0 t' → ¬ u.1 261 0 t = 0 → t = t' := h.2.2.2.1
theorem SG.rs {s u : St} {n : Nat} (h : SG s u n) : ∀ g k, g < 6 → k < cN s g → RS s u g k := h.2.2.2.2
/-- the numbers of one THREAD but its row -/
def Sm (h : Nat) (s s' : St) : Prop := ∀ id e, (id ≤ 8 ∨ (32 ≤ id ∧ id ≤ 46)) → s'.1 id h e = s.1 id h e ∧ s'.2 id h e = s.2 id h e
def Um (h : Nat) (u u' : St) : Prop := ∀ id e, PT h id e → id ≤ 254 → u'.1 id 0 e = u.1 id 0 e ∧ u'.2 id 0 e = u.2 id 0 e
def Sr (h : Nat) (s s' : St) : Prop := ∀ id e, (80 ≤ id ∧ id ≤ 83) → s'.1 id h e = s.1 id h e ∧ s'.2 id h e = s.2 id h e
def Ur (h : Nat) (u u' : St) : Prop := ∀ id e, PT h id e → 255 ≤ id ∧ id ≤ 259 → u'.1 id 0 e = u.1 id 0 e ∧ u'.2 id 0 e = u.2 id 0 e
theorem Ac.sm {t h : Nat} {s s' : St} (f : Ac t s s') (hn : h ≠ t) : Sm h s s' := fun id e hi => f id h e (fun z => by unfold PC at z; omega)
theorem Ac.sr {t h : Nat} {s s' : St} (f : Ac t s s') (hn : h ≠ t) : Sr h s s' := fun id e hi => f id h e (fun z => by unfold PC at z; omega)
theorem Ag.um {t h : Nat} {u u' : St} (f : Ag t u u') (hn : h ≠ t) : Um h u u' := fun id e hp hi => f id e (fun z => by unfold PT at z hp; omega)
theorem Ag.ur {t h : Nat} {u u' : St} (f : Ag t u u') (hn : h ≠ t) : Ur h u u' := fun id e hp hi => f id e (fun z => by unfold PT at z hp; omega)
theorem TC.rowto {sd : Nat → Nat → Nat} {s u s' u' : St} {t p d c c' : Nat} (h : TC sd s u t p d c) (es : ∀ id e, ((id ≤ 8 ∧ (id = 3 → e < d)) ∨ id = 37 ∨ id = 39 ∨ id = 41 ∨ id = 42) → s'.1 id t e = s.1 id t e ∧ s'.2 id t e = s.2 id t e)
    (eN : s'.1 64 = s.1 64) (e70 : s'.1 70 = s.1 70) (e16 : (s.1 16 0 0).toNatClampNeg ≤ (s'.1 16 0 0).toNatClampNeg) (e216 : u'.1 216 0 = u.1 216 0) (e220 : u'.1 220 0 = u.1 220 0)
    (eu : ∀ id e, PT t id e → ((242 ≤ id ∧ id ≤ 254) ∧ ¬ (243 ≤ id ∧ id ≤ 245)) → u'.1 id 0 e = u.1 id 0 e ∧ u'.2 id 0 e = u.2 id 0 e) (hR : RwR s' u' t d c') : TC sd s' u' t p d c' := by
  have h8 := h.d8
  refine ⟨(es 37 0 (by omega)).1.trans h.hp, (es 41 0 (by omega)).1.trans h.ds, (eu 246 t (PT.a (by omega)) (by omega)).1.trans h.du, h8, ?_, fun b h1 h2 => ?_, hR, ?_⟩
  · rw [(es 39 0 (by omega)).1, (eu 242 t (PT.a (by omega)) (by omega)).1]; exact h.st
  · obtain ⟨a, w, L⟩ := h.lv b h1 h2
    exact ⟨a, w, L.to eN e70 e16 (fun id h3 h4 => es id b (by omega)) (es 3 (b - 1) (by omega)).1 e216 e220 (fun id h3 h4 => eu id _ (PT.l ⟨h3, h4⟩ (by omega)) (by omega))⟩
  · rw [(es 42 0 (by omega)).1, h.aw, cntA_to d (fun b _ _ => (es 4 b (by omega)).1)]
theorem TH.to {sd : Nat → Nat → Nat} {pc : Nat} {s u s' u' : St} {t : Nat} (h : TH sd pc s u t) (hs : Sm t s s') (hu : Um t u u') (ap : AP s s') (ar : AR u u') (ck : (s.1 16 0 0).toNatClampNeg ≤ (s'.1 16 0 0).toNatClampNeg)
    (hR : ∀ d c, RwR s u t d c → ∃ c', RwR s' u' t d c') (hI : ¬ s.1 38 t 0 = 1 → s.1 80 t 0 = 0 → u.1 255 0 t = 0 → s'.1 80 t 0 = 0 ∧ u'.1 255 0 t = 0) : TH sd pc s' u' t := by
  refine ⟨⟨?_, ?_, ?_, fun k hk => ?_⟩, ?_, ?_⟩
  · rw [(hs 38 0 (by omega)).1, (hu 240 t (PT.a (by omega)) (by omega)).1]; exact h.tb.st
  · rw [(hs 40 0 (by omega)).1, (hu 243 t (PT.a (by omega)) (by omega)).1]; exact h.tb.sp
  · rw [(hs 43 0 (by omega)).2, (hu 244 t (PT.a (by omega)) (by omega)).2]; exact h.tb.di
  · rw [(hs 34 k (by omega)).2, (hu 245 (10 * t + k) (Or.inr (Or.inr (Or.inr (Or.inl ⟨rfl, by omega, by omega⟩)))) (by omega)).2]; exact h.tb.lo k hk
  · rw [(hs 32 0 (by omega)).1]; exact h.nu
  · rw [(hs 38 0 (by omega)).1]
    rcases h.ru with ⟨r1, p, d, c, r2, T, P, Q⟩ | ⟨r1, I⟩
    · obtain ⟨c', hR'⟩ := hR d c T.rw
      refine Or.inl ⟨r1, p, d, c', r2, T.rowto (fun id e hi => hs id e (by omega)) (ap 64 (by decide) (by decide)) (ap 70 (by decide) (by decide)) ck (ar 216 (by decide) (by decide)).1 (ar 220 (by decide) (by decide)).1 (fun id e hp hi => hu id e hp (by omega)) hR', ?_, ?_⟩
      · unfold PS at *
        rw [nS_to ap, (hs 3 d (by omega)).1, (hu 241 t (PT.a (by omega)) (by omega)).1]; exact P
      · unfold SP at *
        rw [nS_to ap, (hs 3 d (by omega)).1, (hs 44 0 (by omega)).1, ap 68 (by decide) (by decide), ap 70 (by decide) (by decide)]; exact Q
    · obtain ⟨i1, i2⟩ := hI r1 I.a0 I.a1
      exact Or.inr ⟨r1, i1, i2, by rw [(hs 39 0 (by omega)).1]; exact I.a2, by rw [(hs 41 0 (by omega)).1]; exact I.a3, by rw [(hs 42 0 (by omega)).1]; exact I.a4, by rw [(hs 44 0 (by omega)).1]; exact I.a5⟩
theorem RwR.same {s u s' u' : St} {t d c : Nat} (h : RwR s u t d c) (hr : Sr t s s') (hu : Ur t u u') (e4 : ∀ e, s'.1 4 t e = s.1 4 t e) : RwR s' u' t d c :=
  h.to (fun id e z => (hr id e (by omega)).1) (fun e => (hr 83 e (by omega)).2) (hu 255 t (PT.a (by omega)) (by omega)).1 (fun id k z z2 => (hu id _ (PT.r (by omega) z2) (by omega)).1) (fun k z2 => (hu 257 _ (PT.r (by omega) z2) (by omega)).2) (fun k l z1 z2 z3 => ⟨(h.tm k l z1 z2 z3).1, (e4 _).trans (h.tm k l z1 z2 z3).2⟩)
/-- another THREAD stays -/
theorem TH.other {sd : Nat → Nat → Nat} {pc : Nat} {s u s' u' : St} {t : Nat} (h : TH sd pc s u t) (hs : Sm t s s') (hu : Um t u u') (hr : Sr t s s') (hv : Ur t u u') (ap : AP s s') (ar : AR u u') (ck : (s.1 16 0 0).toNatClampNeg ≤ (s'.1 16 0 0).toNatClampNeg) : TH sd pc s' u' t :=
  h.to hs hu ap ar ck (fun d c z => ⟨c, z.same hr hv (fun e => (hs 4 e (by omega)).1)⟩) (fun _ z1 z2 => ⟨by rw [(hr 80 0 (by omega)).1]; exact z1, by rw [(hv 255 t (PT.a (by omega)) (by omega)).1]; exact z2⟩)
theorem TH.fw {sd : Nat → Nat → Nat} {pc : Nat} {s u s' u' : St} {t h : Nat} (hT : TH sd pc s u h) (hn : h ≠ t) (ac : Ac t s s') (ag : Ag t u u') : TH sd pc s' u' h :=
  hT.other (ac.sm hn) (ag.um hn) (ac.sr hn) (ag.ur hn) ac.ap ag.ar (by rw [(ac 16 0 0 (fun z => by unfold PC at z; omega)).1]; exact Nat.le_refl _)
theorem SG.fw {s u s' u' : St} {t n : Nat} (h : SG s u n) (ht : t < 6) (ac : Ac t s s') (ag : Ag t u u') (sb : SbR t s u s' u') (h44 : s'.1 44 t 0 = s.1 44 t 0) (hc : ∀ g, g < 6 → cN s g ≤ 22) : SG s' u' n := by
  have e44 : ∀ w, s'.1 44 w 0 = s.1 44 w 0 := fun w => by
    by_cases hw : w = t
    · rw [hw]; exact h44
    · exact (ac 44 w 0 (fun z => by unfold PC at z; omega)).1
  have eu : ∀ id e, 260 ≤ id → id ≤ 262 → u'.1 id 0 e = u.1 id 0 e := fun id e z1 z2 => (ag id e (fun z => by unfold PT at z; omega)).1
  refine ⟨h.n30, by rw [eu _ _ (by omega) (by omega)]; exact h.sr, fun w hw => ?_, fun w w' hw hw' => ?_, fun g k hg hk => ?_⟩
  · unfold SE
    rw [e44, eu _ _ (by omega) (by omega), eu _ _ (by omega) (by omega)]; exact h.se w hw
  · rw [eu _ _ (by omega) (by omega), eu _ _ (by omega) (by omega)]; exact h.di w w' hw hw'
  · by_cases hgt : g = t
    · subst hgt
      obtain ⟨k', q1, q2, q3⟩ := sb k hk
      obtain ⟨w, w1, w2⟩ := h.rs g k' hg q1
      refine ⟨w, q2.trans w1, ?_⟩
      rw [e44, q3, eu _ _ (by omega) (by omega)]; exact w2
    · have er := ac.sr hgt
      have ec : cN s' g = cN s g := by unfold cN; rw [(er 80 0 (by omega)).1]
      have := hc g hg
      obtain ⟨w, w1, w2⟩ := h.rs g k hg (by omega)
      refine ⟨w, by rw [(er 81 k (by omega)).1]; exact w1, ?_⟩
      rw [e44, (ag.ur hgt 259 _ (PT.r (by omega) (by omega)) (by omega)).1, eu _ _ (by omega) (by omega)]; exact w2
/-- each THREAD has a row that both sides hold -/
theorem TH.row {sd : Nat → Nat → Nat} {pc : Nat} {s u : St} {t : Nat} (h : TH sd pc s u t) : ∃ d c, RwR s u t d c := by
  rcases h.ru with ⟨-, p, d, c, -, T, -⟩ | ⟨-, I⟩
  · exact ⟨d, c, T.rw⟩
  · exact ⟨0, 0, I.a0, I.a1, by decide, fun k hk => absurd hk (Nat.not_lt_zero _), fun k _ hk => absurd hk (Nat.not_lt_zero _), fun k _ hk => absurd hk (Nat.not_lt_zero _), Nat.zero_le _⟩
theorem TH.cN {sd : Nat → Nat → Nat} {pc : Nat} {s u : St} {t : Nat} (h : TH sd pc s u t) : cN s t ≤ 22 := by
  obtain ⟨d, c, R⟩ := h.row
  rw [cN_of R.cs R.c22]; exact R.c22
