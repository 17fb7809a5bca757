/-! what is THROWN goes outward, on both sides -/
def TB (s u : St) (t : Nat) : Prop := (s.1 38 t 0 = u.1 240 0 t) ∧ (s.1 40 t 0 = u.1 243 0 t) ∧ (s.2 43 t 0 = u.2 244 0 t) ∧ (∀ k, k < 10 → s.2 34 t k = u.2 245 0 (10 * t + k))
theorem TB.st {s u : St} {t : Nat} (h : TB s u t) : s.1 38 t 0 = u.1 240 0 t := h.1
theorem TB.sp {s u : St} {t : Nat} (h : TB s u t) : s.1 40 t 0 = u.1 243 0 t := h.2.1
theorem TB.di {s u : St} {t : Nat} (h : TB s u t) : s.2 43 t 0 = u.2 244 0 t := h.2.2.1
theorem TB.lo {s u : St} {t : Nat} (h : TB s u t) : ∀ k, k < 10 → s.2 34 t k = u.2 245 0 (10 * t + k) := h.2.2.2
/-- a THREAD that doesn't run -/
def TI (s u : St) (t : Nat) : Prop := (s.1 80 t 0 = 0) ∧ (u.1 255 0 t = 0) ∧ (s.1 39 t 0 = 0) ∧ (s.1 41 t 0 = 0) ∧ (s.1 42 t 0 = 0) ∧ (s.1 44 t 0 = -1)
theorem TI.a0 {s u : St} {t : Nat} (h : TI s u t) : s.1 80 t 0 = 0 := h.1
theorem TI.a1 {s u : St} {t : Nat} (h : TI s u t) : u.1 255 0 t = 0 := h.2.1
theorem TI.a2 {s u : St} {t : Nat} (h : TI s u t) : s.1 39 t 0 = 0 := h.2.2.1
theorem TI.a3 {s u : St} {t : Nat} (h : TI s u t) : s.1 41 t 0 = 0 := h.2.2.2.1
theorem TI.a4 {s u : St} {t : Nat} (h : TI s u t) : s.1 42 t 0 = 0 := h.2.2.2.2.1
theorem TI.a5 {s u : St} {t : Nat} (h : TI s u t) : s.1 44 t 0 = -1 := h.2.2.2.2.2
def Fw (t : Nat) (s u s' u' : St) : Prop := (Ac t s s') ∧ (Ag t u u') ∧ (Cl u u') ∧ (SbR t s u s' u') ∧ (s'.1 32 t 0 = s.1 32 t 0) ∧ (s.1 44 t 0 = -1 → s'.1 44 t 0 = -1)
theorem Fw.ac {t : Nat} {s u s' u' : St} (h : Fw t s u s' u') : Ac t s s' := h.1
theorem Fw.ag {t : Nat} {s u s' u' : St} (h : Fw t s u s' u') : Ag t u u' := h.2.1
theorem Fw.cl {t : Nat} {s u s' u' : St} (h : Fw t s u s' u') : Cl u u' := h.2.2.1
theorem Fw.sb {t : Nat} {s u s' u' : St} (h : Fw t s u s' u') : SbR t s u s' u' := h.2.2.2.1
theorem Fw.k32 {t : Nat} {s u s' u' : St} (h : Fw t s u s' u') : s'.1 32 t 0 = s.1 32 t 0 := h.2.2.2.2.1
theorem Fw.k44 {t : Nat} {s u s' u' : St} (h : Fw t s u s' u') : s.1 44 t 0 = -1 → s'.1 44 t 0 = -1 := h.2.2.2.2.2
theorem Fm.w {t : Nat} {s u s' u' : St} (h : Fm t s u s' u') : Fw t s u s' u' := ⟨h.ac, h.ag, h.cl, h.sb, by rw [(h.ks 32 (by omega)).1], fun z => by rw [(h.ks 44 (by omega)).1]; exact z⟩
theorem Fw.trans {t : Nat} {s u s1 u1 s2 u2 : St} (h : Fw t s u s1 u1) (h' : Fw t s1 u1 s2 u2) : Fw t s u s2 u2 := ⟨h.ac.trans h'.ac, h.ag.trans h'.ag, h.cl.trans h'.cl, h.sb.trans h'.sb, h'.k32.trans h.k32, fun z => h'.k44 (h.k44 z)⟩
theorem EV.tw {sd : Nat → Nat → Nat} {s u s' u' : St} {t p : Nat} (h : EV sd s u t p) (f : Fw t s u s' u') (hN : NR s' u') (hG : GV s') : EV sd s' u' t p :=
  ⟨h.p12, h.pr.to f.ac.ap f.ag.ar, hN, fun h6 => by rw [f.k32]; exact h.nu h6, hG, by rw [(f.ac 16 0 0 (fun z => by unfold PC at z; omega)).1]; exact h.ck⟩
theorem TB.fm {t : Nat} {s u s' u' : St} (h : TB s u t) (f : Fm t s u s' u') : TB s' u' t := by
  refine ⟨?_, ?_, ?_, fun k hk => ?_⟩
  · rw [(f.ks 38 (by omega)).1, (f.ku 240 (by omega)).1]; exact h.st
  · rw [(f.ks 40 (by omega)).1, (f.ku 243 (by omega)).1]; exact h.sp
  · rw [(f.ks 43 (by omega)).2, (f.ku 244 (by omega)).2]; exact h.di
  · rw [(f.ks 34 (by omega)).2, (f.ku 245 (by omega)).2]; exact h.lo k hk
theorem m10s {t b : Nat} : (10 : Int32) * nI t + nI (16 + b) - 16 = nI (10 * t + b) := by
  rw [m10, show 10 * t + (16 + b) = (10 * t + b) + 16 by omega, ← nI_add]
  exact Int32.add_sub_cancel _ _
theorem TC.hold {sd : Nat → Nat → Nat} {S U : St} {t p e c a : Nat} {f y x5 : Int32} {v : Int64} (h : TC sd S U t p (e + 1) c) (hn : nS S p ≤ 40) (h0 : S.1 0 t (e + 1) = nI a) (ha : a < 40) (h1 : S.1 1 t (e + 1) = nI 2) (hk : U.1 216 0 (40 * p + a) = 15)
    (hx : (f = 1 ∧ y = 0) ∨ (f = 2 ∧ ∃ o, o < 8 ∧ y = nI (o + 1) ∧ x5 = nI o)) : TC sd (si (sl (si S 6 t (e + 1) 1) 7 t (e + 1) v) 8 t (e + 1) y) (si (sl (si U 252 0 (9 * t + e) f) 253 0 (9 * t + e) v) 254 0 (9 * t + e) x5) t p (e + 1) c := by
  have h8 := h.d8
  have so : ∀ id o k, ¬ (id = 6 ∨ id = 8) → (si (sl (si S 6 t (e + 1) 1) 7 t (e + 1) v) 8 t (e + 1) y).1 id o k = S.1 id o k := fun id o k z => by rw [si_o (by omega), sl_1, si_o (by omega)]
  have sk : ∀ id k, k ≠ e + 1 → (si (sl (si S 6 t (e + 1) 1) 7 t (e + 1) v) 8 t (e + 1) y).1 id t k = S.1 id t k := fun id k z => by rw [si_ne (fun q => z q.2.2), sl_1, si_ne (fun q => z q.2.2)]
  have s2 : ∀ id k, ¬ (id = 7 ∧ k = e + 1) → (si (sl (si S 6 t (e + 1) 1) 7 t (e + 1) v) 8 t (e + 1) y).2 id t k = S.2 id t k := fun id k z => by rw [si_2, sl_r, if_neg (fun q => z ⟨q.1, q.2.2⟩)]; rfl
  have uo : ∀ id k, ¬ (id = 252 ∨ id = 254) → (si (sl (si U 252 0 (9 * t + e) f) 253 0 (9 * t + e) v) 254 0 (9 * t + e) x5).1 id 0 k = U.1 id 0 k := fun id k z => by rw [si_o (by omega), sl_1, si_o (by omega)]
  have uk : ∀ id k, k ≠ 9 * t + e → (si (sl (si U 252 0 (9 * t + e) f) 253 0 (9 * t + e) v) 254 0 (9 * t + e) x5).1 id 0 k = U.1 id 0 k := fun id k z => by rw [si_ne (fun q => z q.2.2), sl_1, si_ne (fun q => z q.2.2)]
  have u2 : ∀ id k, ¬ (id = 253 ∧ k = 9 * t + e) → (si (sl (si U 252 0 (9 * t + e) f) 253 0 (9 * t + e) v) 254 0 (9 * t + e) x5).2 id 0 k = U.2 id 0 k := fun id k z => by rw [si_2, sl_r, if_neg (fun q => z ⟨q.1, q.2.2⟩)]; rfl
  refine ⟨(so _ _ _ (by omega)).trans h.hp, (so _ _ _ (by omega)).trans h.ds, (uo _ _ (by omega)).trans h.du, h8, ?_, fun b b1 b2 => ?_, ?_, ?_⟩
  · rw [so _ _ _ (by omega), uo _ _ (by omega)]; exact h.st
  · obtain ⟨a', w', L⟩ := h.lv b b1 b2
    by_cases hb : b = e + 1
    · subst hb
      have ha' := L.1.1
      have ea : a' = a := (nI_eq (by omega) (by omega)).mp (L.2.1.1.symm.trans h0)
      have ew : w' = 2 := (nI_eq (by have := L.1.2; omega) (by omega)).mp (L.2.2.1.1.symm.trans h1)
      subst ea ew
      obtain ⟨l1, l2, l3, l4, l5, l6, l7⟩ := L
      refine ⟨a', 2, ⟨by unfold nS at *; rw [so _ _ _ (by omega)]; exact l1.1, by decide⟩, ⟨(so _ _ _ (by omega)).trans l2.1, (so _ _ _ (by omega)).trans l2.2.1, (uo _ _ (by omega)).trans l2.2.2⟩, ⟨(so _ _ _ (by omega)).trans l3.1, (uo _ _ (by omega)).trans l3.2⟩, ?_, ⟨(uo _ _ (by omega)).trans l5.1, l5.2⟩, ?_, ?_⟩
      · rw [so _ _ _ (by omega), uo _ _ (by omega)]; exact l4
      · unfold TmR at *
        rw [uo _ _ (by omega), so _ _ _ (by omega), so _ _ _ (by omega), so _ _ _ (by omega), so _ _ _ (by omega), u2 _ _ (by omega), uo _ _ (by omega)]; exact l6
      · refine Or.inr ⟨?_, (uo _ _ (by omega)).trans hk, rfl, ?_, ?_⟩
        · rw [si_o (by decide), sl_1, si_eq]
        · show (si (sl (si S 6 t (e + 1) 1) 7 t (e + 1) v) 8 t (e + 1) y).2 7 t (e + 1) = (si (sl (si U 252 0 (9 * t + e) f) 253 0 (9 * t + e) v) 254 0 (9 * t + e) x5).2 253 0 (9 * t + e)
          rw [si_2, sl_e, si_2, sl_e]
        · show ((si (sl (si U 252 0 (9 * t + e) f) 253 0 (9 * t + e) v) 254 0 (9 * t + e) x5).1 252 0 (9 * t + e) = 1 ∧ _) ∨ ((si (sl (si U 252 0 (9 * t + e) f) 253 0 (9 * t + e) v) 254 0 (9 * t + e) x5).1 252 0 (9 * t + e) = 2 ∧ ∃ o, o < 8 ∧ _ ∧ (si (sl (si U 252 0 (9 * t + e) f) 253 0 (9 * t + e) v) 254 0 (9 * t + e) x5).1 254 0 (9 * t + e) = nI o)
          rw [si_eq, si_eq, si_o (by decide), sl_1, si_eq]
          exact hx
    · refine ⟨a', w', L.to ?_ ?_ ?_ (fun id _ _ => ⟨sk id b hb, s2 id b (by omega)⟩) (so _ _ _ (by omega)) ?_ ?_ (fun id _ _ => ⟨uk id _ (by omega), u2 id _ (by omega)⟩)⟩
      · funext o k; exact so _ _ _ (by omega)
      · funext o k; exact so _ _ _ (by omega)
      · rw [so _ _ _ (by omega)]; exact Nat.le_refl _
      · funext k; exact uo _ _ (by omega)
      · funext k; exact uo _ _ (by omega)
  · exact h.rw.to (fun id k z => so _ _ _ (by omega)) (fun k => s2 _ _ (by omega)) (uo _ _ (by omega)) (fun id k z _ => uo _ _ (by omega)) (fun k _ => u2 _ _ (by omega)) (fun k l z1 z2 z3 => ⟨(h.rw.tm k l z1 z2 z3).1, (so _ _ _ (by omega)).trans (h.rw.tm k l z1 z2 z3).2⟩)
  · rw [so _ _ _ (by omega), h.aw, cntA_to (e + 1) (fun b _ _ => so _ _ _ (by omega))]
/-- what is THROWN: the class's numbers against the reference's arguments -/
def TF (s : St) (t : Nat) (x2 : Int32) (v : Int64) (x5 : Int32) : Prop := s.2 45 t 0 = v ∧ ((x2 = 0 ∧ s.1 46 t 0 = 0) ∨ (x2 = 1 ∧ ∃ o, o < 8 ∧ s.1 46 t 0 = nI (o + 1) ∧ x5 = nI o))
theorem leaveAll_o {s : St} {t id o e : Nat} (h : ¬ (id = 80 ∨ id = 39 ∨ id = 41 ∨ id = 42 ∨ id = 44)) : (leaveAllS s t).1 id o e = s.1 id o e := by
  unfold leaveAllS; rw [si_o (by omega), si_o (by omega), si_o (by omega), si_o (by omega), si_o (by omega)]
theorem Ac_leaveAll {s : St} {t : Nat} : Ac t s (leaveAllS s t) := by
  unfold leaveAllS
  exact (((((Ac.refl t s).si (PC.a (by omega))).si (PC.a (by omega))).si (PC.a (by omega))).si (PC.a (by omega))).si (PC.a (by omega))
theorem TI_of {s u : St} {t : Nat} {o : Nat} {x1 x2 : Int32} {x3 : Int64} (h : u.1 255 0 t = 0) : TI (tellS (leaveAllS s t) o x1 x2 x3) u t := by
  refine ⟨?_, h, ?_, ?_, ?_, ?_⟩
  · rw [(tell_c (by decide)).1]; unfold leaveAllS; simp (disch := decide) only [si_o, si_eq]
  · rw [(tell_c (by decide)).1]; unfold leaveAllS; simp (disch := decide) only [si_o, si_eq]
  · rw [(tell_c (by decide)).1]; unfold leaveAllS; simp (disch := decide) only [si_o, si_eq]
  · rw [(tell_c (by decide)).1]; unfold leaveAllS; simp (disch := decide) only [si_o, si_eq]
  · rw [(tell_c (by decide)).1]; unfold leaveAllS; simp (disch := decide) only [si_o, si_eq]
theorem sim_per {sd : Nat → Nat → Nat} {s u : St} {t p : Nat} {x2 x5 : Int32} {v : Int64} (ht : t < 6) (E : EV sd s u t p) (B : TB s u t) (hT : TF s t x2 v x5) :
    ∃ u', r_note0 5 (nI t) v (sl (si (si u 240 0 t 3) 255 0 t 0) 244 0 t v) = some u' ∧ Fw t s u (perS s t) u' ∧ TB (perS s t) u' t ∧ EV sd (perS s t) u' t p ∧ (perS s t).1 38 t 0 = 3 ∧ TI (perS s t) u' t := by
  have e45 : (leaveAllS (sl (si s 38 t 0 3) 43 t 0 (s.2 45 t 0)) t).2 45 t 0 = v := by
    show (sl (si s 38 t 0 3) 43 t 0 (s.2 45 t 0)).2 45 t 0 = v
    rw [sl_o (by decide)]; exact hT.1
  have e32 : (leaveAllS (sl (si s 38 t 0 3) 43 t 0 (s.2 45 t 0)) t).1 32 t 0 = nI t := by
    rw [leaveAll_o (by decide), sl_1, si_o (by decide)]; exact E.nu ht
  have N0 : NR (leaveAllS (sl (si s 38 t 0 3) 43 t 0 (s.2 45 t 0)) t) (sl (si (si u 240 0 t 3) 255 0 t 0) 244 0 t v) := E.nr.lv (fun id z1 z2 => ⟨by funext o e; rw [leaveAll_o (by omega), sl_1, si_o (by omega)], by show (sl (si s 38 t 0 3) 43 t 0 (s.2 45 t 0)).2 id = _; rw [sl_id (by omega)]; rfl⟩) (fun id z => ⟨by rw [sl_1, si_id (by omega), si_id (by omega)], by rw [sl_id (by omega)]; rfl⟩)
  have G0 : GV (leaveAllS (sl (si s 38 t 0 3) 43 t 0 (s.2 45 t 0)) t) := GV_leaveAll (GV_sl (GV_si E.gv (okN_of (q := 3) (by decide))))
  obtain ⟨u', n1, n2, n3⟩ := sim_note (t := t) (k := 5) (x := nI t) (v := v) (by omega) N0 (G0.H 1) (fun _ => rfl)
  have eP : perS s t = tellS (leaveAllS (sl (si s 38 t 0 3) 43 t 0 (s.2 45 t 0)) t) (co t) 5 (nI t) v := by
    unfold perS; rw [e32, e45]
  rw [← eP] at n2
  have a0 : Ac t s (perS s t) := by
    rw [eP]
    exact ((((Ac.refl t s).si (PC.a (by omega))).sl (PC.a (by omega))).trans Ac_leaveAll).trans Ac_tell
  have tc : ∀ id, ¬ (17 ≤ id ∧ id ≤ 21) → (perS s t).1 id = (leaveAllS (sl (si s 38 t 0 3) 43 t 0 (s.2 45 t 0)) t).1 id ∧ (perS s t).2 id = (leaveAllS (sl (si s 38 t 0 3) 43 t 0 (s.2 45 t 0)) t).2 id := fun id z => by rw [eP]; exact tell_c z
  have I : TI (perS s t) u' t := by
    rw [eP]
    refine TI_of ?_
    rw [(n3 255 (by omega)).1, sl_1, si_eq]
  have k38 : (perS s t).1 38 t 0 = 3 := by rw [(tc 38 (by omega)).1, leaveAll_o (by decide), sl_1, si_eq]
  have F : Fw t s u (perS s t) u' := by
    refine ⟨a0, ((((Ag.refl t u).si (PT.a (by omega))).si (PT.a (by omega))).sl (PT.a (by omega))).trans n3.ag, ((((Cl.refl u).si (by decide)).si (by decide)).sl (by decide)).trans n3.cl, fun k hk => ?_, ?_, fun _ => I.a5⟩
    · unfold cN at hk
      rw [I.a0] at hk
      exact absurd hk (Nat.not_lt_zero _)
    · rw [(tc 32 (by omega)).1, e32, E.nu ht]
  refine ⟨u', n1, F, ⟨?_, ?_, ?_, fun k hk => ?_⟩, E.tw F n2 (by rw [eP]; exact GV_tell G0), k38, I⟩
  · rw [k38, (n3 240 (by omega)).1, sl_1, si_o (by decide), si_eq]
  · rw [(tc 40 (by omega)).1, leaveAll_o (by decide), sl_1, si_o (by decide), (n3 243 (by omega)).1, sl_1, si_o (by decide), si_o (by decide)]; exact B.sp
  · rw [(tc 43 (by omega)).2, (n3 244 (by omega)).2, sl_e]
    show (sl (si s 38 t 0 3) 43 t 0 (s.2 45 t 0)).2 43 t 0 = v
    rw [sl_e]; exact hT.1
  · rw [(tc 34 (by omega)).2, (n3 245 (by omega)).2, sl_o (by decide)]
    show (sl (si s 38 t 0 3) 43 t 0 (s.2 45 t 0)).2 34 t k = _
    rw [sl_o (by decide)]; exact B.lo k hk
/-- how a THROW ends -/
def UwO (sd : Nat → Nat → Nat) (t p : Nat) (s u s' u' : St) (r v : Int32) : Prop :=
  Fw t s u s' u' ∧ TB s' u' t ∧ EV sd s' u' t p ∧ ((r = 1 ∧ v = 1 ∧ s'.1 38 t 0 = s.1 38 t 0 ∧ ∃ d' c', TC sd s' u' t p d' c' ∧ PS sd s' u' t p d') ∨ (r = 0 ∧ v = 3 ∧ s'.1 38 t 0 = 3 ∧ TI s' u' t))
theorem stK_eq {s : St} {t p e a w : Nat} (hp : s.1 37 t 0 = nI p) (h13 : p < 13) (h0 : s.1 0 t (e + 1) = nI a) (ha : a < 40) (h1 : s.1 1 t (e + 1) = nI w) (hw : w < 3) (hd : s.1 41 t 0 = nI (e + 1)) :
    stK s t (e + 1) = if s.1 68 p a = 18 ∧ w = 0 ∧ s.1 46 t 0 = 0 then 1 else if s.1 68 p a = 20 ∧ w = 1 then 2 else if s.1 68 p a = 23 ∧ w = 0 ∧ s.1 46 t 0 = nI (e + 1) then 3 else 0 := by
  unfold stK
  rw [kd_eq hp h13 h0 ha, h1, hd]
  simp only [nI_z (show w < 2 ^ 31 by omega), nI_o (show w < 2 ^ 31 by omega)]
theorem sim_unw {sd : Nat → Nat → Nat} {t p : Nat} {x2 x5 : Int32} {v : Int64} (ht : t < 6) : ∀ (d n : Nat) (s u : St) (c : Nat), EV sd s u t p → TC sd s u t p d c → TB s u t → TF s t x2 v x5 → d < n →
    ∃ r y s' u', unwS t d s = (y, s') ∧ r_throwOut_32 n (nI t) x2 v x5 u = some (r, u') ∧ UwO sd t p s u s' u' r y := by
  intro d
  induction d with
  | zero =>
    intro n s u c E h B hT hn
    obtain ⟨n, rfl⟩ : ∃ q, n = q + 1 := ⟨n - 1, by omega⟩
    obtain ⟨u', a1, a2, a3, a4, a5, a6⟩ := sim_per ht E B hT
    refine ⟨0, 3, perS s t, u', rfl, ?_, a2, a3, a4, Or.inr ⟨rfl, rfl, a5, a6⟩⟩
    rw [r_throwOut_32.eq_2, gI (by omega) (by decide), nI_clamp (by omega), h.du, if_pos (by decide), gI (by omega) (by decide), gI (by omega) (by decide), gI (by omega) (by decide), a1, cal_s]
  | succ e ih =>
    intro n s u c E h B hT hn
    obtain ⟨n, rfl⟩ : ∃ q, n = q + 1 := ⟨n - 1, by omega⟩
    have hc := h.rw.c22
    have h8 := h.d8
    have h12 := E.p12
    have n40 := E.pr.n4.2
    obtain ⟨a, w, L⟩ := h.lv (e + 1) (by omega) (Nat.le_refl _)
    have hw := L.1.2
    have ha := L.1.1
    have S := E.pr.st a ha
    obtain ⟨u1, c1, l1, T1, K1, F1, E1⟩ := sim_lv (by omega) E h (by omega)
    have T1 : TC sd (leaveS s t) u1 t p e c1 := T1
    have e216 : u1.1 216 0 (40 * p + a) = u.1 216 0 (40 * p + a) := (K1.1 216 _ (by omega)).1
    have hsd : sd p a = e := L.2.2.2.2.1.2
    have R : r_throwOut_32 (n + 1) (nI t) x2 v x5 u = if u.1 216 0 (40 * p + a) = 13 then (if nI w = 0 then (if x2 = 0 then (grd (ib (nI (40 * p + a)) 480) (u1.1 221 0 (40 * p + a)) fun v32 => grd (ib ((((10 : Int32) * nI t) + v32) - (16 : Int32)) 70) (sl u1 245 0 ((((10 : Int32) * nI t) + v32) - (16 : Int32)).toNatClampNeg v) fun s33 => grd (ib (nI t) 7) (s33.1 242 0 t) fun v34 => cal2 (r_atLeast v34 (1 : Int32) s33) fun v36 s35 => cal (r_goIn (nI t) (nI (40 * p + a)) (1 : Int32) v36 s35) fun s37 => some ((1 : Int32), s37))
        else r_throwOut_145 (r_throwOut_32 n) (nI t) x2 v x5 (nI e) (nI (9 * t + e)) (nI (40 * p + a)) (nI w) u1) else r_throwOut_145 (r_throwOut_32 n) (nI t) x2 v x5 (nI e) (nI (9 * t + e)) (nI (40 * p + a)) (nI w) u1) else r_throwOut_145 (r_throwOut_32 n) (nI t) x2 v x5 (nI e) (nI (9 * t + e)) (nI (40 * p + a)) (nI w) u1 := by
      rw [r_throwOut_32.eq_2, gI (by omega) (by decide), nI_clamp (by omega), h.du, if_neg (nI_nle (by omega) (by omega)), gI (by omega) (by decide)]
      simp only [nI_pred, m9]
      rw [gI (by omega) (by decide), nI_clamp (by omega), show u.1 247 0 (9 * t + e) = nI (40 * p + a) from L.2.1.2.2, gI (by omega) (by decide), show u.1 248 0 (9 * t + e) = nI w from L.2.2.1.2, l1, cal_s, gI (by omega) (by decide), nI_clamp (by omega), e216]
    have T145 : ¬ (u.1 216 0 (40 * p + a) = 15 ∧ w = 1) → r_throwOut_145 (r_throwOut_32 n) (nI t) x2 v x5 (nI e) (nI (9 * t + e)) (nI (40 * p + a)) (nI w) u1 = r_throwOut_223 (r_throwOut_32 n) (nI t) x2 v x5 (nI e) (nI (40 * p + a)) (nI w) u1 := fun z => by
      unfold r_throwOut_145
      rw [gI (by omega) (by decide), nI_clamp (by omega), e216]
      by_cases z1 : u.1 216 0 (40 * p + a) = 15
      · rw [if_pos z1, if_neg (fun q => z ⟨z1, (nI_o (by omega)).mp q⟩)]
      · rw [if_neg z1]
    have hTL : TF (leaveS s t) t x2 v x5 := by
      unfold TF
      rw [leave_2 (by decide), leave_id (by decide) (by decide) (by decide) (by decide) (by decide) (by decide) (by decide)]; exact hT
    have hGo : stK s t (e + 1) = 0 → r_throwOut_32 (n + 1) (nI t) x2 v x5 u = r_throwOut_32 n (nI t) x2 v x5 u1 → ∃ r y s' u', unwS t (e + 1) s = (y, s') ∧ r_throwOut_32 (n + 1) (nI t) x2 v x5 u = some (r, u') ∧ UwO sd t p s u s' u' r y := fun z1 z2 => by
      obtain ⟨r, y, s', u', r1, r2, r3, r4, r5, r6⟩ := ih n (leaveS s t) u1 c1 E1 T1 (B.fm F1) hTL (by omega)
      refine ⟨r, y, s', u', ?_, by rw [z2]; exact r2, F1.w.trans r3, r4, r5, ?_⟩
      · show (if stK s t (e + 1) = 0 then unwS t e (leaveS s t) else _) = _
        rw [if_pos z1]; exact r1
      · rw [(F1.ks 38 (by omega)).1] at r6; exact r6
    have unw1 : ¬ stK s t (e + 1) = 0 → unwS t (e + 1) s = (1, stS s t (e + 1)) := fun z => by
      show (if stK s t (e + 1) = 0 then unwS t e (leaveS s t) else _) = _
      rw [if_neg z]
    have sK := stK_eq h.hp (by omega) L.2.1.1 (by omega) L.2.2.1.1 hw h.ds
    have h39 : ∀ h4 : s.1 4 t (e + 1) = 0, u1.1 242 0 t = s.1 2 t (e + 1) := fun h4 => by rw [← T1.st, leave_eq0 h.ds (by omega) h8 h4, si_o (by decide), si_eq]
    by_cases k13 : u.1 216 0 (40 * p + a) = 13 ∧ w = 0 ∧ x2 = 0
    · obtain ⟨k13, rfl, rfl⟩ := k13
      have k18 := (km13 S.kd).mp k13
      have h46 : s.1 46 t 0 = 0 := by
        rcases hT.2 with z | z
        · exact z.2
        · exact absurd z.1 (by decide)
      have h4 : s.1 4 t (e + 1) = 0 := by
        rcases L.2.2.2.2.2.1 with z | z
        · exact absurd z.1 (by rw [k13]; decide)
        · exact z.2.1
      obtain ⟨b, b1, b2, b3⟩ := S.lt (by rw [k18]; decide)
      rw [if_pos ⟨k18, rfl, h46⟩] at sK
      have eS : stS s t (e + 1) = overS (sl s 34 t b (s.2 45 t 0)) t (e + 1) 1 (mx (s.1 2 t (e + 1)) 1) := by
        unfold stS; rw [sK, if_pos rfl]
        unfold stS1 oN
        rw [pN_of h.hp (by omega), L.2.1.1, nI_clamp (by omega), b2, nI_clamp (by omega)]
      have e1 : (overS (sl s 34 t b (s.2 45 t 0)) t (e + 1) 1 (mx (s.1 2 t (e + 1)) 1)).1 = (overS s t (e + 1) 1 (mx (s.1 2 t (e + 1)) 1)).1 := rfl
      have e2 : (overS (sl s 34 t b (s.2 45 t 0)) t (e + 1) 1 (mx (s.1 2 t (e + 1)) 1)).2 = (sl s 34 t b (s.2 45 t 0)).2 := rfl
      have ac : Ac t s (overS (sl s 34 t b (s.2 45 t 0)) t (e + 1) 1 (mx (s.1 2 t (e + 1)) 1)) := ((Ac.refl t s).sl (PC.a (by omega))).trans Ac_over
      obtain ⟨C1, C2, C3⟩ := over_core (u2 := sl u1 245 0 (10 * t + b) v) (q := 1) (x := mx (s.1 2 t (e + 1)) 1) (s' := overS (sl s 34 t b (s.2 45 t 0)) t (e + 1) 1 (mx (s.1 2 t (e + 1)) 1)) E h L h4 T1 K1 F1.sb (fun id z => ⟨rfl, sl_id (by omega)⟩) (by decide) (S.b1 (by rw [k18]; decide)) (fun z => absurd z.2 (by decide)) (fun id z => ⟨by rw [e1], by rw [e2, sl_id (by omega)]; rfl⟩) ac
      have Fw1 : Fw t s u (overS (sl s 34 t b (s.2 45 t 0)) t (e + 1) 1 (mx (s.1 2 t (e + 1)) 1)) (giU (sl u1 245 0 (10 * t + b) v) t e (40 * p + a) 1 (mx (s.1 2 t (e + 1)) 1)) :=
        ⟨ac, (F1.ag.trans ((Ag.refl t u1).sl (Or.inr (Or.inr (Or.inr (Or.inl ⟨rfl, by omega, by omega⟩)))))).trans (Ag_gi (by omega)), (F1.cl.trans ((Cl.refl u1).sl (by decide))).trans Cl_gi, C3, by rw [e1, over_id (by decide) (by decide) (by decide) (by decide) (by decide)], fun z => by rw [e1, over_id (by decide) (by decide) (by decide) (by decide) (by decide)]; exact z⟩
      refine ⟨1, 1, _, _, (unw1 (by rw [sK]; decide)).trans (by rw [eS]), ?_, Fw1, ⟨?_, ?_, ?_, fun k hk => ?_⟩, E.tw Fw1 (E.nr.lv (fun id z1 z2 => ⟨by rw [e1, over_id (by omega) (by omega) (by omega) (by omega) (by omega)], by rw [e2, sl_id (by omega)]⟩) (fun id z => ⟨by rw [gi_id (by omega), sl_1]; exact (K1.ku id (by omega)).1, by rw [gi_o2 (by omega), sl_id (by omega)]; exact (K1.ku id (by omega)).2⟩)) (GV_over (GV_sl E.gv) (by decide) (okN_mx (E.gv 2 t (e + 1) : okN 3 _))), Or.inl ⟨rfl, rfl, by rw [e1, over_id (by decide) (by decide) (by decide) (by decide) (by decide)], e + 1, c1, C1, C2⟩⟩
      · rw [R, if_pos k13, if_pos (show nI 0 = 0 from rfl), if_pos rfl, gI (by omega) (by decide), (K1.1 221 _ (by omega)).1, b3, m10s, gI (by omega) (by decide), nI_clamp (by omega), gI (by omega) (by decide), sl_1, h39 h4, at_least, cal2_s, show (1 : Int32) = nI 1 from rfl, r_goIn_eq (d := e) (by omega) (by omega) (by omega) (by decide) (by rw [sl_1]; exact T1.du), cal_s]
      · rw [e1, over_id (by decide) (by decide) (by decide) (by decide) (by decide), gi_o (by decide), sl_1, (F1.ku 240 (by omega)).1]; exact B.st
      · rw [e1, over_id (by decide) (by decide) (by decide) (by decide) (by decide), gi_o (by decide), sl_1, (F1.ku 243 (by omega)).1]; exact B.sp
      · rw [e2, sl_o (by decide), gi_o2 (by decide), sl_o (by decide), (F1.ku 244 (by omega)).2]; exact B.di
      · rw [e2, gi_o2 (by decide)]
        by_cases hkb : k = b
        · subst hkb; rw [sl_e, sl_e]; exact hT.1
        · rw [sl_q hkb, sl_q (by omega), (F1.ku 245 (by omega)).2]; exact B.lo k hk
    · have nK1 : ¬ (s.1 68 p a = 18 ∧ w = 0 ∧ s.1 46 t 0 = 0) := fun z => k13 ⟨(km13 S.kd).mpr z.1, z.2.1, by
        rcases hT.2 with q | ⟨-, o, o1, o2, -⟩
        · exact q.1
        · rw [z.2.2] at o2; exact absurd ((nI_eq (a := 0) (by omega) (by omega)).mp o2) (by omega)⟩
      rw [if_neg nK1] at sK
      have R2 : r_throwOut_32 (n + 1) (nI t) x2 v x5 u = r_throwOut_145 (r_throwOut_32 n) (nI t) x2 v x5 (nI e) (nI (9 * t + e)) (nI (40 * p + a)) (nI w) u1 := by
        rw [R]
        by_cases z1 : u.1 216 0 (40 * p + a) = 13
        · rw [if_pos z1]
          by_cases z2 : w = 0
          · rw [if_pos ((nI_z (by omega)).mpr z2), if_neg (fun q => k13 ⟨z1, z2, q⟩)]
          · rw [if_neg (fun q => z2 ((nI_z (by omega)).mp q))]
        · rw [if_neg z1]
      by_cases k15 : u.1 216 0 (40 * p + a) = 15 ∧ w = 1
      · obtain ⟨k15, rfl⟩ := k15
        have k20 := (km15 S.kd).mp k15
        have h4 : s.1 4 t (e + 1) = 0 := by
          rcases L.2.2.2.2.2.1 with z | z
          · exact absurd z.1 (by rw [k15]; decide)
          · exact z.2.1
        rw [if_pos ⟨k20, rfl⟩] at sK
        have eS : stS s t (e + 1) = stS2 s t (e + 1) := by unfold stS; rw [sK, if_neg (by decide), if_pos rfl]
        have NO : NR (overS s t (e + 1) 2 (mx (s.1 2 t (e + 1)) 1)) u1 := E.nr.lv (fun id z1 z2 => ⟨over_id (by omega) (by omega) (by omega) (by omega) (by omega), rfl⟩) (fun id hi => K1.ku id (by omega))
        have GO : GV (overS s t (e + 1) 2 (mx (s.1 2 t (e + 1)) 1)) := GV_over E.gv (by decide) (okN_mx (E.gv 2 t (e + 1) : okN 3 _))
        obtain ⟨u2, n1, n2, n3⟩ := sim_note (t := t) (k := 3) (x := (overS s t (e + 1) 2 (mx (s.1 2 t (e + 1)) 1)).1 32 t 0) (v := 0) (by omega) NO (GO.H 1) (fun h6 => by rw [over_id (by decide) (by decide) (by decide) (by decide) (by decide)]; exact E.nu h6)
        have n2 : NR (lastS s t (e + 1)) u2 := n2
        obtain ⟨T2, P2, F2⟩ := sim_over (q := 2) (x := mx (s.1 2 t (e + 1)) 1) (s' := lastS s t (e + 1)) E h L h4 T1 K1 F1 n3 (by decide) (S.b2 k20) (fun z => absurd z.2 (by decide)) (fun id z => tell_c z)
        have l46 : (lastS s t (e + 1)).1 46 t 0 = s.1 46 t 0 := by unfold lastS; rw [(tell_c (by decide)).1, over_id (by decide) (by decide) (by decide) (by decide) (by decide)]
        have l45 : (lastS s t (e + 1)).2 45 t 0 = v := by unfold lastS; rw [(tell_c (by decide)).2]; exact hT.1
        have l0 : (lastS s t (e + 1)).1 0 t (e + 1) = nI a := by unfold lastS; rw [(tell_c (by decide)).1, over_id (by decide) (by decide) (by decide) (by decide) (by decide)]; exact L.2.1.1
        have l1' : (lastS s t (e + 1)).1 1 t (e + 1) = nI 2 := by
          unfold lastS; rw [(tell_c (by decide)).1, over_eq h.hp (by omega) L.2.1.1 (by omega)]; simp (disch := decide) only [si_o, si_eq]
        obtain ⟨f, hf1, hf2⟩ : ∃ f : Int32, ((f = 1 ∧ s.1 46 t 0 = 0) ∨ (f = 2 ∧ ∃ o, o < 8 ∧ s.1 46 t 0 = nI (o + 1) ∧ x5 = nI o)) ∧ (if x2 = 0 then r_throwOut_203 v x5 (nI (9 * t + e)) 1 (nI (9 * t + e)) (giU u2 t e (40 * p + a) 2 (mx (s.1 2 t (e + 1)) 1)) else r_throwOut_203 v x5 (nI (9 * t + e)) 2 (nI (9 * t + e)) (giU u2 t e (40 * p + a) 2 (mx (s.1 2 t (e + 1)) 1))) = some (1, si (sl (si (giU u2 t e (40 * p + a) 2 (mx (s.1 2 t (e + 1)) 1)) 252 0 (9 * t + e) f) 253 0 (9 * t + e) v) 254 0 (9 * t + e) x5) := by
          rcases hT.2 with ⟨z1, z2⟩ | ⟨z1, z2⟩
          · refine ⟨1, Or.inl ⟨rfl, z2⟩, ?_⟩
            rw [if_pos z1]; unfold r_throwOut_203
            rw [gI (by omega) (by decide), nI_clamp (by omega), gI (by omega) (by decide), gI (by omega) (by decide)]
          · refine ⟨2, Or.inr ⟨rfl, z2⟩, ?_⟩
            rw [if_neg (by rw [z1]; decide)]; unfold r_throwOut_203
            rw [gI (by omega) (by decide), nI_clamp (by omega), gI (by omega) (by decide), gI (by omega) (by decide)]
        have T3 := T2.hold (v := v) (x5 := x5) (f := f) (y := s.1 46 t 0) (by rw [nS_to F2.ac.ap]; exact n40) l0 (by omega) l1' (by rw [gi_o (by decide), (n3 216 (by omega)).1, e216]; exact k15) hf1
        have eS2 : stS s t (e + 1) = si (sl (si (lastS s t (e + 1)) 6 t (e + 1) 1) 7 t (e + 1) v) 8 t (e + 1) (s.1 46 t 0) := by
          rw [eS]; unfold stS2; rw [l45, l46]
        have F3 : Fm t s u (si (sl (si (lastS s t (e + 1)) 6 t (e + 1) 1) 7 t (e + 1) v) 8 t (e + 1) (s.1 46 t 0)) (si (sl (si (giU u2 t e (40 * p + a) 2 (mx (s.1 2 t (e + 1)) 1)) 252 0 (9 * t + e) f) 253 0 (9 * t + e) v) 254 0 (9 * t + e) x5) :=
          F2.trans (Fm.mk1 (by rw [cN_of T2.rw.cs T2.rw.c22]; exact T2.rw.c22) ((((Ac.refl t _).si (PC.a (by omega))).sl (PC.a (by omega))).si (PC.a (by omega))) ((((Ag.refl t _).si (PT.l (by omega) (by omega))).sl (PT.l (by omega) (by omega))).si (PT.l (by omega) (by omega))) ((((Cl.refl _).si (by decide)).sl (by decide)).si (by decide)) (fun id hi => ⟨by rw [si_id (by omega), sl_1, si_id (by omega)], by rw [si_2, sl_id (by omega)]; rfl⟩) (fun id hi => ⟨by rw [si_id (by omega), sl_1, si_id (by omega)], by rw [si_2, sl_id (by omega)]; rfl⟩) (by rw [si_o (by decide), sl_1, si_o (by decide)]) (fun k => by rw [si_o (by decide), sl_1, si_o (by decide)]) (fun k _ => by rw [si_o (by decide), sl_1, si_o (by decide)]))
        have N3 : NR (si (sl (si (lastS s t (e + 1)) 6 t (e + 1) 1) 7 t (e + 1) v) 8 t (e + 1) (s.1 46 t 0)) (si (sl (si (giU u2 t e (40 * p + a) 2 (mx (s.1 2 t (e + 1)) 1)) 252 0 (9 * t + e) f) 253 0 (9 * t + e) v) 254 0 (9 * t + e) x5) := n2.lv (fun id z1 z2 => ⟨by rw [si_id (by omega), sl_1, si_id (by omega)], by rw [si_2, sl_id (by omega)]; rfl⟩) (fun id z => ⟨by rw [si_id (by omega), sl_1, si_id (by omega), gi_id (by omega)], by rw [si_2, sl_id (by omega), si_2, gi_o2 (by omega)]⟩)
        have G3 : GV (si (sl (si (lastS s t (e + 1)) 6 t (e + 1) 1) 7 t (e + 1) v) 8 t (e + 1) (s.1 46 t 0)) := GV_si (GV_sl (GV_si (GV_last E.gv) (okN_of (q := 1) (by decide)))) (E.gv 46 t 0 : okN 9 _)
        refine ⟨1, 1, _, _, (unw1 (by rw [sK]; decide)).trans (by rw [eS2]), ?_, F3.w, B.fm F3, E.to F3 N3 G3, Or.inl ⟨rfl, rfl, by rw [(F3.ks 38 (by omega)).1], e + 1, c1, T3, ?_⟩⟩
        · rw [R2]
          unfold r_throwOut_145
          rw [gI (by omega) (by decide), nI_clamp (by omega), e216, if_pos k15, if_pos (show nI 1 = 1 from rfl), n1, cal_s, gI (by omega) (by decide), nI_clamp (by omega), (n3 242 (by omega)).1, h39 h4, at_least, cal2_s, show (2 : Int32) = nI 2 from rfl, r_goIn_eq (d := e) (by omega) (by omega) (by omega) (by decide) (by rw [(n3 246 (by omega)).1]; exact T1.du), cal_s]
          exact hf2
        · unfold PS at *
          rw [nS_to F3.ac.ap, si_o (by decide), sl_1, si_o (by decide), si_o (by decide), sl_1, si_o (by decide)]
          rw [nS_to F2.ac.ap] at P2; exact P2
      · rw [T145 k15] at R2
        rw [if_neg (fun z => k15 ⟨(km15 S.kd).mpr z.1, z.2⟩)] at sK
        by_cases kW : u.1 216 0 (40 * p + a) = 18 ∧ w = 0 ∧ x2 ≠ 0 ∧ x5 = nI e
        · obtain ⟨k18, rfl, kx, k5⟩ := kW
          have k23 := (km18 S.kd).mp k18
          obtain ⟨o, o1, o2, o3⟩ : ∃ o, o < 8 ∧ s.1 46 t 0 = nI (o + 1) ∧ x5 = nI o := by
            rcases hT.2 with z | z
            · exact absurd z.1 kx
            · exact z.2
          have eo : o = e := (nI_eq (by omega) (by omega)).mp (o3.symm.trans k5)
          subst eo
          rw [if_pos ⟨k23, rfl, o2⟩] at sK
          have eS : stS s t (o + 1) = inS (leaveS s t) t 1 ((leaveS s t).1 39 t 0) := by unfold stS; rw [sK, if_neg (by decide), if_neg (by decide), if_pos rfl]; rfl
          have hL3 : (leaveS s t).1 3 t o = nI a := by rw [leave_3]; exact L.2.1.2.1
          have haL : a < nS (leaveS s t) p := by rw [nS_to Ac_leave.ap]; exact ha
          have R3 : r_throwOut_32 (n + 1) (nI t) x2 v x5 u = if u1.1 220 0 (3 * (40 * p + a) + 1) = 0 then some (1, bhU u1 t (40 * p + a)) else (cal (r_goIn (nI t) (nI (40 * p + a)) 1 (u1.1 242 0 t) u1) fun s20 => some ((1 : Int32), s20)) := by
            rw [R2]
            unfold r_throwOut_223
            rw [gI (by omega) (by decide), nI_clamp (by omega), e216, if_pos k18, if_pos (show nI 0 = 0 from rfl), if_neg kx, if_pos k5, show (3 : Int32) * nI (40 * p + a) + 1 = nI (3 * (40 * p + a) + 1) from m3 _ 1, gI (by omega) (by decide), nI_clamp (by omega), gI (by omega) (by decide), gI (by omega) (by decide), nI_clamp (by omega), gI (by omega) (by decide)]
            rfl
          by_cases hb : u1.1 220 0 (3 * (40 * p + a) + 1) = 1
          · obtain ⟨I1, I2, I3, I4, I5⟩ := sim_in (w := 1) (y := (leaveS s t).1 39 t 0) ht E1 T1 hL3 haL hsd (by decide) hb (E1.gv 39 t 0 : okN 3 _)
            refine ⟨1, 1, _, _, (unw1 (by rw [sK]; decide)).trans (by rw [eS]), ?_, (F1.trans I4).w, B.fm (F1.trans I4), I5, Or.inl ⟨rfl, rfl, by rw [((F1.trans I4).ks 38 (by omega)).1], o + 1, c1, I2, I3⟩⟩
            rw [R3, if_neg (by rw [hb]; decide), ← T1.st, show (1 : Int32) = nI 1 from rfl, I1, cal_s]
          · have eI := in_no (y := (leaveS s t).1 39 t 0) E1 T1 hL3 haL (show 1 < 3 by decide) hb
            have hb0 : u1.1 220 0 (3 * (40 * p + a) + 1) = 0 := by
              rcases (E1.pr.st a haL).bd 1 (by decide) with z | z
              · exact z.2
              · exact absurd z.1 hb
            obtain ⟨I2, I3, I4, I5⟩ := sim_beh E1 T1 hL3 haL hsd
            refine ⟨1, 1, _, _, (unw1 (by rw [sK]; decide)).trans (by rw [eS, eI]), ?_, (F1.trans I4).w, B.fm (F1.trans I4), I5, Or.inl ⟨rfl, rfl, by rw [((F1.trans I4).ks 38 (by omega)).1], o, c1, I2, I3⟩⟩
            rw [R3, if_pos hb0]
        · refine hGo ?_ ?_
          · rw [sK, if_neg]
            rintro ⟨z1, z2, z3⟩
            rcases hT.2 with ⟨q1, q2⟩ | ⟨q1, o, o1, o2, o3⟩
            · rw [q2] at z3; exact absurd ((nI_eq (a := 0) (by omega) (by omega)).mp z3) (by omega)
            · have eo : o + 1 = e + 1 := (nI_eq (by omega) (by omega)).mp (o2.symm.trans z3)
              exact kW ⟨(km18 S.kd).mpr z1, z2, by rw [q1]; decide, by rw [o3, show o = e by omega]⟩
          · rw [R2]
            unfold r_throwOut_223 r_throwOut_297
            rw [gI (by omega) (by decide), nI_clamp (by omega), e216]
            by_cases z1 : u.1 216 0 (40 * p + a) = 18
            · rw [if_pos z1]
              by_cases z2 : w = 0
              · rw [if_pos ((nI_z (by omega)).mpr z2)]
                by_cases z3 : x2 = 0
                · rw [if_pos z3]
                · rw [if_neg z3, if_neg (fun q => kW ⟨z1, z2, z3, q⟩)]
              · rw [if_neg (fun q => z2 ((nI_z (by omega)).mp q))]
            · rw [if_neg z1]
