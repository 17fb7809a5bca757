/-! send, on both sides -/
theorem WT.s44 {sd : Nat → Nat → Nat} {pc n n' t p d c : Nat} {s u s1 u1 : St} (w : WT sd pc n s u t p d c) (ht : t < 6) (hs : ∀ id o e, ¬ (id = 44 ∧ o = t) → ¬ ((80 ≤ id ∧ id ≤ 83) ∧ o ≠ t) → id ≠ 77 → s1.1 id o e = s.1 id o e ∧ s1.2 id o e = s.2 id o e)
    (hu : ∀ id e, ¬ (260 ≤ id ∧ id ≤ 262) → ¬ ((255 ≤ id ∧ id ≤ 259) ∧ ¬ PT t id e) → id ≠ 268 → u1.1 id 0 e = u.1 id 0 e ∧ u1.2 id 0 e = u.2 id 0 e) (hG : GV s1) (ro : ∀ h, h < 6 → h ≠ t → ∀ d c, RwR s u h d c → ∃ c', RwR s1 u1 h d c')
    (ri : ∀ h, h < 6 → h ≠ t → ¬ s.1 38 h 0 = 1 → s.1 80 h 0 = 0 → u.1 255 0 h = 0 → s1.1 80 h 0 = 0 ∧ u1.1 255 0 h = 0) (sg : SG s1 u1 n') : WT sd pc n' s1 u1 t p d c ∧ Fc s s1 ∧ Fr u u1 := by
  have fc : Fc s s1 := fun id z => ⟨by funext o e; exact (hs id o e (by omega) (by omega) (by omega)).1, by funext o e; exact (hs id o e (by omega) (by omega) (by omega)).2⟩
  have fr : Fr u u1 := fun id z1 z2 => ⟨by funext e; exact (hu id e (by omega) (by omega) (by omega)).1, by funext e; exact (hu id e (by omega) (by omega) (by omega)).2⟩
  have e16 : s1.1 16 0 0 = s.1 16 0 0 := (hs 16 0 0 (by omega) (by omega) (by omega)).1
  refine ⟨⟨⟨hG, w.wc.nr.lv (fun id z1 z2 => ⟨by funext o e; exact (hs id o e (by omega) (by omega) (by omega)).1, by funext o e; exact (hs id o e (by omega) (by omega) (by omega)).2⟩) (fun id z => ⟨by funext e; exact (hu id e (by omega) (by omega) (by omega)).1, by funext e; exact (hu id e (by omega) (by omega) (by omega)).2⟩), by rw [e16]; exact w.wc.ck, w.wc.pp.to fc fr, sg, fun b hb => ?_⟩, fun g hg hn => ?_, ⟨?_, ?_, ?_, fun k hk => ?_⟩, ?_, ?_, w.hp, ?_⟩, fc, fr⟩
  · rw [(hs 114 0 b (by omega) (by omega) (by omega)).1, (hs 115 0 b (by omega) (by omega) (by omega)).2, (hu 238 b (by omega) (by omega) (by omega)).1, (hu 239 b (by omega) (by omega) (by omega)).2]; exact w.wc.bx b hb
  · exact (w.th g hg hn).to (fun id e z => hs id g e (by omega) (by omega) (by omega)) (fun id e z1 z2 => hu id e (by omega) (by omega) (by omega)) fc.ap fr.ar (by rw [e16]; exact Nat.le_refl _) (fun d' c' R' => ro g hg hn d' c' R') (fun z0 z1 z2 => ri g hg hn z0 z1 z2)
  · rw [(hs 38 t 0 (by omega) (by omega) (by omega)).1, (hu 240 t (by omega) (by omega) (by omega)).1]; exact w.tb.st
  · rw [(hs 40 t 0 (by omega) (by omega) (by omega)).1, (hu 243 t (by omega) (by omega) (by omega)).1]; exact w.tb.sp
  · rw [(hs 43 t 0 (by omega) (by omega) (by omega)).2, (hu 244 t (by omega) (by omega) (by omega)).2]; exact w.tb.di
  · rw [(hs 34 t k (by omega) (by omega) (by omega)).2, (hu 245 (10 * t + k) (by omega) (by omega) (by omega)).2]; exact w.tb.lo k hk
  · rw [(hs 32 t 0 (by omega) (by omega) (by omega)).1]; exact w.nu
  · exact w.tc.to (fun id e z => hs id t e (by omega) (by omega) (by omega)) (fc 64 (by omega)).1 (fc 70 (by omega)).1 (by rw [e16]; exact Nat.le_refl _) (fr 216 (by omega) (by omega)).1 (fr 220 (by omega) (by omega)).1 (fun id e hp z => hu id e (by omega) (fun q => q.2 hp) (by omega))
  · rw [(hs 38 t 0 (by omega) (by omega) (by omega)).1]; exact w.rn
theorem serT {s u : St} {g t c n r : Nat} (hg : g < 6) (ht : t < 6) (hS : SG s u n) (hc : cN s g = c) (h3 : u.1 261 0 t = nI r) (h4 : 1 ≤ r) (h5 : r ≤ n) : ∀ k, k < c → (u.1 259 0 (32 * g + k) = nI r ↔ s.1 81 g k = nI t) := fun k hk => by
  have n30 := hS.n30
  obtain ⟨w, w1, w2⟩ := hS.rs g k hg (by omega)
  rcases w2 with ⟨w3, w4, w5, w6⟩ | ⟨w3, w4, w5⟩
  · constructor
    · intro z
      have : w = t := hS.di w t w3 ht (by rw [← w6, z, h3]) (by rw [← w6, z]; exact fun q => absurd ((nI_z (by omega)).mp q) (by omega))
      rw [w1, this]
    · intro z
      have : w = t := (nI_eq (by omega) (by omega)).mp (w1.symm.trans z)
      rw [w6, this, h3]
  · constructor
    · intro z; rw [w5] at z; exact absurd ((nI_eq (a := 0) (by omega) (by omega)).mp z) (by omega)
    · intro z; have : w = t := (nI_eq (by omega) (by omega)).mp (w1.symm.trans z); omega
theorem sim_send {sd : Nat → Nat → Nat} {pc n t p d c a : Nat} {s u : St} (ht : t < 6) (w : WT sd pc n s u t p d c) (h : AtR sd s u t p d a) (Q : SP s t p d) (k2 : s.1 68 p a = 14) (hn : n + 1 < 2 ^ 30) :
    ∃ n', n ≤ n' ∧ n' ≤ n + 1 ∧ OutT sd pc n' s u (uw (st2R (pfS s t a) (pfV s t a) t) t) (r_turnOf_81 (nI t) u) := by
  obtain ⟨a40, p12⟩ := w.a40 h
  have S := w.ev.pr.st a h.ha
  have pe : pN s t = p := pN_of w.tc.hp (by omega)
  have k1 := ((KM.i S.kd).2.2.2.2.2.2.1).mpr k2
  obtain ⟨g, hg, g2, g3⟩ := S.sn k2
  have nu : nuN s t a = g := by unfold nuN; rw [pe, g2, nI_clamp (by omega)]
  have Sg := w.wc.sg
  have q70 : ∀ g', s.1 44 t 0 = nI g' → g' < 6 → g' = g := fun g' z z6 => by
    rcases Q with q | ⟨a', z1, z2, z3, z4⟩
    · rw [q] at z; exact absurd z.symm (nI_n1 (by omega))
    · have n40 := w.ev.pr.n4.2
      have : a' = a := (nI_eq (by omega) (by omega)).mp (z2.symm.trans h.h3)
      rw [this, g2, z] at z4
      exact ((nI_eq (by omega) (by omega)).mp z4).symm
  have pS : pfS s t a = sdS s t a := by unfold pfS; rw [pe, k2, if_neg (by decide), if_neg (by decide), if_neg (by decide), if_neg (by decide), if_neg (by decide), if_neg (by decide), if_neg (by decide), if_pos rfl]
  have pV : pfV s t a = sdV s t a := by unfold pfV; rw [pe, k2, if_neg (by decide), if_neg (by decide), if_neg (by decide), if_pos rfl]
  have hR : r_turnOf_81 (nI t) u = if nI g = nI t then (cal2 (r_work (nI t) (u.1 218 0 (40 * p + a)) u) fun v61 s60 => cal2 (r_throwOut (nI t) 0 v61 (-1) s60) fun v63 s62 => cal2 (r_thrown v63 s62) fun v65 s64 => some (v65, s64)) else (cal2 (r_waitsToSend (nI t) (nI (40 * p + a)) u) fun v55 s54 => if v55 = 0 then r_turnOf_656 (nI t) (nI (40 * p + a)) (si s54 261 0 t 0) else (cal2 (r_waits (nI t) s54) fun v58 s57 => some (v58, s57))) := by
    unfold r_turnOf_81
    rw [gI (by omega) (by decide), nI_clamp (by omega), h.hu, if_pos (nI_pos' (by omega)), gI (by omega) (by decide), gI (by omega) (by decide), nI_clamp (by omega), k1, if_neg (by decide), if_neg (by decide), if_neg (by decide), if_neg (by decide), if_neg (by decide), if_neg (by decide), if_pos rfl, gI (by omega) (by decide), g3, gI (by omega) (by decide)]
    simp only [gI (show t < 7 by omega) (show (7 : Nat) < 2 ^ 31 by decide)]
  rw [pS, pV, hR]
  unfold sdS sdV
  rw [pe, g2, w.nu]
  by_cases hgt : g = t
  · have x44 : s.1 44 t 0 = -1 := by
      rcases Sg.se t ht with z | ⟨g', r, z1, z2, z3, -⟩
      · exact z.1
      · exact absurd ((q70 g' z3 z1).trans hgt) z2
    subst hgt
    obtain ⟨u1, b1, b2, b3⟩ := sim_work (t := g) (by omega) (S.xp (by rw [k2]; decide)) (fun b hb => w.tb.lo b hb)
    obtain ⟨w1, f1, g1, l1⟩ := w.wk (s1 := wS s g p a) ht wS_1 (fun id z => wS_2 z) b2 b3
    obtain ⟨w2, f2⟩ := w1.t45 (v := wV s g p a) (y := 0) ht (okN_of (q := 0) (by decide))
    rw [if_pos rfl, if_pos rfl, if_pos rfl, uw5, b1, cal2_s]
    have eT : tvS s g a = si (sl (wS s g p a) 45 g 0 (wV s g p a)) 46 g 0 0 := by unfold tvS; rw [pe]
    rw [eT]
    exact ⟨n, Nat.le_refl _, by omega, (out_raise ht w2 (by rw [si_o (by decide), sl_1, wS_1]; exact x44) ⟨by rw [si_2, sl_e], Or.inl ⟨rfl, si_eq⟩⟩).pre (f1.trans f2) g1 l1⟩
  · have hne : ¬ nI g = nI t := fun z => hgt ((nI_eq (by omega) (by omega)).mp z)
    rw [if_neg hne, if_neg hne, if_neg hne]
    have Tg := w.th g hg hgt
    obtain ⟨dg, cg, R⟩ := Tg.row
    have hcg := R.c22
    have hcN := cN_of R.cs hcg
    have wt : wtV s t a = if s.1 44 t 0 = -1 then (if ¬ s.1 38 g 0 = 1 then 0 else 1) else (if pl81 s g (nI t) cg 0 = -1 then 0 else 1) := by
      unfold wtV
      rw [pe, k2, if_neg (by decide), if_neg (by decide), if_pos rfl, nu, g2, w.nu, hcN]
      by_cases z : s.1 44 t 0 = -1
      · rw [if_pos z, if_pos z]
        by_cases z2 : s.1 38 g 0 = 1
        · rw [if_neg (fun q => q.elim hne (fun q => q z2)), if_neg (fun q => q z2)]
        · rw [if_pos (Or.inr z2), if_pos z2]
      · rw [if_neg z, if_neg z]
    have W0 : r_waitsToSend (nI t) (nI (40 * p + a)) u = if u.1 240 0 g = 1 then (if u.1 261 0 t = 0 then (bnd (u.1 260 0 0) fun v7 => bnd (si u 260 0 0 (v7 + (1 : Int32))) fun s8 => bnd (s8.1 260 0 0) fun v9 => grd (ib (nI t) 7) (si s8 261 0 (nI t).toNatClampNeg v9) fun s10 => grd (ib (nI t) 7) (si s10 262 0 (nI t).toNatClampNeg (nI g)) fun s11 => grd (ib (nI (40 * p + a)) 480) (s11.1 218 0 (nI (40 * p + a)).toNatClampNeg) fun v12 => cal2 (r_work (nI t) v12 s11) fun v14 s13 => bnd (s13.1 260 0 0) fun v15 => cal (r_toRow (nI g) (nI t) v14 (-1 : Int32) v15 s13) fun s16 => some ((1 : Int32), s16)) else (cal2 (r_stands (nI g) (u.1 261 0 t) u) fun v6 s5 => grd (zo v6) (v6, s5) some)) else some ((0 : Int32), u) := by
      unfold r_waitsToSend
      rw [gI (by omega) (by decide), nI_clamp (by omega), g3, gI (by omega) (by decide), nI_clamp (by omega), gI (by omega) (by decide), nI_clamp (by omega), gI (by omega) (by decide)]
    rcases Sg.se t ht with ⟨x44, x261⟩ | ⟨g', r, z1, z2, x44, x262, x261, r1, rn⟩
    · rw [if_pos x44] at wt
      by_cases hst : s.1 38 g 0 = 1
      · -- a new send
        rw [if_neg (fun q => q hst)] at wt
        rw [wt, if_neg (by decide), if_pos x44, if_neg (by decide)]
        have c21 := row21 hg R Sg
        have e0 : sd0 s t a = si s 44 t 0 (nI g) := by unfold sd0; rw [pe, g2]
        have hX : XpR (si s 44 t 0 (nI g)) (si (si (si u 260 0 0 (nI (n + 1))) 261 0 t (nI (n + 1))) 262 0 t (nI g)) p a := by
          have := S.xp (by rw [k2]; decide)
          unfold XpR CdR at *
          simp only [evOK_eq (s' := si s 44 t 0 (nI g)) (s := s) (si_id (by decide)) (si_id (by decide)), si_id (id := 44) (a := 71) (by decide), si_id (id := 44) (a := 72) (by decide), si_id (id := 44) (a := 75) (by decide), si_id (id := 44) (a := 76) (by decide), si_id (id := 262) (a := 218) (by decide), si_id (id := 261) (a := 218) (by decide), si_id (id := 260) (a := 218) (by decide), si_id (id := 262) (a := 224) (by decide), si_id (id := 261) (a := 224) (by decide), si_id (id := 260) (a := 224) (by decide), si_id (id := 262) (a := 225) (by decide), si_id (id := 261) (a := 225) (by decide), si_id (id := 260) (a := 225) (by decide), si_2]
          exact this
        obtain ⟨u3, b1, b2, b3⟩ := sim_work (t := t) (by omega) hX (fun b hb => w.tb.lo b hb)
        have u3o : ∀ id e, ¬ (260 ≤ id ∧ id ≤ 262) → id ≠ 268 → u3.1 id 0 e = u.1 id 0 e ∧ u3.2 id 0 e = u.2 id 0 e := fun id e q1 q2 => ⟨by rw [b2, si_o (by omega), si_o (by omega), si_o (by omega)], by rw [b3 id q2]; rfl⟩
        have e218 : (si (si (si u 260 0 0 (nI (n + 1))) 261 0 t (nI (n + 1))) 262 0 t (nI g)).1 218 0 (40 * p + a) = u.1 218 0 (40 * p + a) := by rw [si_o (by decide), si_o (by decide), si_o (by decide)]
        have u260 : u3.1 260 0 0 = nI (n + 1) := by rw [b2, si_o (by decide), si_o (by decide), si_eq]
        have hW : r_waitsToSend (nI t) (nI (40 * p + a)) u = some (1, apU u3 g cg (nI t) (-1) (nI (n + 1)) (wV (si s 44 t 0 (nI g)) t p a)) := by
          rw [W0, ← Tg.tb.st, if_pos hst, if_pos x261]
          simp only [bnd_d, Sg.sr, nI_1, si_eq]
          rw [gI (by omega) (by decide), nI_clamp (by omega), gI (by omega) (by decide), gI (by omega) (by decide), nI_clamp (by omega), b1, cal2_s, u260, r_toRow_eq (by omega) (by rw [(u3o 255 g (by omega) (by omega)).1]; exact R.cu) (by omega), cal_s]
        rw [hW, cal2_s, if_neg (by decide)]
        have eS : sd3 s t a = apC (wS (si s 44 t 0 (nI g)) t p a) g cg (nI t) 0 (wV (si s 44 t 0 (nI g)) t p a) := by
          unfold sd3
          rw [e0, pe, nu, si_o (by decide), w.nu]
          exact app_eq (by rw [wS_1, si_o (by decide)]; exact R.cs) c21
        rw [eS]
        have s3o : ∀ id o e, ¬ (id = 44 ∧ o = t) → id ≠ 77 → (wS (si s 44 t 0 (nI g)) t p a).1 id o e = s.1 id o e ∧ (wS (si s 44 t 0 (nI g)) t p a).2 id o e = s.2 id o e := fun id o e q1 q2 => ⟨by rw [wS_1, si_ne (fun z => q1 ⟨z.1, z.2.1⟩)], by rw [wS_2 q2]; rfl⟩
        have s1o : ∀ id o e, ¬ (id = 44 ∧ o = t) → ¬ ((80 ≤ id ∧ id ≤ 83) ∧ o = g) → id ≠ 77 → (apC (wS (si s 44 t 0 (nI g)) t p a) g cg (nI t) 0 (wV (si s 44 t 0 (nI g)) t p a)).1 id o e = s.1 id o e ∧ (apC (wS (si s 44 t 0 (nI g)) t p a) g cg (nI t) 0 (wV (si s 44 t 0 (nI g)) t p a)).2 id o e = s.2 id o e := fun id o e q1 q2 q3 => ⟨by rw [apC_o (by omega)]; exact (s3o id o e q1 q3).1, by rw [apC_o2 (by omega)]; exact (s3o id o e q1 q3).2⟩
        have v1o : ∀ id e, ¬ (260 ≤ id ∧ id ≤ 262) → ¬ ((255 ≤ id ∧ id ≤ 259) ∧ PT g id e) → id ≠ 268 → (apU u3 g cg (nI t) (-1) (nI (n + 1)) (wV (si s 44 t 0 (nI g)) t p a)).1 id 0 e = u.1 id 0 e ∧ (apU u3 g cg (nI t) (-1) (nI (n + 1)) (wV (si s 44 t 0 (nI g)) t p a)).2 id 0 e = u.2 id 0 e := fun id e q1 q2 q3 => by
          have z := apU_o (u := u3) (g := g) (c := cg) (id := id) (e := e) (x1 := nI t) (l := -1) (r := nI (n + 1)) (v := wV (si s 44 t 0 (nI g)) t p a) (fun z => q2 ⟨by omega, by rw [z.2]; exact PT.r (by omega) (by omega)⟩) (fun z => q2 ⟨by omega, by rw [z.1, z.2]; exact PT.a (by omega)⟩)
          exact ⟨z.1.trans (u3o id e q1 q3).1, z.2.trans (u3o id e q1 q3).2⟩
        have a44 : (apC (wS (si s 44 t 0 (nI g)) t p a) g cg (nI t) 0 (wV (si s 44 t 0 (nI g)) t p a)).1 44 t 0 = nI g := by rw [apC_o (by omega), wS_1, si_eq]
        have a261 : ∀ e, (apU u3 g cg (nI t) (-1) (nI (n + 1)) (wV (si s 44 t 0 (nI g)) t p a)).1 261 0 e = if e = t then nI (n + 1) else u.1 261 0 e := fun e => by
          rw [(apU_o (by omega) (by omega)).1, b2, si_o (by decide)]
          by_cases q : e = t
          · rw [if_pos q, q, si_eq]
          · rw [if_neg q, si_q q, si_o (by decide)]
        have a262 : ∀ e, (apU u3 g cg (nI t) (-1) (nI (n + 1)) (wV (si s 44 t 0 (nI g)) t p a)).1 262 0 e = if e = t then nI g else u.1 262 0 e := fun e => by
          rw [(apU_o (by omega) (by omega)).1, b2]
          by_cases q : e = t
          · rw [if_pos q, q, si_eq]
          · rw [if_neg q, si_q q, si_o (by decide), si_o (by decide)]
        have sle : ∀ e, e < 6 → e ≠ t → ∃ r, r ≤ n ∧ u.1 261 0 e = nI r := fun e he hn => by
          rcases Sg.se e he with q | ⟨_, r, _, _, _, _, q1, _, q2⟩
          · exact ⟨0, by omega, q.2⟩
          · exact ⟨r, q2, q1⟩
        have noT : ∀ h k, h < 6 → k < cN s h → ¬ s.1 81 h k = nI t := fun h' k hh hk z => by
          obtain ⟨w', c1, c2⟩ := Sg.rs h' k hh hk
          rcases c2 with ⟨c3, c4, c5, c6⟩ | ⟨c3, c4, c5⟩
          · have : w' = t := (nI_eq (by omega) (by omega)).mp (c1.symm.trans z)
            rw [this, x44] at c5; exact nI_n1 (by omega) c5.symm
          · have : w' = t := (nI_eq (by omega) (by omega)).mp (c1.symm.trans z)
            omega
        have sg' : SG (apC (wS (si s 44 t 0 (nI g)) t p a) g cg (nI t) 0 (wV (si s 44 t 0 (nI g)) t p a)) (apU u3 g cg (nI t) (-1) (nI (n + 1)) (wV (si s 44 t 0 (nI g)) t p a)) (n + 1) := by
          refine ⟨hn, by rw [(apU_o (by omega) (by omega)).1]; exact u260, fun e he => ?_, fun e e' he he' => ?_, fun h' k hh hk => ?_⟩
          · unfold SE
            rw [a261, a262]
            by_cases q : e = t
            · subst q
              rw [if_pos rfl, if_pos rfl]
              exact Or.inr ⟨g, n + 1, hg, hgt, a44, rfl, rfl, by omega, by omega⟩
            · rw [if_neg q, if_neg q, (s1o 44 e 0 (by omega) (by omega) (by omega)).1]
              rcases Sg.se e he with z | ⟨g', r, z1, z2, z3, z4, z5, z6, z7⟩
              · exact Or.inl z
              · exact Or.inr ⟨g', r, z1, z2, z3, z4, z5, z6, by omega⟩
          · rw [a261, a261]
            by_cases q : e = t
            · by_cases q' : e' = t
              · intro _ _; omega
              · rw [if_pos q, if_neg q']
                obtain ⟨r, r1, r2⟩ := sle e' he' q'
                intro z _; rw [r2] at z
                have := (nI_eq (by omega) (by omega)).mp z; omega
            · by_cases q' : e' = t
              · rw [if_neg q, if_pos q']
                obtain ⟨r, r1, r2⟩ := sle e he q
                intro z _; rw [r2] at z
                have := (nI_eq (by omega) (by omega)).mp z; omega
              · rw [if_neg q, if_neg q']; exact Sg.di e e' he he'
          · have old : ∀ k', k' < cN s h' → (apC (wS (si s 44 t 0 (nI g)) t p a) g cg (nI t) 0 (wV (si s 44 t 0 (nI g)) t p a)).1 81 h' k = s.1 81 h' k' → (apU u3 g cg (nI t) (-1) (nI (n + 1)) (wV (si s 44 t 0 (nI g)) t p a)).1 259 0 (32 * h' + k) = u.1 259 0 (32 * h' + k') → RS (apC (wS (si s 44 t 0 (nI g)) t p a) g cg (nI t) 0 (wV (si s 44 t 0 (nI g)) t p a)) (apU u3 g cg (nI t) (-1) (nI (n + 1)) (wV (si s 44 t 0 (nI g)) t p a)) h' k := fun k' q1 q2 q3 => by
              obtain ⟨w', c1, c2⟩ := Sg.rs h' k' hh q1
              refine ⟨w', q2.trans c1, ?_⟩
              rcases c2 with ⟨c3, c4, c5, c6⟩ | ⟨c3, c4, c5⟩
              · have hwt : w' ≠ t := fun z => noT h' k' hh q1 (by rw [c1, z])
                refine Or.inl ⟨c3, c4, ?_, ?_⟩
                · rw [(s1o 44 w' 0 (by omega) (by omega) (by omega)).1]; exact c5
                · rw [q3, c6, a261, if_neg hwt]
              · exact Or.inr ⟨c3, c4, q3.trans c5⟩
            by_cases q : h' = g
            · subst q
              have ec : cN (apC (wS (si s 44 t 0 (nI h')) t p a) h' cg (nI t) 0 (wV (si s 44 t 0 (nI h')) t p a)) h' = cg + 1 := cN_of apC_80 (by omega)
              rw [ec] at hk
              by_cases qk : k = cg
              · subst qk
                refine ⟨t, apC_81, Or.inl ⟨ht, fun z => hgt z.symm, a44, ?_⟩⟩
                rw [apU_259, a261, if_pos rfl]
              · refine old k (by omega) ?_ ?_
                · rw [apC_k (Or.inl rfl) qk, (s3o 81 h' k (by omega) (by omega)).1]
                · rw [(apU_o (by omega) (by omega)).1, (u3o 259 _ (by omega) (by omega)).1]
            · have e80 : cN (apC (wS (si s 44 t 0 (nI g)) t p a) g cg (nI t) 0 (wV (si s 44 t 0 (nI g)) t p a)) h' = cN s h' := by unfold cN; rw [(s1o 80 h' 0 (by omega) (by omega) (by omega)).1]
              rw [e80] at hk
              have h22 := w.cN h' hh
              exact old k hk (s1o 81 h' k (by omega) (by omega) (by omega)).1 (v1o 259 _ (by omega) (fun z => by have := z.2; unfold PT at this; omega) (by omega)).1
        have GS : GV (apC (wS (si s 44 t 0 (nI g)) t p a) g cg (nI t) 0 (wV (si s 44 t 0 (nI g)) t p a)) := by
          have := GV_sd (i := t) (a := a) w.wc.gv (fun _ => by rw [pe, g2]; exact okN_of hg) (by rw [pe]; exact k2)
          unfold sdS at this
          rw [pe, g2, w.nu, if_neg hne, wt, if_neg (by decide), if_pos x44, eS] at this
          exact this
        obtain ⟨w1, f1, f2⟩ := w.s44 (s1 := apC (wS (si s 44 t 0 (nI g)) t p a) g cg (nI t) 0 (wV (si s 44 t 0 (nI g)) t p a)) (u1 := apU u3 g cg (nI t) (-1) (nI (n + 1)) (wV (si s 44 t 0 (nI g)) t p a)) ht (fun id o e q1 q2 q3 => s1o id o e q1 (fun z => q2 ⟨z.1, by omega⟩) q3) (fun id e q1 q2 q3 => v1o id e q1 (fun z => q2 ⟨z.1, fun z2 => by have := z.2; unfold PT at this z2; omega⟩) q3) GS
          (fun h' hh hn' d' c' R' => by
            by_cases q : h' = g
            · subst q
              have ecc : c' = cg := (nI_eq (by have := R'.c22; omega) (by omega)).mp (R'.cs.symm.trans R.cs)
              subst ecc
              have R2 : RwR (wS (si s 44 t 0 (nI h')) t p a) u3 h' d' c' := R'.same (fun id e q => s3o id h' e (by omega) (by omega)) (fun id e _ q => u3o id e (by omega) (by omega)) (fun e => (s3o 4 h' e (by omega) (by omega)).1)
              exact ⟨c' + 1, R2.app (l := 0) c21 (by omega) (Or.inr ⟨by omega, rfl⟩) (fun _ k hk z _ => noT h' k hh (by rw [hcN]; exact hk) (by rw [← z, (s3o 81 h' k (by omega) (by omega)).1])) (fun z => by omega)⟩
            · exact ⟨c', R'.same (fun id e q' => s1o id h' e (by omega) (by omega) (by omega)) (fun id e hp q' => v1o id e (by omega) (fun z => by have := z.2; unfold PT at this hp; omega) (by omega)) (fun e => (s1o 4 h' e (by omega) (by omega) (by omega)).1)⟩)
          (fun h' hh hn' z0 z1 z2 => by
            by_cases q : h' = g
            · subst q; exact absurd hst z0
            · exact ⟨by rw [(s1o 80 h' 0 (by omega) (by omega) (by omega)).1]; exact z1, by rw [(v1o 255 h' (by omega) (fun z => by have := z.2; unfold PT at this; omega) (by omega)).1]; exact z2⟩) sg'
        have A1 : AtR sd (apC (wS (si s 44 t 0 (nI g)) t p a) g cg (nI t) 0 (wV (si s 44 t 0 (nI g)) t p a)) (apU u3 g cg (nI t) (-1) (nI (n + 1)) (wV (si s 44 t 0 (nI g)) t p a)) t p d a := h.to (s1o 3 t d (by omega) (by omega) (by omega)).1 (f1 64 (by omega)).1 (v1o 241 t (by omega) (by omega) (by omega)).1
        have cl : Cl u (apU u3 g cg (nI t) (-1) (nI (n + 1)) (wV (si s 44 t 0 (nI g)) t p a)) := by
          refine Cl.trans (v := u3) (fun id hi => ⟨by rw [b2, si_id (by omega), si_id (by omega), si_id (by omega)], by rw [b3 id (by omega)]; rfl⟩) Cl_ap
        refine ⟨n + 1, by omega, Nat.le_refl _, (out_wait ht w1 A1.ps (Or.inr ⟨a, A1.ha, A1.h3, ?_, ?_⟩)).pre f1 f2 cl⟩
        · rw [(f1 68 (by omega)).1]; exact k2
        · rw [(f1 70 (by omega)).1, a44]; exact g2
      · rw [if_pos hst] at wt
        rw [wt, if_pos rfl, if_pos rfl, uw0, W0, ← Tg.tb.st, if_neg hst, cal2_s, if_pos rfl, si_same x44, si_same x261]
        exact ⟨n, Nat.le_refl _, by omega, out_beh ht w h x44⟩
    · have egg := q70 g' x44 z1
      subst egg
      have hn1 : ¬ s.1 44 t 0 = -1 := by rw [x44]; exact nI_n1 (by omega)
      rw [if_neg hn1] at wt
      have n30 := Sg.n30
      have r0 : ¬ u.1 261 0 t = 0 := by rw [x261]; exact fun z => absurd ((nI_z (by omega)).mp z) (by omega)
      have ser := serT hg ht Sg hcN x261 r1 rn
      by_cases hex : ∃ q, q < cg ∧ s.1 81 g' q = nI t
      · obtain ⟨q, hq, eq⟩ := hex
        have hpl : ¬ pl81 s g' (nI t) cg 0 = -1 := by
          obtain ⟨q', hq', e1, e2⟩ : ∃ q', q' < cg ∧ s.1 81 g' q' = nI t ∧ ∀ i, i < q' → ¬ s.1 81 g' i = nI t := by
            have : ∀ m q, q ≤ m → q < cg → s.1 81 g' q = nI t → ∃ q', q' < cg ∧ s.1 81 g' q' = nI t ∧ ∀ i, i < q' → ¬ s.1 81 g' i = nI t := by
              intro m
              induction m with
              | zero => intro q h1 h2 h3; exact ⟨q, h2, h3, fun i hi => by omega⟩
              | succ m ih =>
                intro q h1 h2 h3
                by_cases hx : ∃ i, i < q ∧ s.1 81 g' i = nI t
                · obtain ⟨i, i1, i2⟩ := hx
                  exact ih i (by omega) (by omega) i2
                · exact ⟨q, h2, h3, fun i hi z => hx ⟨i, hi, z⟩⟩
            exact this q q (Nat.le_refl _) hq eq
          rw [pl81_at e1 cg 0 (by omega) (by omega) (fun i _ hi => e2 i hi)]
          exact nI_n1 (by omega)
        rw [if_neg hpl] at wt
        have hst : s.1 38 g' 0 = 1 := by
          rcases Tg.ru with z | ⟨_, I⟩
          · exact z.1
          · have := I.a0; rw [R.cs] at this
            have := (nI_z (by omega)).mp this; omega
        rw [wt, if_neg (by decide), if_neg hn1, if_neg (by decide), W0, ← Tg.tb.st, if_pos hst, if_neg r0, x261]
        unfold r_stands
        rw [show r_stands_5 40 (nI g') (nI r) 0 0 u = some (1, u) from r_stq g' cg q (nI r) (by omega) hcg cg 0 40 u (by omega) (by omega) R.cu (by omega) hq ((ser q hq).mpr eq), cal2_s, gz zo1, cal2_s, if_neg (by decide)]
        exact ⟨n, Nat.le_refl _, by omega, out_wait ht w h.ps Q⟩
      · have hno : ∀ k, k < cg → ¬ s.1 81 g' k = nI t := fun k hk e => hex ⟨k, hk, e⟩
        rw [if_pos (pl81_no cg 0 (fun i _ h2 => hno i (by omega)))] at wt
        have hW : r_waitsToSend (nI t) (nI (40 * p + a)) u = some (0, u) := by
          rw [W0]
          by_cases hst : u.1 240 0 g' = 1
          · rw [if_pos hst, if_neg r0, x261]
            unfold r_stands
            rw [show r_stands_5 40 (nI g') (nI r) 0 0 u = some (0, u) from r_st0 g' cg (nI r) (by omega) hcg cg 0 40 u (by omega) (by omega) R.cu (fun i _ hi z => hno i hi ((ser i hi).mp z)), cal2_s, gz zo0]
          · rw [if_neg hst]
        rw [wt, if_pos rfl, if_pos rfl, uw0, hW, cal2_s, if_pos rfl]
        have noT : ∀ h k, h < 6 → k < cN s h → ¬ s.1 81 h k = nI t := fun h' k hh hk z => by
          obtain ⟨w', c1, c2⟩ := Sg.rs h' k hh hk
          rcases c2 with ⟨c3, c4, c5, c6⟩ | ⟨c3, c4, c5⟩
          · have : w' = t := (nI_eq (by omega) (by omega)).mp (c1.symm.trans z)
            rw [this, x44] at c5
            have : g' = h' := (nI_eq (by omega) (by omega)).mp c5
            subst this
            exact hno k (by omega) z
          · have : w' = t := (nI_eq (by omega) (by omega)).mp (c1.symm.trans z)
            omega
        have sg' : SG (si s 44 t 0 (-1)) (si u 261 0 t 0) n := by
          refine ⟨Sg.n30, by rw [si_o (by decide)]; exact Sg.sr, fun e he => ?_, fun e e' he he' => ?_, fun h' k hh hk => ?_⟩
          · by_cases q : e = t
            · subst q; exact Or.inl ⟨si_eq, si_eq⟩
            · unfold SE; rw [si_p q, si_q q, si_o (by decide)]; exact Sg.se e he
          · by_cases q : e = t
            · subst q; rw [si_eq]; intro _ z; exact absurd rfl z
            · by_cases q' : e' = t
              · subst q'; rw [si_eq]; intro z1 z2; exact absurd z1 z2
              · rw [si_q q, si_q q']; exact Sg.di e e' he he'
          · unfold cN at hk
            rw [si_o (by decide)] at hk
            obtain ⟨w', c1, c2⟩ := Sg.rs h' k hh hk
            refine ⟨w', by rw [si_o (by decide)]; exact c1, ?_⟩
            rcases c2 with ⟨c3, c4, c5, c6⟩ | ⟨c3, c4, c5⟩
            · have hwt : w' ≠ t := fun z => noT h' k hh hk (by rw [c1, z])
              exact Or.inl ⟨c3, c4, by rw [si_p hwt]; exact c5, by rw [si_o (by decide), si_q hwt]; exact c6⟩
            · exact Or.inr ⟨c3, c4, by rw [si_o (by decide)]; exact c5⟩
        obtain ⟨w1, f1, f2⟩ := w.s44 (s1 := si s 44 t 0 (-1)) (u1 := si u 261 0 t 0) ht (fun id o e q1 _ _ => ⟨si_ne (fun z => q1 ⟨z.1, z.2.1⟩), rfl⟩) (fun id e q1 _ _ => ⟨si_o (by omega), rfl⟩) (GV_44 w.wc.gv) (fun h' hh hn' d' c' R' => ⟨c', R'.same (fun id e q => ⟨si_o (by omega), rfl⟩) (fun id e _ q => ⟨si_o (by omega), rfl⟩) (fun e => si_o (by decide))⟩) (fun h' hh hn' _ z1 z2 => ⟨by rw [si_o (by decide)]; exact z1, by rw [si_o (by decide)]; exact z2⟩) sg'
        exact ⟨n, Nat.le_refl _, by omega, (out_beh ht w1 (h.to (si_o (by decide)) (si_id (by decide)) (si_o (by decide))) si_eq).pre f1 f2 ((Cl.refl u).si (by decide))⟩
