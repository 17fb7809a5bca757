/-! start, hurl, clear, thread, on both sides -/
theorem zl_1 (i : Nat) : ∀ m k s, (zlS i m k s).1 = s.1
  | 0, _, _ => rfl
  | m + 1, k, s => zl_1 i m (k + 1) _
theorem zl_2 (i : Nat) : ∀ (m k : Nat) (s : St) (id o e : Nat), (zlS i m k s).2 id o e = if id = 34 ∧ o = i ∧ k ≤ e ∧ e < k + m then 0 else s.2 id o e := by
  intro m
  induction m with
  | zero => intro k s id o e; rw [if_neg (by omega)]; rfl
  | succ m ih =>
    intro k s id o e
    show (zlS i m (k + 1) (sl s 34 i k 0)).2 id o e = _
    rw [ih]
    by_cases h : id = 34 ∧ o = i ∧ k ≤ e ∧ e < k + (m + 1)
    · rw [if_pos h]
      by_cases h2 : k + 1 ≤ e
      · rw [if_pos ⟨h.1, h.2.1, h2, by omega⟩]
      · rw [if_neg (fun z => h2 z.2.2.1), sl_r, if_pos ⟨h.1, h.2.1, by omega⟩]
    · rw [if_neg h, if_neg (fun z => h ⟨z.1, z.2.1, by omega, by omega⟩), sl_r, if_neg (fun z => h ⟨z.1, z.2.1, by omega, by omega⟩)]
def zU (t : Nat) : Nat → Nat → St → St
  | 0, _, u => u
  | m + 1, k, u => zU t m (k + 1) (sl u 245 0 (10 * t + k) 0)
theorem zU_1 (t : Nat) : ∀ m k u, (zU t m k u).1 = u.1
  | 0, _, _ => rfl
  | m + 1, k, u => zU_1 t m (k + 1) _
theorem zU_2 (t : Nat) : ∀ (m k : Nat) (u : St) (id o e : Nat), (zU t m k u).2 id o e = if id = 245 ∧ o = 0 ∧ 10 * t + k ≤ e ∧ e < 10 * t + k + m then 0 else u.2 id o e := by
  intro m
  induction m with
  | zero => intro k u id o e; rw [if_neg (by omega)]; rfl
  | succ m ih =>
    intro k u id o e
    show (zU t m (k + 1) (sl u 245 0 (10 * t + k) 0)).2 id o e = _
    rw [ih]
    by_cases h : id = 245 ∧ o = 0 ∧ 10 * t + k ≤ e ∧ e < 10 * t + k + (m + 1)
    · rw [if_pos h]
      by_cases h2 : 10 * t + (k + 1) ≤ e
      · rw [if_pos ⟨h.1, h.2.1, h2, by omega⟩]
      · rw [if_neg (fun z => h2 z.2.2.1), sl_r, if_pos ⟨h.1, h.2.1, by omega⟩]
    · rw [if_neg h, if_neg (fun z => h ⟨z.1, z.2.1, by omega, by omega⟩), sl_r, if_neg (fun z => h ⟨z.1, z.2.1, by omega, by omega⟩)]
theorem r_st94 {t : Nat} (ht : t < 7) : ∀ (m k N : Nat) (u : St), k + m = 10 → m < N → r_start_94 N (nI t) (nI k) u = some (1, zU t m k u) := by
  intro m
  induction m with
  | zero =>
    intro k N u hk hN
    obtain ⟨N, rfl⟩ : ∃ q, N = q + 1 := ⟨N - 1, by omega⟩
    rw [r_start_94.eq_2, if_pos (show (10 : Int32) ≤ nI k from nI_le (a := 10) (by omega) (by omega))]; rfl
  | succ m ih =>
    intro k N u hk hN
    obtain ⟨N, rfl⟩ : ∃ q, N = q + 1 := ⟨N - 1, by omega⟩
    rw [r_start_94.eq_2, if_neg (show ¬ (10 : Int32) ≤ nI k from nI_ge (b := 10) (by omega) (by decide))]
    simp only [m10]
    rw [gI (by omega) (by decide), nI_clamp (by omega), nI_1]
    exact ih (k + 1) N _ (by omega) (by omega)
theorem reset_1 {s : St} {t id o e : Nat} (h : ¬ (o = t ∧ (id = 38 ∨ id = 40 ∨ id = 80 ∨ id = 39 ∨ id = 41 ∨ id = 42 ∨ id = 44))) : (resetS s t).1 id o e = s.1 id o e := by
  unfold resetS leaveAllS
  rw [si_ne (fun z => h ⟨z.2.1, by omega⟩), si_ne (fun z => h ⟨z.2.1, by omega⟩), si_ne (fun z => h ⟨z.2.1, by omega⟩), si_ne (fun z => h ⟨z.2.1, by omega⟩), si_ne (fun z => h ⟨z.2.1, by omega⟩), zl_1, sl_1, si_ne (fun z => h ⟨z.2.1, by omega⟩), si_ne (fun z => h ⟨z.2.1, by omega⟩)]
theorem reset_2 {s : St} {t id o e : Nat} : (resetS s t).2 id o e = if id = 34 ∧ o = t ∧ e < 10 then 0 else if id = 43 ∧ o = t ∧ e = 0 then 0 else s.2 id o e := by
  unfold resetS leaveAllS
  rw [si_2, si_2, si_2, si_2, si_2, zl_2]
  by_cases h : id = 34 ∧ o = t ∧ e < 10
  · rw [if_pos ⟨h.1, h.2.1, by omega, by omega⟩, if_pos h]
  · rw [if_neg (fun z => h ⟨z.1, z.2.1, by omega⟩), if_neg h, sl_r]; rfl
theorem Ac_reset {s : St} {t : Nat} : Ac t s (resetS s t) := fun id o e hn => by
  refine ⟨reset_1 (fun z => hn (Or.inl ⟨by omega, z.1⟩)), ?_⟩
  rw [reset_2, if_neg (fun z => hn (Or.inl ⟨by omega, z.2.1⟩)), if_neg (fun z => hn (Or.inl ⟨by omega, z.2.1⟩))]
theorem reset_v {s : St} {t : Nat} : (resetS s t).1 38 t 0 = 0 ∧ (resetS s t).1 40 t 0 = 0 ∧ (resetS s t).1 80 t 0 = 0 ∧ (resetS s t).1 39 t 0 = 0 ∧ (resetS s t).1 41 t 0 = 0 ∧ (resetS s t).1 42 t 0 = 0 ∧ (resetS s t).1 44 t 0 = -1 := by
  unfold resetS leaveAllS
  refine ⟨?_, ?_, ?_, ?_, ?_, ?_, ?_⟩
  · rw [si_o (by decide), si_o (by decide), si_o (by decide), si_o (by decide), si_o (by decide), zl_1, sl_1, si_o (by decide), si_eq]
  · rw [si_o (by decide), si_o (by decide), si_o (by decide), si_o (by decide), si_o (by decide), zl_1, sl_1, si_eq]
  · rw [si_o (by decide), si_o (by decide), si_o (by decide), si_o (by decide), si_eq]
  · rw [si_o (by decide), si_o (by decide), si_o (by decide), si_eq]
  · rw [si_o (by decide), si_o (by decide), si_eq]
  · rw [si_o (by decide), si_eq]
  · rw [si_eq]
def begE (s : St) (t p : Nat) : St := si (si (si (si (si (si (si (si (resetS s t) 37 t 0 (nI p)) 0 t 0 (-1)) 2 t 0 0) 1 t 0 0) 3 t 0 (s.1 74 p 120)) 4 t 0 0) 6 t 0 0) 38 t 0 1
theorem beg_eq {s : St} {t p : Nat} : begS s t p = begE s t p := by
  unfold begS enterS enterPartS begE
  rw [si_o (by decide), reset_1 (by omega)]
theorem S_start {sd : Nat → Nat → Nat} {pc n k : Nat} {s u : St} (x y : Int32) (L : RL sd pc n k s u) : ∃ u', r_start x y u = some (startV s x y, u') ∧ RL sd pc n k (startS s x y) u' ∧ Rf s (startS s x y) ∧ Cl u u' := by
  obtain ⟨h12, hp1, hp2, hp3⟩ := L.wr.wc.pp
  obtain ⟨c, hc, hck⟩ := L.ck
  unfold r_start startV startS
  rw [r_isT, cal2_s]
  have no : (inW x 6 = 0 ∨ inW y (s.1 132 0 0) = 0 ∨ ¬ rnV s x = 0) → ∃ u', some ((-1 : Int32), u) = some ((if inW x 6 = 0 ∨ inW y (s.1 132 0 0) = 0 ∨ ¬ rnV s x = 0 then (-1 : Int32) else 1), u') ∧ RL sd pc n k (if inW x 6 = 0 ∨ inW y (s.1 132 0 0) = 0 ∨ ¬ rnV s x = 0 then s else begS s x.toNatClampNeg y.toNatClampNeg) u' ∧ Rf s (if inW x 6 = 0 ∨ inW y (s.1 132 0 0) = 0 ∨ ¬ rnV s x = 0 then s else begS s x.toNatClampNeg y.toNatClampNeg) ∧ Cl u u' := fun h => by
    rw [if_pos h, if_pos h]; exact ⟨u, rfl, L, Rf.refl s, Cl.refl u⟩
  rcases inW_6 x with z | ⟨t, ht, rfl, z⟩
  · rw [if_pos z]; exact no (Or.inl z)
  · have z0 : ¬ inW (nI t) 6 = 0 := by rw [z]; decide
    rw [if_neg z0]
    rcases inW_d (x := y) (n := pc) (by omega) with q | ⟨p, hp, rfl, q⟩
    · have q' : inW y (s.1 132 0 0) = 0 := by rw [hp1]; exact q
      unfold inW at q
      by_cases h1 : y < 0
      · rw [if_pos h1]; exact no (Or.inr (Or.inl q'))
      · rw [if_neg h1] at q ⊢
        by_cases h2 : nI pc ≤ y
        · rw [bnd_d, hp2, if_pos h2]; exact no (Or.inr (Or.inl q'))
        · rw [if_neg h2] at q; exact absurd q (by decide)
    · have q0 : ¬ inW (nI p) (s.1 132 0 0) = 0 := by rw [hp1, q]; decide
      have H := L.wr.th t ht
      rw [if_neg (nI_pos (by omega)), bnd_d, hp2, if_neg (nI_ge hp (by omega)), gI (by omega) (by decide), nI_clamp (by omega), ← H.tb.st]
      by_cases hr : s.1 38 t 0 = 1
      · rw [if_pos hr]
        have no2 := no (Or.inr (Or.inr (by rw [rn_d ht, if_pos hr]; decide)))
        rw [nI_clamp (n := t) (by omega)] at no2; exact no2
      · have hno : ¬ (inW (nI t) 6 = 0 ∨ inW (nI p) (s.1 132 0 0) = 0 ∨ ¬ rnV s (nI t) = 0) := fun h => h.elim z0 (fun h => h.elim q0 (fun h => h (by rw [rn_d ht, if_neg hr])))
        rw [if_neg hr, if_neg hno, if_neg hno, nI_clamp (by omega), beg_eq]
        rw [gI (by omega) (by decide), gI (by omega) (by decide), si_o (by decide), gI (by omega) (by decide), gI (by omega) (by decide), gI (by omega) (by decide), gI (by omega) (by decide), gI (by omega) (by decide), gI (by omega) (by decide), gI (by omega) (by decide), show (0 : Int32) = nI 0 from rfl, r_st94 (by omega) 10 0 20 _ (by omega) (by omega)]
        have I : TI s u t := by
          rcases H.ru with w | w
          · exact absurd w.1 hr
          · exact w.2
        have h261 : u.1 261 0 t = 0 := by
          rcases L.wr.wc.sg.se t ht with w | ⟨g, r, _, _, w, -⟩
          · exact w.2
          · rw [I.a5] at w; exact absurd w.symm (nI_n1 (by omega))
        have e261 : (si (si (sl (si (si (si (si u 240 0 t 1) 241 0 t (u.1 214 0 p)) 242 0 t (nI 0)) 243 0 t (nI 0)) 244 0 t 0) 246 0 t (nI 0)) 255 0 t (nI 0)).1 261 0 t = nI 0 := by
          rw [si_o (by decide), si_o (by decide), sl_1, si_o (by decide), si_o (by decide), si_o (by decide), si_o (by decide)]; exact h261
        rw [si_same e261]
        generalize hU : si (si (sl (si (si (si (si u 240 0 t 1) 241 0 t (u.1 214 0 p)) 242 0 t (nI 0)) 243 0 t (nI 0)) 244 0 t 0) 246 0 t (nI 0)) 255 0 t (nI 0) = U
        have ag : Ag t u (zU t 10 0 U) := by
          refine Ag.trans (v := U) ?_ (fun id e hn => ⟨by rw [zU_1], by rw [zU_2, if_neg (fun w => hn (Or.inr (Or.inr (Or.inr (Or.inl ⟨w.1, by omega, by omega⟩)))))]⟩)
          rw [← hU]
          exact (((((((Ag.refl t u).si (PT.a (by omega))).si (PT.a (by omega))).si (PT.a (by omega))).si (PT.a (by omega))).sl (PT.a (by omega))).si (PT.a (by omega))).si (PT.a (by omega))
        have cl : Cl u (zU t 10 0 U) := by
          refine Cl.trans (v := U) ?_ (fun id hi => ⟨by rw [zU_1], by funext o e; rw [zU_2, if_neg (by omega)]⟩)
          rw [← hU]
          exact (((((((Cl.refl u).si (by decide)).si (by decide)).si (by decide)).si (by decide)).sl (by decide)).si (by decide)).si (by decide)
        have ac : Ac t s (begE s t p) := by
          unfold begE
          exact ((((((((Ac_reset).si (PC.a (by omega))).si (PC.a (by omega))).si (PC.a (by omega))).si (PC.a (by omega))).si (PC.a (by omega))).si (PC.a (by omega))).si (PC.a (by omega))).si (PC.a (by omega))
        have bo : ∀ id o e, ¬ (id ≤ 6 ∨ id = 37 ∨ id = 38) → (begE s t p).1 id o e = (resetS s t).1 id o e := fun id o e w => by
          unfold begE; rw [si_o (by omega), si_o (by omega), si_o (by omega), si_o (by omega), si_o (by omega), si_o (by omega), si_o (by omega), si_o (by omega)]
        have b2 : (begE s t p).2 = (resetS s t).2 := rfl
        obtain ⟨v1, v2, v3, v4, v5, v6, v7⟩ := reset_v (s := s) (t := t)
        have b37 : (begE s t p).1 37 t 0 = nI p := by unfold begE; simp (disch := decide) only [si_o, si_eq]
        have b38 : (begE s t p).1 38 t 0 = 1 := by unfold begE; rw [si_eq]
        have b3 : (begE s t p).1 3 t 0 = s.1 74 p 120 := by unfold begE; simp (disch := decide) only [si_o, si_eq]
        have U1 : ∀ id e, (zU t 10 0 U).1 id 0 e = U.1 id 0 e := fun id e => by rw [zU_1]
        have u240 : (zU t 10 0 U).1 240 0 t = 1 := by rw [U1, ← hU, si_o (by decide), si_o (by decide), sl_1, si_o (by decide), si_o (by decide), si_o (by decide), si_eq]
        have u241 : (zU t 10 0 U).1 241 0 t = u.1 214 0 p := by rw [U1, ← hU, si_o (by decide), si_o (by decide), sl_1, si_o (by decide), si_o (by decide), si_eq]
        have u242 : (zU t 10 0 U).1 242 0 t = 0 := by rw [U1, ← hU, si_o (by decide), si_o (by decide), sl_1, si_o (by decide), si_eq]; rfl
        have u243 : (zU t 10 0 U).1 243 0 t = 0 := by rw [U1, ← hU, si_o (by decide), si_o (by decide), sl_1, si_eq]; rfl
        have u246 : (zU t 10 0 U).1 246 0 t = 0 := by rw [U1, ← hU, si_o (by decide), si_eq]; rfl
        have u255 : (zU t 10 0 U).1 255 0 t = 0 := by rw [U1, ← hU, si_eq]; rfl
        have u244 : (zU t 10 0 U).2 244 0 t = 0 := by rw [zU_2, if_neg (by omega), ← hU, si_2, si_2, sl_e]
        have b80 : (begE s t p).1 80 t 0 = 0 := by rw [bo _ _ _ (by omega)]; exact v3
        have sb : SbR t s u (begE s t p) (zU t 10 0 U) := fun q hq => by
          unfold cN at hq; rw [b80] at hq; exact absurd hq (Nat.not_lt_zero _)
        have hcN : ∀ g, g < 6 → cN s g ≤ 22 := fun g hg => (L.wr.th g hg).cN
        have hG : GV (begE s t p) := by rw [← beg_eq]; exact GV_beg L.wr.wc.gv (by omega)
        have hN : NR (begE s t p) (zU t 10 0 U) := L.wr.wc.nr.lv (fun id w1 w2 => ⟨by funext o e; rw [bo _ _ _ (by omega), reset_1 (by omega)], by funext o e; rw [b2, reset_2, if_neg (by omega), if_neg (by omega)]⟩) (fun id w => ⟨by rw [zU_1, ← hU, si_id (by omega), si_id (by omega), sl_1, si_id (by omega), si_id (by omega), si_id (by omega), si_id (by omega)], by funext e; rw [zU_2, if_neg (by omega), ← hU, si_2, si_2, sl_o (by omega)]; rfl⟩)
        have pr := hp3 p hp
        have T : TC sd (begE s t p) (zU t 10 0 U) t p 0 0 := by
          refine ⟨b37, by rw [bo _ _ _ (by omega)]; exact v5, u246, by omega, by rw [bo _ _ _ (by omega), u242]; exact v4, fun b b1 b2 => by omega, ⟨b80, u255, by omega, fun k hk => absurd hk (Nat.not_lt_zero _), fun k _ hk => absurd hk (Nat.not_lt_zero _), fun k _ hk => absurd hk (Nat.not_lt_zero _), Nat.zero_le _⟩, by rw [bo _ _ _ (by omega)]; exact v6⟩
        refine ⟨zU t 10 0 U, rfl, L.to (c := c) ⟨L.wr.wc.fw ht ac ag sb (by rw [bo _ _ _ (by omega), v7, I.a5]) hcN hG hN, fun g hg => ?_⟩ (by rw [(ac 16 0 0 (fun w => by unfold PC at w; omega)).1]; exact hck) hc L.nk ac.fc.z ag.fr, ac.fc.z.rf, cl⟩
        by_cases hgt : g = t
        · subst hgt
          refine ⟨⟨by rw [b38, u240], by rw [bo _ _ _ (by omega), v2, u243], ?_, fun k hk => ?_⟩, by rw [bo _ _ _ (by omega), reset_1 (by omega)]; exact H.nu, Or.inl ⟨b38, p, 0, 0, hp, T, ?_, Or.inl (by rw [bo _ _ _ (by omega)]; exact v7)⟩⟩
          · rw [b2, reset_2, if_neg (by omega), if_pos ⟨rfl, rfl, rfl⟩, u244]
          · rw [b2, reset_2, if_pos ⟨rfl, rfl, hk⟩, zU_2, if_pos ⟨rfl, rfl, by omega, by omega⟩]
          · unfold PS; rw [b3, u241, nS_to ac.ap]; exact pr.en
        · exact (L.wr.th g hg).fw hgt ac ag
/-! hurl -/
theorem r_h25 {sd : Nat → Nat → Nat} {s u : St} {t d c : Nat} {v : Int64} (ht : t < 7) (R : RwR s u t d c) : ∀ (m i N : Nat), i + m = c → m < N → r_hurl_25 N (nI t) v (nI (cn81 s t 6 i 0)) (nI i) u = if cn81 s t 6 c 0 = 8 then some (-1, u) else some (nI (c + 1), apU u t c (nI 6) (-1) 0 v) := by
  have hc := R.c22
  intro m
  induction m with
  | zero =>
    intro i N hi hN
    obtain ⟨N, rfl⟩ : ∃ q, N = q + 1 := ⟨N - 1, by omega⟩
    have ei : i = c := by omega
    subst ei
    have h8 := R.ou
    rw [r_hurl_25.eq_2, gI (by omega) (by decide), nI_clamp (by omega), R.cu, if_pos (nI_le (by omega) (by omega))]
    by_cases h : cn81 s t 6 i 0 = 8
    · rw [if_pos h, if_pos (by rw [h]; rfl)]
    · rw [if_neg h, if_neg (show ¬ nI (cn81 s t 6 i 0) = 8 from fun z => h ((nI_eq (b := 8) (by omega) (by decide)).mp z)), show r_toRow (nI t) 6 v (-1) 0 u = some (apU u t i (nI 6) (-1) 0 v) from r_toRow_eq ht R.cu hc, cal_s, gI (by omega) (by decide), apU_255]
  | succ m ih =>
    intro i N hi hN
    obtain ⟨N, rfl⟩ : ∃ q, N = q + 1 := ⟨N - 1, by omega⟩
    have hl := cn81_le (s := s) (t := t) (x := 6) i 0
    obtain ⟨w, l, a1, a2, a3, -⟩ := R.en i (by omega)
    have hi2 := ih (i + 1) N (by omega) (by omega)
    rw [cn81_s] at hi2
    rw [r_hurl_25.eq_2, gI (by omega) (by decide), nI_clamp (by omega), R.cu, if_neg (nI_ge (by omega) (by omega))]
    simp only [m32]
    rw [gI (by omega) (by decide), nI_clamp (by omega), a3, ← a2]
    unfold r_hurl_60
    by_cases h : s.1 81 t i = 6
    · rw [if_pos h] at hi2
      rw [if_pos h, nI_1, nI_1]; exact hi2
    · rw [if_neg h] at hi2
      rw [if_neg h, Int32.add_zero, nI_1]; exact hi2
theorem wt_hurl {sd : Nat → Nat → Nat} {pc n t p d c : Nat} {s u : St} {v : Int64} (ht : t < 6) (w : WT sd pc n s u t p d c) (h8 : cn81 s t 6 c 0 < 8) : c ≤ 21 ∧ WT sd pc n (apC s t c (nI 6) 0 v) (apU u t c (nI 6) (-1) 0 v) t p d (c + 1) ∧ Fc s (apC s t c (nI 6) 0 v) ∧ Fr u (apU u t c (nI 6) (-1) 0 v) ∧ Ac t s (apC s t c (nI 6) 0 v) ∧ Ag t u (apU u t c (nI 6) (-1) 0 v) := by
  have c21 := row21 ht w.tc.rw w.wc.sg
  have ac : Ac t s (apC s t c (nI 6) 0 v) := Ac_ap
  have ag : Ag t u (apU u t c (nI 6) (-1) 0 v) := Ag_ap (by omega)
  have so : ∀ id o e, ¬ (80 ≤ id ∧ id ≤ 83) → (apC s t c (nI 6) 0 v).1 id o e = s.1 id o e ∧ (apC s t c (nI 6) 0 v).2 id o e = s.2 id o e := fun id o e z => ⟨apC_o (by omega), apC_o2 (by omega)⟩
  have uo : ∀ id e, ¬ (255 ≤ id ∧ id ≤ 259) → (apU u t c (nI 6) (-1) 0 v).1 id 0 e = u.1 id 0 e ∧ (apU u t c (nI 6) (-1) 0 v).2 id 0 e = u.2 id 0 e := fun id e z => apU_o (by omega) (by omega)
  have R1 : RwR (apC s t c (nI 6) 0 v) (apU u t c (nI 6) (-1) 0 v) t d (c + 1) := w.tc.rw.app (l := 0) c21 (by decide) (Or.inr ⟨by decide, rfl⟩) (fun z => absurd rfl z) (fun _ => h8)
  have T1 : TC sd (apC s t c (nI 6) 0 v) (apU u t c (nI 6) (-1) 0 v) t p d (c + 1) := w.tc.rowto (fun id e z => so id t e (by omega)) (ac.ap 64 (by decide) (by decide)) (ac.ap 70 (by decide) (by decide)) (by rw [(so 16 0 0 (by omega)).1]; exact Nat.le_refl _) (ag.ar 216 (by decide) (by decide)).1 (ag.ar 220 (by decide) (by decide)).1 (fun id e _ z => uo id e (by omega)) R1
  have sg : SG (apC s t c (nI 6) 0 v) (apU u t c (nI 6) (-1) 0 v) n := by
    have Sg := w.wc.sg
    refine ⟨Sg.n30, by rw [(uo _ _ (by omega)).1]; exact Sg.sr, fun e he => ?_, fun e e' he he' => ?_, fun g k hg hk => ?_⟩
    · unfold SE; rw [(so _ _ _ (by omega)).1, (uo _ _ (by omega)).1, (uo _ _ (by omega)).1]; exact Sg.se e he
    · rw [(uo _ _ (by omega)).1, (uo _ _ (by omega)).1]; exact Sg.di e e' he he'
    · have old : k < cN s g → (apC s t c (nI 6) 0 v).1 81 g k = s.1 81 g k → (apU u t c (nI 6) (-1) 0 v).1 259 0 (32 * g + k) = u.1 259 0 (32 * g + k) → RS (apC s t c (nI 6) 0 v) (apU u t c (nI 6) (-1) 0 v) g k := fun q1 q2 q3 => by
        obtain ⟨w', c1, c2⟩ := Sg.rs g k hg q1
        refine ⟨w', q2.trans c1, ?_⟩
        rw [(so _ _ _ (by omega)).1, q3, (uo _ _ (by omega)).1]; exact c2
      by_cases q : g = t
      · subst q
        rw [cN_of R1.cs R1.c22] at hk
        by_cases qk : k = c
        · subst qk
          exact ⟨6, apC_81, Or.inr ⟨by decide, by decide, apU_259⟩⟩
        · refine old (by rw [cN_of w.tc.rw.cs w.tc.rw.c22]; omega) (apC_k (Or.inl rfl) qk) (apU_o (by omega) (by omega)).1
      · have e80 : cN (apC s t c (nI 6) 0 v) g = cN s g := by unfold cN; rw [(ac.sr q 80 0 (by omega)).1]
        rw [e80] at hk
        have h22 := w.cN g hg
        exact old hk (ac.sr q 81 k (by omega)).1 (ag.ur q 259 _ (PT.r (by omega) (by omega)) (by omega)).1
  have hG : GV (apC s t c (nI 6) 0 v) := by rw [← app_eq w.tc.rw.cs c21]; exact GV_app w.wc.gv (okN_of (q := 0) (by decide))
  refine ⟨c21, ⟨⟨hG, w.wc.nr.lv (fun id z1 z2 => ⟨by funext o e; exact (so _ _ _ (by omega)).1, by funext o e; exact (so _ _ _ (by omega)).2⟩) (fun id z => ⟨by funext e; exact (uo _ _ (by omega)).1, by funext e; exact (uo _ _ (by omega)).2⟩), by rw [(so _ _ _ (by omega)).1]; exact w.wc.ck, w.wc.pp.to ac.fc ag.fr, sg, fun q hq => ?_⟩, fun g hg hn => (w.th g hg hn).fw hn ac ag, ⟨?_, ?_, ?_, fun k hk => ?_⟩, ?_, T1, w.hp, ?_⟩, ac.fc, ag.fr, ac, ag⟩
  · rw [(so _ _ _ (by omega)).1, (uo _ _ (by omega)).1, (so _ _ _ (by omega)).2, (uo _ _ (by omega)).2]; exact w.wc.bx q hq
  · rw [(so _ _ _ (by omega)).1, (uo _ _ (by omega)).1]; exact w.tb.st
  · rw [(so _ _ _ (by omega)).1, (uo _ _ (by omega)).1]; exact w.tb.sp
  · rw [(so _ _ _ (by omega)).2, (uo _ _ (by omega)).2]; exact w.tb.di
  · rw [(so _ _ _ (by omega)).2, (uo _ _ (by omega)).2]; exact w.tb.lo k hk
  · rw [(so _ _ _ (by omega)).1]; exact w.nu
  · rw [(so _ _ _ (by omega)).1]; exact w.rn
theorem S_hurl {sd : Nat → Nat → Nat} {pc n k : Nat} {s u : St} (x : Int32) (y : Int64) (L : RL sd pc n k s u) : ∃ u', r_hurl x y u = some (hurlV s x y, u') ∧ RL sd pc n k (hurlS s x y) u' ∧ Rf s (hurlS s x y) ∧ Cl u u' := by
  obtain ⟨c0, hc0, hck⟩ := L.ck
  unfold r_hurl hurlV hurlS
  rw [r_isT, cal2_s]
  rcases inW_6 x with z | ⟨t, ht, rfl, z⟩
  · have hr : rnV s x = 0 := by unfold rnV; rw [if_pos z]
    rw [if_pos z, if_pos hr, if_pos hr]; exact ⟨u, rfl, L, Rf.refl s, Cl.refl u⟩
  · rw [z, if_neg (show ¬ (1 : Int32) = 0 by decide), gI (by omega) (by decide), nI_clamp (by omega), ← (L.wr.th t ht).tb.st, rn_d ht]
    by_cases hr : s.1 38 t 0 = 1
    · obtain ⟨p, d, c, w, P, Q⟩ := L.wr.wt ht hr
      have hc := w.tc.rw.c22
      have h8 := w.tc.rw.ou
      have hR := r_h25 (sd := sd) (v := y) (show t < 7 by omega) w.tc.rw c 0 40 (by omega) (by omega)
      have hR : r_hurl_25 40 (nI t) y 0 0 u = if cn81 s t 6 c 0 = 8 then some (-1, u) else some (nI (c + 1), apU u t c (nI 6) (-1) 0 y) := hR
      simp only [if_pos hr, if_neg (show ¬ (1 : Int32) = 0 by decide)]
      rw [hR, cN_of w.tc.rw.cs hc]
      by_cases h : cn81 s t 6 c 0 = 8
      · have hn : ¬ nI (cn81 s t 6 c 0) < 8 := by rw [h]; decide
        simp only [if_pos h, if_neg hn]
        exact ⟨u, rfl, L, Rf.refl s, Cl.refl u⟩
      · have hl : nI (cn81 s t 6 c 0) < 8 := nI_lt (b := 8) (by omega) (by decide)
        obtain ⟨c21, w1, f1, f2, ac, ag⟩ := wt_hurl (v := y) ht w (by omega)
        have eA : appS s t 6 0 y = apC s t c (nI 6) 0 y := app_eq w.tc.rw.cs c21
        simp only [if_neg h, if_pos hl, eA]
        refine ⟨_, by rw [apC_80], L.to (c := c0) (w1.wr ?_ ?_) (by rw [(f1 16 (Or.inl rfl)).1]; exact hck) hc0 L.nk f1.z f2, f1.z.rf, Cl_ap⟩
        · unfold PS at *; rw [nS_to ac.ap, apC_o (by omega), (apU_o (by omega) (by omega)).1]; exact P
        · unfold SP at *; rw [nS_to ac.ap, apC_o (by omega), apC_o (by omega), ac.ap 68 (by decide) (by decide), ac.ap 70 (by decide) (by decide)]; exact Q
    · simp only [if_neg hr, if_true]
      exact ⟨u, rfl, L, Rf.refl s, Cl.refl u⟩
