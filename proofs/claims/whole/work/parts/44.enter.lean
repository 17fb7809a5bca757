/-! notes; into a body, on both sides -/
theorem TC.to {sd : Nat → Nat → Nat} {s u s' u' : St} {t p d c : Nat} (h : TC sd s u t p d c) (es : ∀ id e, ((id ≤ 8 ∧ (id = 3 → e < d)) ∨ id = 37 ∨ id = 39 ∨ id = 41 ∨ id = 42 ∨ (80 ≤ id ∧ id ≤ 83)) → s'.1 id t e = s.1 id t e ∧ s'.2 id t e = s.2 id t e)
    (eN : s'.1 64 = s.1 64) (e70 : s'.1 70 = s.1 70) (e16 : (s.1 16 0 0).toNatClampNeg ≤ (s'.1 16 0 0).toNatClampNeg) (e216 : u'.1 216 0 = u.1 216 0) (e220 : u'.1 220 0 = u.1 220 0)
    (eu : ∀ id e, PT t id e → ((242 ≤ id ∧ id ≤ 259) ∧ ¬ (243 ≤ id ∧ id ≤ 245)) → u'.1 id 0 e = u.1 id 0 e ∧ u'.2 id 0 e = u.2 id 0 e) : TC sd s' u' t p d c := by
  have h8 := h.d8
  refine ⟨(es 37 0 (by omega)).1.trans h.hp, (es 41 0 (by omega)).1.trans h.ds, (eu 246 t (PT.a (by omega)) (by omega)).1.trans h.du, h8, ?_, fun b h1 h2 => ?_, ?_, ?_⟩
  · rw [(es 39 0 (by omega)).1, (eu 242 t (PT.a (by omega)) (by omega)).1]; exact h.st
  · obtain ⟨a, w, L⟩ := h.lv b h1 h2
    exact ⟨a, w, L.to eN e70 e16 (fun id h3 h4 => es id b (by omega)) (es 3 (b - 1) (by omega)).1 e216 e220 (fun id h3 h4 => eu id _ (PT.l ⟨h3, h4⟩ (by omega)) (by omega))⟩
  · exact h.rw.to (fun id e h3 => (es id e (by omega)).1) (fun e => (es 83 e (by omega)).2) (eu 255 t (PT.a (by omega)) (by omega)).1 (fun id k h3 h4 => (eu id _ (PT.r (by omega) h4) (by omega)).1) (fun k h4 => (eu 257 _ (PT.r (by omega) h4) (by omega)).2) (fun k l h3 h4 h5 => ⟨(h.rw.tm k l h3 h4 h5).1, (es 4 (l + 1) (by omega)).1.trans (h.rw.tm k l h3 h4 h5).2⟩)
  · rw [(es 42 0 (by omega)).1, h.aw, cntA_to d (fun b _ _ => (es 4 b (by omega)).1)]
def NR (s u : St) : Prop := (s.1 17 0 0 = u.1 263 0 0) ∧ (∃ n, n ≤ 400 ∧ u.1 263 0 0 = nI n ∧ ∀ k, k < n → s.1 18 0 k = u.1 264 0 k ∧ s.1 19 0 k = u.1 265 0 k ∧ s.1 20 0 k = u.1 266 0 k ∧ s.2 21 0 k = u.2 267 0 k) ∧ (s.1 16 0 0 = u.1 237 0 0)
theorem NR.cs {s u : St} (h : NR s u) : s.1 17 0 0 = u.1 263 0 0 := h.1
theorem NR.n4 {s u : St} (h : NR s u) : ∃ n, n ≤ 400 ∧ u.1 263 0 0 = nI n ∧ ∀ k, k < n → s.1 18 0 k = u.1 264 0 k ∧ s.1 19 0 k = u.1 265 0 k ∧ s.1 20 0 k = u.1 266 0 k ∧ s.2 21 0 k = u.2 267 0 k := h.2.1
theorem NR.ck {s u : St} (h : NR s u) : s.1 16 0 0 = u.1 237 0 0 := h.2.2
theorem NR.to {s u s' u' : St} (h : NR s u) (es : ∀ id, 16 ≤ id → id ≤ 21 → s'.1 id 0 = s.1 id 0 ∧ s'.2 id 0 = s.2 id 0) (eu : ∀ id, id = 237 ∨ (263 ≤ id ∧ id ≤ 267) → u'.1 id 0 = u.1 id 0 ∧ u'.2 id 0 = u.2 id 0) : NR s' u' := by
  obtain ⟨n, h1, h2, h3⟩ := h.n4
  refine ⟨?_, ⟨n, h1, by rw [(eu 263 (by omega)).1]; exact h2, fun k hk => ?_⟩, ?_⟩
  · rw [(es 17 (by omega) (by omega)).1, (eu 263 (by omega)).1]; exact h.cs
  · rw [(es 18 (by omega) (by omega)).1, (es 19 (by omega) (by omega)).1, (es 20 (by omega) (by omega)).1, (es 21 (by omega) (by omega)).2, (eu 264 (by omega)).1, (eu 265 (by omega)).1, (eu 266 (by omega)).1, (eu 267 (by omega)).2]; exact h3 k hk
  · rw [(es 16 (by omega) (by omega)).1, (eu 237 (by omega)).1]; exact h.ck
theorem tell_2 {s : St} {o id : Nat} {x1 x2 : Int32} {x3 : Int64} (h : id ≠ 21) : (tellS s o x1 x2 x3).2 id = s.2 id := by
  unfold tellS
  split
  · rfl
  · rw [si_2, sl_id h]; rfl
def NtK (u u' : St) : Prop := (∀ id, ¬ (263 ≤ id ∧ id ≤ 267) → u'.1 id = u.1 id ∧ u'.2 id = u.2 id)
theorem sim_note {s u : St} {t : Nat} {k x : Int32} {v : Int64} (ht : t < 7) (hN : NR s u) (h17 : ¬ s.1 17 1 0 < 0) (hx : t < 6 → x = nI t) : ∃ u', r_note0 k (nI t) v u = some u' ∧ NR (tellS s (co t) k x v) u' ∧ NtK u u' := by
  obtain ⟨n, h1, h2, h3⟩ := hN.n4
  unfold r_note0
  rw [bnd_d, h2]
  rcases Nat.lt_or_ge t 6 with h6 | h6
  · have ec : co t = 0 := by unfold co; rw [if_pos h6]
    rw [ec, hx h6]
    rcases Nat.lt_or_ge n 400 with hn | hn
    · rw [if_neg (show ¬ (400 : Int32) ≤ nI n from nI_ge (b := 400) hn (by decide)), if_neg (show ¬ nI t = 6 from fun z => absurd ((nI_eq (b := 6) (by omega) (by decide)).mp z) (by omega))]
      simp (disch := first | decide | omega) only [bnd_d, gI, nI_clamp, si_o, sl_1, h2, nI_1]
      have e17 : s.1 17 0 0 = nI n := hN.cs.trans h2
      refine ⟨_, rfl, ?_, ?_⟩
      · have et : tellS s 0 k (nI t) v = si (sl (si (si (si s 18 0 n k) 19 0 n (nI t)) 20 0 n (s.1 16 0 0)) 21 0 n v) 17 0 0 (nI (n + 1)) := by
          unfold tellS
          rw [e17, if_neg (show ¬ nI (cLen 0) ≤ nI n from nI_ge (b := 400) hn (by decide)), nI_clamp (by omega), nI_1]
        rw [et]
        refine ⟨by rw [si_eq, si_eq], ⟨n + 1, by omega, si_eq, fun q hq => ?_⟩, ?_⟩
        · by_cases e : q = n
          · subst e
            refine ⟨?_, ?_, ?_, ?_⟩
            · rw [si_o (by decide), sl_1, si_o (by decide), si_o (by decide), si_eq, si_o (by decide), sl_1, si_o (by decide), si_o (by decide), si_eq]
            · rw [si_o (by decide), sl_1, si_o (by decide), si_eq, si_o (by decide), sl_1, si_o (by decide), si_eq]
            · rw [si_o (by decide), sl_1, si_eq, si_o (by decide), sl_1, si_eq]; exact hN.ck
            · rw [si_2, sl_e, si_2, sl_e]
          · have h4 := h3 q (by omega)
            refine ⟨?_, ?_, ?_, ?_⟩
            · rw [si_o (by decide), sl_1, si_o (by decide), si_o (by decide), si_q e, si_o (by decide), sl_1, si_o (by decide), si_o (by decide), si_q e]; exact h4.1
            · rw [si_o (by decide), sl_1, si_o (by decide), si_q e, si_o (by decide), si_o (by decide), sl_1, si_o (by decide), si_q e, si_o (by decide)]; exact h4.2.1
            · rw [si_o (by decide), sl_1, si_q e, si_o (by decide), si_o (by decide), si_o (by decide), sl_1, si_q e, si_o (by decide), si_o (by decide)]; exact h4.2.2.1
            · simp only [si_2, sl_q e]; exact h4.2.2.2
        · rw [si_o (by decide), sl_1, si_o (by decide), si_o (by decide), si_o (by decide), si_o (by decide), sl_1, si_o (by decide), si_o (by decide), si_o (by decide)]; exact hN.ck
      · intro id hid
        refine ⟨?_, ?_⟩
        · rw [si_id (by omega), sl_1, si_id (by omega), si_id (by omega), si_id (by omega)]
        · rw [si_2, sl_id (by omega)]; rfl
    · rw [if_pos (show (400 : Int32) ≤ nI n from nI_le (a := 400) hn (by omega))]
      refine ⟨u, rfl, ?_, fun _ _ => ⟨rfl, rfl⟩⟩
      have e17 : s.1 17 0 0 = nI n := hN.cs.trans h2
      unfold tellS
      rw [e17, if_pos (show nI (cLen 0) ≤ nI n from nI_le (a := 400) hn (by omega))]
      exact hN
  · have e6 : t = 6 := by omega
    subst e6
    have hr : ∀ A, (if (400 : Int32) ≤ nI n then some u else if nI 6 = 6 then some u else A) = some u := fun A => by
      split
      · rfl
      · rw [if_pos (show nI 6 = 6 from rfl)]
    rw [hr]
    refine ⟨u, rfl, ?_, fun _ _ => ⟨rfl, rfl⟩⟩
    have et : tellS s (co 6) k x v = s := by
      unfold tellS
      rw [if_pos (show nI (cLen (co 6)) ≤ s.1 17 (co 6) 0 from Int32.not_lt.mp h17)]
    rw [et]; exact hN
/-! into a body -/
def giD (u : St) (A w : Nat) : Int64 := if u.1 216 0 A = 18 ∧ w = 0 then (u.1 237 0 0).toInt64 + (u.1 223 0 A).toInt64 else -1
def giU (u : St) (t d A w : Nat) (x : Int32) : St := si (si (si (si (sl (si (si (si (si u 246 0 t (nI (d + 1))) 247 0 (9 * t + d) (nI A)) 248 0 (9 * t + d) (nI w)) 249 0 (9 * t + d) (u.1 242 0 t)) 250 0 (9 * t + d) (giD u A w)) 251 0 (9 * t + d) 0) 252 0 (9 * t + d) 0) 242 0 t x) 241 0 t (u.1 219 0 (3 * A + w))
theorem r_goIn_eq {u : St} {t d A w : Nat} {x : Int32} (ht : t < 7) (hd : d ≤ 8) (hA : A < 480) (hw : w < 3) (hdu : u.1 246 0 t = nI d) : r_goIn (nI t) (nI A) (nI w) x u = some (giU u t d A w x) := by
  have fin : ∀ v : Int64, v = giD u A w → r_goIn_92 (nI t) (nI A) (nI w) x (nI (9 * t + d)) v (nI (9 * t + d)) (si (si (si (si u 246 0 t (nI (d + 1))) 247 0 (9 * t + d) (nI A)) 248 0 (9 * t + d) (nI w)) 249 0 (9 * t + d) (u.1 242 0 t)) = some (giU u t d A w x) := by
    rintro v rfl
    unfold r_goIn_92
    simp only [m3]
    rw [gI (by omega) (by decide), nI_clamp (by omega), gZ (by omega) (by decide) zo0, gI (by omega) (by decide), gI (by omega) (by decide), nI_clamp (by omega), gI (by omega) (by decide), nI_clamp (by omega), gI (by omega) (by decide)]
    rw [si_o (by decide), si_o (by decide), si_o (by decide), sl_1, si_o (by decide), si_o (by decide), si_o (by decide), si_o (by decide)]
    rfl
  unfold r_goIn
  rw [gI (by omega) (by decide), nI_clamp (by omega), hdu, gI (by omega) (by decide), gI (by omega) (by decide), nI_1]
  simp only [m9]
  rw [gI (by omega) (by decide), nI_clamp (by omega), gI (by omega) (by decide), gI (by omega) (by decide), si_o (by decide), si_o (by decide), si_o (by decide), gI (by omega) (by decide), gI (by omega) (by decide), nI_clamp (by omega), si_o (by decide), si_o (by decide), si_o (by decide), si_o (by decide)]
  by_cases h : u.1 216 0 A = 18
  · rw [if_pos h]
    by_cases h2 : w = 0
    · subst h2
      rw [if_pos (show nI 0 = 0 from rfl), bnd_d, si_o (by decide), si_o (by decide), si_o (by decide), si_o (by decide), gI (by omega) (by decide), si_o (by decide), si_o (by decide), si_o (by decide), si_o (by decide)]
      exact fin _ (by unfold giD; rw [if_pos ⟨h, rfl⟩])
    · rw [if_neg (fun z => h2 ((nI_z (by omega)).mp z))]
      unfold r_goIn_89
      exact fin _ (by unfold giD; rw [if_neg (fun z => h2 z.2)])
  · rw [if_neg h]
    unfold r_goIn_89
    exact fin _ (by unfold giD; rw [if_neg (fun z => h z.1)])
theorem gi_o {u : St} {t d A w id e : Nat} {x : Int32} (h : ¬ (id = 241 ∨ id = 242 ∨ (246 ≤ id ∧ id ≤ 252))) : (giU u t d A w x).1 id 0 e = u.1 id 0 e := by
  unfold giU
  rw [si_o (by omega), si_o (by omega), si_o (by omega), si_o (by omega), sl_1, si_o (by omega), si_o (by omega), si_o (by omega), si_o (by omega)]
theorem gi_o2 {u : St} {t d A w id : Nat} {x : Int32} (h : id ≠ 250) : (giU u t d A w x).2 id = u.2 id := by
  unfold giU
  rw [si_2, si_2, si_2, si_2, sl_id h]; rfl
theorem gi_id {u : St} {t d A w id : Nat} {x : Int32} (h : ¬ (id = 241 ∨ id = 242 ∨ (246 ≤ id ∧ id ≤ 252))) : (giU u t d A w x).1 id = u.1 id := by
  unfold giU
  rw [si_id (by omega), si_id (by omega), si_id (by omega), si_id (by omega), sl_1, si_id (by omega), si_id (by omega), si_id (by omega), si_id (by omega)]
theorem gi_q {u : St} {t d A w id e : Nat} {x : Int32} (h : 247 ≤ id) (he : e ≠ 9 * t + d) : (giU u t d A w x).1 id 0 e = u.1 id 0 e := by
  by_cases h2 : id ≤ 252
  · unfold giU
    rw [si_o (by omega), si_o (by omega), si_ne (fun z => he z.2.2), si_ne (fun z => he z.2.2), sl_1, si_ne (fun z => he z.2.2), si_ne (fun z => he z.2.2), si_ne (fun z => he z.2.2), si_o (by omega)]
  · exact gi_o (by omega)
theorem gi_q2 {u : St} {t d A w id e : Nat} {x : Int32} (he : e ≠ 9 * t + d) : (giU u t d A w x).2 id 0 e = u.2 id 0 e := by
  unfold giU
  rw [si_2, si_2, si_2, si_2, sl_r, if_neg (fun z => he z.2.2)]; rfl
theorem gi_246 {u : St} {t d A w : Nat} {x : Int32} : (giU u t d A w x).1 246 0 t = nI (d + 1) := by
  unfold giU; rw [si_o (by decide), si_o (by decide), si_o (by decide), si_o (by decide), sl_1, si_o (by decide), si_o (by decide), si_o (by decide), si_eq]
theorem gi_247 {u : St} {t d A w : Nat} {x : Int32} : (giU u t d A w x).1 247 0 (9 * t + d) = nI A := by
  unfold giU; rw [si_o (by decide), si_o (by decide), si_o (by decide), si_o (by decide), sl_1, si_o (by decide), si_o (by decide), si_eq]
theorem gi_248 {u : St} {t d A w : Nat} {x : Int32} : (giU u t d A w x).1 248 0 (9 * t + d) = nI w := by
  unfold giU; rw [si_o (by decide), si_o (by decide), si_o (by decide), si_o (by decide), sl_1, si_o (by decide), si_eq]
theorem gi_249 {u : St} {t d A w : Nat} {x : Int32} : (giU u t d A w x).1 249 0 (9 * t + d) = u.1 242 0 t := by
  unfold giU; rw [si_o (by decide), si_o (by decide), si_o (by decide), si_o (by decide), sl_1, si_eq]
theorem gi_250 {u : St} {t d A w : Nat} {x : Int32} : (giU u t d A w x).2 250 0 (9 * t + d) = giD u A w := by
  unfold giU; rw [si_2, si_2, si_2, si_2, sl_e]
theorem gi_251 {u : St} {t d A w : Nat} {x : Int32} : (giU u t d A w x).1 251 0 (9 * t + d) = 0 := by
  unfold giU; rw [si_o (by decide), si_o (by decide), si_o (by decide), si_eq]
theorem gi_252 {u : St} {t d A w : Nat} {x : Int32} : (giU u t d A w x).1 252 0 (9 * t + d) = 0 := by
  unfold giU; rw [si_o (by decide), si_o (by decide), si_eq]
theorem gi_242 {u : St} {t d A w : Nat} {x : Int32} : (giU u t d A w x).1 242 0 t = x := by
  unfold giU; rw [si_o (by decide), si_eq]
theorem gi_241 {u : St} {t d A w : Nat} {x : Int32} : (giU u t d A w x).1 241 0 t = u.1 219 0 (3 * A + w) := by
  unfold giU; rw [si_eq]
theorem Ag_gi {u : St} {t d A w : Nat} {x : Int32} (hd : d < 9) : Ag t u (giU u t d A w x) := by
  unfold giU
  exact ((((((((((Ag.refl t u).si (PT.a (by omega))).si (PT.l (by omega) hd)).si (PT.l (by omega) hd)).si (PT.l (by omega) hd)).sl (PT.l (by omega) hd)).si (PT.l (by omega) hd)).si (PT.l (by omega) hd)).si (PT.a (by omega))).si (PT.a (by omega)))
theorem Cl_gi {u : St} {t d A w : Nat} {x : Int32} : Cl u (giU u t d A w x) := by
  unfold giU
  exact ((((((((((Cl.refl u).si (by decide)).si (by decide)).si (by decide)).si (by decide)).sl (by decide)).si (by decide)).si (by decide)).si (by decide)).si (by decide))
/-- a level more on both sides -/
theorem TC_enter {sd : Nat → Nat → Nat} {s0 u0 s' : St} {t p e c a w : Nat} {x : Int32} (h : TC sd s0 u0 t p e c) (he : e < 8) (ha : a < nS s0 p) (hw : w < 3) (hb : u0.1 220 0 (3 * (40 * p + a) + w) = 1) (hsd : sd p a = e) (h3 : s0.1 3 t e = nI a)
    (hs : ∀ id k, (id ≤ 8 ∧ k ≠ e + 1) ∨ id = 37 ∨ (80 ≤ id ∧ id ≤ 83) → s'.1 id t k = s0.1 id t k ∧ s'.2 id t k = s0.2 id t k) (eN : s'.1 64 = s0.1 64) (e70 : s'.1 70 = s0.1 70) (e16 : s'.1 16 0 0 = s0.1 16 0 0)
    (n0 : s'.1 0 t (e + 1) = nI a) (n1 : s'.1 1 t (e + 1) = nI w) (n2 : s'.1 2 t (e + 1) = s0.1 39 t 0) (n6 : s'.1 6 t (e + 1) = 0) (n39 : s'.1 39 t 0 = x) (n41 : s'.1 41 t 0 = nI (e + 1)) (nt : TmR s' (giU u0 t e (40 * p + a) w x) t p a w (e + 1) (9 * t + e))
    (n42 : s'.1 42 t 0 = nI ((if s'.1 4 t (e + 1) = 1 then 1 else 0) + cntA s0 t e)) : TC sd s' (giU u0 t e (40 * p + a) w x) t p (e + 1) c := by
  have hp := h.d8
  refine ⟨(hs 37 0 (by omega)).1.trans h.hp, n41, gi_246, by omega, n39.trans gi_242.symm, fun b h1 h2 => ?_, ?_, ?_⟩
  · by_cases hb2 : b = e + 1
    · subst hb2
      refine ⟨a, w, ⟨by unfold nS at *; rw [eN]; exact ha, hw⟩, ⟨n0, (hs 3 _ (by omega)).1.trans h3, gi_247⟩, ⟨n1, gi_248⟩, ?_, ⟨?_, hsd⟩, nt, Or.inl ⟨n6, gi_252⟩⟩
      · rw [n2, h.st]; exact gi_249.symm
      · rw [gi_o (by omega)]; exact hb
    · obtain ⟨a2, w2, L⟩ := h.lv b h1 (by omega)
      refine ⟨a2, w2, L.to eN e70 (by rw [e16]; exact Nat.le_refl _) (fun id h3 h4 => hs id b (by omega)) (hs 3 (b - 1) (by omega)).1 (congrFun (gi_id (by omega)) 0) (congrFun (gi_id (by omega)) 0) (fun id h3 h4 => ⟨gi_q h3 (by omega), gi_q2 (by omega)⟩)⟩
  · refine h.rw.to (fun id k h4 => (hs id k (by omega)).1) (fun k => (hs 83 k (by omega)).2) (gi_o (by omega)) (fun id k h4 _ => gi_o (by omega)) (fun k _ => by rw [gi_o2 (by omega)]) (fun k l h4 h5 h6 => ?_)
    have h7 := h.rw.tm k l h4 h5 h6
    exact ⟨by omega, by rw [(hs 4 (l + 1) (by omega)).1]; exact h7.2⟩
  · rw [n42]
    show _ = nI ((if s'.1 4 t (e + 1) = 1 then 1 else 0) + cntA s' t e)
    rw [cntA_to e (fun b h1 h2 => (hs 4 b (by omega)).1)]
