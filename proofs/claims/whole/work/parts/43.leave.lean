/-! out of a body, on both sides -/
theorem nI_z {w : Nat} (h : w < 2 ^ 31) : nI w = 0 ↔ w = 0 := nI_eq (b := 0) h (by decide)
theorem nI_o {w : Nat} (h : w < 2 ^ 31) : nI w = 1 ↔ w = 1 := nI_eq (b := 1) h (by decide)
theorem nI_t {w : Nat} (h : w < 2 ^ 31) : nI w = 2 ↔ w = 2 := nI_eq (b := 2) h (by decide)
def lvU (u : St) (t d : Nat) : St := si (si u 246 0 t (nI (d - 1))) 242 0 t (u.1 249 0 (9 * t + (d - 1)))
theorem r_leave_eq {t d a w : Nat} {u : St} (ht : t < 7) (hd : 1 ≤ d) (h8 : d ≤ 8) (hdu : u.1 246 0 t = nI d) (h247 : u.1 247 0 (9 * t + (d - 1)) = nI a) (ha : a < 480) (h248 : u.1 248 0 (9 * t + (d - 1)) = nI w) (hw : w < 3) :
    r_leave (nI t) u = if u.1 216 0 a = 18 ∧ w = 0 then r_leave_68 40 (nI t) (u.1 255 0 t - 1) (lvU u t d) else some (lvU u t d) := by
  unfold r_leave
  rw [gI (by omega) (by decide), nI_clamp (by omega), hdu, gI (by omega) (by decide), nI_s1 hd, gI (by omega) (by decide), si_eq]
  simp only [m9]
  rw [gI (by omega) (by decide), nI_clamp (by omega), si_o (by decide), gI (by omega) (by decide), gI (by omega) (by decide), si_o (by decide), si_o (by decide), h247, gI (by omega) (by decide), nI_clamp (by omega), si_o (by decide), si_o (by decide)]
  by_cases h : u.1 216 0 a = 18
  · rw [if_pos h, gI (by omega) (by decide), si_o (by decide), si_o (by decide), h248]
    by_cases h2 : w = 0
    · subst h2
      rw [if_pos (show nI 0 = 0 from rfl), gI (by omega) (by decide), si_o (by decide), si_o (by decide), if_pos ⟨h, rfl⟩]
      rfl
    · rw [if_neg (fun z => h2 ((nI_z (by omega)).mp z)), if_neg (fun z => h2 z.2)]
      rfl
  · rw [if_neg h, if_neg (fun z => h z.1)]
    rfl
theorem leaveS_eq {s : St} {t d : Nat} (hds : s.1 41 t 0 = nI d) (h1 : 1 ≤ d) (h8 : d ≤ 8) : leaveS s t = si (si (si (if s.1 4 t d = 1 then si s 42 t 0 (s.1 42 t 0 - 1) else if s.1 4 t d = 2 then rmS s t (pl82 s t (nI d) (cN s t) 0) else s) 4 t d 0) 39 t 0 (s.1 2 t d)) 41 t 0 (nI (d - 1)) := by
  unfold leaveS
  rw [dN_of hds h8]
  rw [ft_id (id := 2) (by decide) (by decide) (by decide) (by decide) (by decide), ft_id (id := 41) (by decide) (by decide) (by decide) (by decide) (by decide), hds, nI_s1 h1]
  unfold ftS
  rw [hds]
theorem row_match {s u : St} {t d c k : Nat} (h : RwR s u t d c) (hk : k < c) (e : Nat) (he : e < 8) : (u.1 256 0 (32 * t + k) = 7 ∧ u.1 258 0 (32 * t + k) = nI e) ↔ s.1 82 t k = nI (e + 1) := by
  obtain ⟨w, l, h1, h2, h3, h4, h5⟩ := h.en k hk
  rw [h3]
  rcases h5 with ⟨rfl, h5, h6, h7⟩ | ⟨h5, h6⟩
  · rw [h6, h7]
    constructor
    · rintro ⟨-, z⟩; rw [(nI_eq (by omega) (by omega)).mp z]
    · intro z; have := (nI_eq (by omega) (by omega)).mp z; exact ⟨rfl, by rw [show l = e by omega]⟩
  · constructor
    · rintro ⟨z, -⟩; exact absurd ((nI_eq (b := 7) (by omega) (by omega)).mp z) h5
    · intro z; rw [h6] at z; exact absurd ((nI_eq (a := 0) (by omega) (by omega)).mp z) (by omega)
theorem fin_leave {sd : Nat → Nat → Nat} {s u X u2 : St} {t p d c c' : Nat} (h : TC sd s u t p d c) (hd : 1 ≤ d)
    (hX : ∀ id o e, ¬ (id = 42 ∨ id = 80 ∨ id = 81 ∨ id = 82) → X.1 id o e = s.1 id o e) (hX2 : ∀ id o e, id ≠ 83 → X.2 id o e = s.2 id o e) (h42 : X.1 42 t 0 = nI (cntA s t (d - 1))) (hR : RwR X u2 t d c') (htm : ∀ k l, k < c' → X.1 82 t k = nI (l + 1) → l < 8 → l < d - 1)
    (hu : ∀ id e, ¬ (id = 255 ∨ id = 256 ∨ id = 258 ∨ id = 259) → u2.1 id 0 e = (lvU u t d).1 id 0 e) (hu2 : ∀ id e, id ≠ 257 → u2.2 id 0 e = u.2 id 0 e) (e216 : u2.1 216 0 = u.1 216 0) (e220 : u2.1 220 0 = u.1 220 0) : TC sd (si (si (si X 4 t d 0) 39 t 0 (s.1 2 t d)) 41 t 0 (nI (d - 1))) u2 t p (d - 1) c' := by
  have h8 := h.d8
  obtain ⟨a, w, L⟩ := h.lv d hd (Nat.le_refl _)
  have e4 : ∀ b, b ≠ d → (si (si (si X 4 t d 0) 39 t 0 (s.1 2 t d)) 41 t 0 (nI (d - 1))).1 4 t b = s.1 4 t b := fun b hb => by
    rw [si_o (by decide), si_o (by decide), si_q hb, hX _ _ _ (by omega)]
  have eo : ∀ id o e, ¬ (id = 42 ∨ id = 80 ∨ id = 81 ∨ id = 82) → ¬ (id = 4 ∨ id = 39 ∨ id = 41) → (si (si (si X 4 t d 0) 39 t 0 (s.1 2 t d)) 41 t 0 (nI (d - 1))).1 id o e = s.1 id o e := fun id o e h1 h2 => by
    rw [si_o (by omega), si_o (by omega), si_o (by omega), hX _ _ _ h1]
  have er : ∀ id o e, (id = 80 ∨ id = 81 ∨ id = 82 ∨ id = 42) → (si (si (si X 4 t d 0) 39 t 0 (s.1 2 t d)) 41 t 0 (nI (d - 1))).1 id o e = X.1 id o e := fun id o e h1 => by
    rw [si_o (by omega), si_o (by omega), si_o (by omega)]
  have eu : ∀ id e, ¬ (id = 255 ∨ id = 256 ∨ id = 258 ∨ id = 259) → ¬ (id = 242 ∨ id = 246) → u2.1 id 0 e = u.1 id 0 e := fun id e h1 h2 => by
    rw [hu id e h1]; unfold lvU; rw [si_o (by omega), si_o (by omega)]
  refine ⟨?_, si_eq, ?_, by omega, ?_, fun b h1 h2 => ?_, ?_, ?_⟩
  · rw [eo _ _ _ (by omega) (by omega)]; exact h.hp
  · rw [hu _ _ (by omega)]; unfold lvU; rw [si_o (by decide), si_eq]
  · rw [si_o (by decide), si_eq, hu _ _ (by omega)]; unfold lvU; rw [si_eq]; exact L.2.2.2.1
  · obtain ⟨a, w, L⟩ := h.lv b h1 (by omega)
    refine ⟨a, w, L.to ?_ ?_ ?_ ?_ ?_ e216 e220 ?_⟩
    · funext o e; exact eo _ _ _ (by omega) (by omega)
    · funext o e; exact eo _ _ _ (by omega) (by omega)
    · rw [eo _ _ _ (by omega) (by omega)]; exact Nat.le_refl _
    · intro id h3 h4
      refine ⟨?_, hX2 id t b (by omega)⟩
      by_cases h5 : id = 4
      · subst h5; exact e4 b (by omega)
      · exact eo _ _ _ (by omega) (by omega)
    · exact eo _ _ _ (by omega) (by omega)
    · intro id h3 h4
      exact ⟨eu _ _ (by omega) (by omega), hu2 _ _ (by omega)⟩
  · refine hR.to (fun id e h => er id t e (by omega)) (fun e => rfl) rfl (fun _ _ _ _ => rfl) (fun _ _ => rfl) (fun k l h1 h2 h3 => ?_)
    have h4 := htm k l h1 h2 h3
    refine ⟨h4, ?_⟩
    rw [e4 _ (by omega), ← hX 4 t (l + 1) (by omega)]
    exact (hR.tm k l h1 h2 h3).2
  · rw [er _ _ _ (by omega), h42, cntA_to (d - 1) (fun b h1 h2 => e4 b (by omega))]
/-- what a leave leaves as it was -/
def LvK (t : Nat) (u u' : St) : Prop := (∀ id e, ¬ (id = 242 ∨ id = 246 ∨ (255 ≤ id ∧ id ≤ 259)) → u'.1 id 0 e = u.1 id 0 e ∧ u'.2 id 0 e = u.2 id 0 e) ∧ Ag t u u' ∧ Cl u u' ∧ u'.1 216 0 = u.1 216 0 ∧ u'.1 220 0 = u.1 220 0
theorem lvU_K {u : St} {t d : Nat} : LvK t u (lvU u t d) := by
  refine ⟨fun id e h => ⟨?_, rfl⟩, ((Ag.refl t u).si (PT.a (by omega))).si (PT.a (by omega)), ((Cl.refl u).si (by decide)).si (by decide), ?_, ?_⟩
  · unfold lvU; rw [si_o (by omega), si_o (by omega)]
  · unfold lvU; rw [si_id (by decide), si_id (by decide)]
  · unfold lvU; rw [si_id (by decide), si_id (by decide)]
theorem frS_id {u : St} {t c q id : Nat} (h : ¬ (id = 255 ∨ id = 256 ∨ id = 258 ∨ id = 259)) : (frS u t c q).1 id = u.1 id := by
  funext o e; unfold frS; rw [frL_1, if_neg (by omega), si_o (by omega)]
theorem fr_K {u v : St} {t c q : Nat} (hc : c ≤ 22) (h : LvK t u v) : LvK t u (frS v t c q) := by
  refine ⟨fun id e h1 => ⟨?_, ?_⟩, h.2.1.trans (Ag_fr hc), h.2.2.1.trans Cl_fr, ?_, ?_⟩
  · rw [frS_1, if_neg (by omega), if_neg (by omega)]; exact (h.1 id e h1).1
  · rw [frS_2, if_neg (by omega)]; exact (h.1 id e h1).2
  · rw [frS_id (by omega)]; exact h.2.2.2.1
  · rw [frS_id (by omega)]; exact h.2.2.2.2
/-- the row of one THREAD has lost some at most -/
def SbR (t : Nat) (s u s' u' : St) : Prop := ∀ k, k < cN s' t → ∃ k', k' < cN s t ∧ s'.1 81 t k = s.1 81 t k' ∧ u'.1 259 0 (32 * t + k) = u.1 259 0 (32 * t + k')
theorem SbR.eq {t : Nat} {s u s' u' : St} (h0 : s'.1 80 t 0 = s.1 80 t 0) (h1 : ∀ k, s'.1 81 t k = s.1 81 t k) (h2 : ∀ k, k < 32 → u'.1 259 0 (32 * t + k) = u.1 259 0 (32 * t + k)) (hc : cN s t ≤ 22) : SbR t s u s' u' := fun k hk => by
  have e : cN s' t = cN s t := by unfold cN; rw [h0]
  exact ⟨k, by omega, h1 k, h2 k (by omega)⟩
theorem SbR.trans {t : Nat} {s u s1 u1 s2 u2 : St} (h : SbR t s u s1 u1) (h' : SbR t s1 u1 s2 u2) : SbR t s u s2 u2 := fun k hk => by
  obtain ⟨k1, a1, a2, a3⟩ := h' k hk
  obtain ⟨k2, b1, b2, b3⟩ := h k1 a1
  exact ⟨k2, b1, a2.trans b2, a3.trans b3⟩
theorem Ac_leave {s : St} {t : Nat} : Ac t s (leaveS s t) := by
  have h0 : Ac t s (ftS s t (dN s t)) := by
    unfold ftS
    refine Ac.si (PC.a (by omega)) ?_
    by_cases h1 : s.1 4 t (dN s t) = 1
    · rw [if_pos h1]; exact (Ac.refl t s).si (PC.a (by omega))
    · rw [if_neg h1]
      by_cases h2 : s.1 4 t (dN s t) = 2
      · rw [if_pos h2]; unfold rmS; split
        · exact Ac.refl t s
        · exact Ac_rem
      · rw [if_neg h2]; exact Ac.refl t s
  unfold leaveS
  exact (h0.si (PC.a (by omega))).si (PC.a (by omega))
theorem leave_2 {s : St} {t id o e : Nat} (h : id ≠ 83) : (leaveS s t).2 id o e = s.2 id o e := by
  unfold leaveS ftS
  rw [si_2, si_2, si_2]
  by_cases h1 : s.1 4 t (dN s t) = 1
  · rw [if_pos h1]; rfl
  · rw [if_neg h1]
    by_cases h2 : s.1 4 t (dN s t) = 2
    · rw [if_pos h2]; unfold rmS; split
      · rfl
      · exact rem_o2 (by omega)
    · rw [if_neg h2]
theorem sim_leave {sd : Nat → Nat → Nat} {s u : St} {t p d c : Nat} (ht : t < 7) (hp : p < 12) (hn : nS s p ≤ 40) (h : TC sd s u t p d c) (hd : 1 ≤ d) : ∃ u' c', r_leave (nI t) u = some u' ∧ TC sd (leaveS s t) u' t p (d - 1) c' ∧ LvK t u u' ∧ SbR t s u (leaveS s t) u' := by
  have h8 := h.d8
  have hc := h.rw.c22
  obtain ⟨a, w, L⟩ := h.lv d hd (Nat.le_refl _)
  have ha := L.1.1
  rw [r_leave_eq ht hd h8 h.du L.2.1.2.2 (by omega) L.2.2.1.2 L.1.2, leaveS_eq h.ds hd h8, cN_of h.rw.cs hc]
  have eR : ∀ X, RwR X u t d c → RwR X (lvU u t d) t d c := fun X hX => hX.to (fun _ _ _ => rfl) (fun _ => rfl) (by unfold lvU; rw [si_o (by decide), si_o (by decide)]) (fun id k h1 _ => by unfold lvU; rw [si_o (by omega), si_o (by omega)]) (fun _ _ => rfl) hX.tm
  have cA : cntA s t d = (if s.1 4 t d = 1 then 1 else 0) + cntA s t (d - 1) := by
    obtain ⟨e, rfl⟩ : ∃ e, d = e + 1 := ⟨d - 1, by omega⟩
    rfl
  have keyN : ∀ k, k < c → s.1 82 t k = nI d → s.1 4 t d = 2 := fun k hk e => by
    have := (h.rw.tm k (d - 1) hk (by rw [e, show d - 1 + 1 = d by omega]) (by omega)).2
    rwa [show d - 1 + 1 = d by omega] at this
  have nM : ∀ k l, k < c → s.1 82 t k = nI (l + 1) → l < 8 → ¬ s.1 82 t k = nI d → l < d - 1 := fun k l h1 h2 h3 h4 => by
    have := (h.rw.tm k l h1 h2 h3).1
    rcases Nat.lt_or_ge l (d - 1) with z | z
    · exact z
    · exact absurd (by rw [h2, show l + 1 = d by omega]) h4
  have noX : (∀ k, k < c → ¬ s.1 82 t k = nI d) → ∀ k, k < c → ¬ ((lvU u t d).1 256 0 (32 * t + k) = 7 ∧ (lvU u t d).1 258 0 (32 * t + k) = nI (d - 1)) := fun hno k hk z => by
    refine hno k hk ?_
    have z2 : u.1 256 0 (32 * t + k) = 7 ∧ u.1 258 0 (32 * t + k) = nI (d - 1) := by
      unfold lvU at z; rw [si_o (by decide), si_o (by decide), si_o (by decide), si_o (by decide)] at z; exact z
    have := (row_match h.rw hk (d - 1) (by omega)).mp z2
    rwa [show d - 1 + 1 = d by omega] at this
  have hcu : (lvU u t d).1 255 0 t = nI c := by unfold lvU; rw [si_o (by decide), si_o (by decide)]; exact h.rw.cu
  have hdu : (lvU u t d).1 246 0 t = nI (d - 1) := by unfold lvU; rw [si_o (by decide), si_eq]
  have fin : ∀ X c' u2, (∀ id o e, ¬ (id = 42 ∨ id = 80 ∨ id = 81 ∨ id = 82) → X.1 id o e = s.1 id o e) → (∀ id o e, id ≠ 83 → X.2 id o e = s.2 id o e) → X.1 42 t 0 = nI (cntA s t (d - 1)) → RwR X u2 t d c' → (∀ k l, k < c' → X.1 82 t k = nI (l + 1) → l < 8 → l < d - 1) → (u2 = lvU u t d ∨ ∃ c q, u2 = frS (lvU u t d) t c q) → TC sd (si (si (si X 4 t d 0) 39 t 0 (s.1 2 t d)) 41 t 0 (nI (d - 1))) u2 t p (d - 1) c' := by
    intro X c' u2 h1 h2 h3 h4 h5 h6
    refine fin_leave h hd h1 h2 h3 h4 h5 ?_ ?_ ?_ ?_
    · rcases h6 with rfl | ⟨c, q, rfl⟩
      · intro _ _ _; rfl
      · intro id e z; rw [frS_1, if_neg (by omega), if_neg (by omega)]
    · rcases h6 with rfl | ⟨c, q, rfl⟩
      · intro _ _ _; rfl
      · intro id e z; rw [frS_2, if_neg (by omega)]; rfl
    · rcases h6 with rfl | ⟨c, q, rfl⟩
      · exact lvU_K.2.2.2.1
      · rw [frS_id (by omega)]; exact lvU_K.2.2.2.1
    · rcases h6 with rfl | ⟨c, q, rfl⟩
      · exact lvU_K.2.2.2.2
      · rw [frS_id (by omega)]; exact lvU_K.2.2.2.2
  have cNs : cN s t = c := cN_of h.rw.cs hc
  have sb : ∀ X u2, SbR t s u X u2 → SbR t s u (si (si (si X 4 t d 0) 39 t 0 (s.1 2 t d)) 41 t 0 (nI (d - 1))) u2 := fun X u2 hS k hk => by
    have e : ∀ id e, id = 80 ∨ id = 81 → (si (si (si X 4 t d 0) 39 t 0 (s.1 2 t d)) 41 t 0 (nI (d - 1))).1 id t e = X.1 id t e := fun id e z => by rw [si_o (by omega), si_o (by omega), si_o (by omega)]
    unfold cN at hk
    rw [e 80 0 (by omega)] at hk
    rw [e 81 k (by omega)]
    exact hS k hk
  have sb0 : ∀ X, (∀ id e, id = 80 ∨ id = 81 → X.1 id t e = s.1 id t e) → SbR t s u X (lvU u t d) := fun X hX => SbR.eq (hX 80 0 (by omega)) (fun k => hX 81 k (by omega)) (fun k _ => by unfold lvU; rw [si_o (by decide), si_o (by decide)]) (by omega)
  have sbq : ∀ q, q < c → SbR t s u (remS s t c q) (frS (lvU u t d) t c q) := fun q hq k hk => by
    have e : cN (remS s t c q) t = c - 1 := cN_of (by unfold remS; rw [si_eq]) (by omega)
    rw [e] at hk
    refine ⟨jx q k, by rw [cNs]; exact jx_lt hk, rem_1 (Or.inl rfl) hk, ?_⟩
    rw [fr_1 (Or.inr (Or.inr rfl)) hk]; unfold lvU; rw [si_o (by decide), si_o (by decide)]
  rcases L.2.2.2.2.2.1 with ⟨k1, k2, wi, n, g1, g2, g3, g4, g5, g6⟩ | ⟨k1, k2, k3⟩
  · rw [if_pos ⟨k1, k2⟩, h.rw.cu]
    rcases g6 with ⟨g6, g7⟩ | ⟨g6, g7⟩
    · have hno : ∀ k, k < c → ¬ s.1 82 t k = nI d := fun k hk e => absurd (keyN k hk e) (by rw [g6]; decide)
      rw [if_pos g6]
      refine ⟨lvU u t d, c, r_lv68 t c (d - 1) ht hc c 40 _ (Nat.le_refl _) (by omega) hcu hdu (noX hno), fin _ _ _ (fun id o e z => si_o (by omega)) (fun _ _ _ _ => rfl) ?_ ?_ ?_ (Or.inl rfl), lvU_K, sb _ _ (sb0 _ (fun id e z => si_o (by omega)))⟩
      · rw [si_eq, h.aw, cA, if_pos g6, nI_s1 (by omega)]; congr 1; omega
      · refine eR _ (h.rw.to (fun id e z => si_o (by omega)) (fun _ => rfl) rfl (fun _ _ _ _ => rfl) (fun _ _ => rfl) (fun k l z1 z2 z3 => ?_))
        rw [si_o (by decide)]; exact h.rw.tm k l z1 z2 z3
      · intro k l z1 z2 z3
        rw [si_o (by decide)] at z2
        exact nM k l z1 z2 z3 (hno k z1)
    · have hn1 : ¬ s.1 4 t d = 1 := by rw [g6]; decide
      rw [if_neg hn1, if_pos g6]
      have cA2 : s.1 42 t 0 = nI (cntA s t (d - 1)) := by rw [h.aw, cA, if_neg hn1, Nat.zero_add]
      by_cases hex : ∃ q, q < c ∧ s.1 82 t q = nI d
      · obtain ⟨q, hq, eq⟩ := hex
        have huq : ∀ k, k < c → s.1 82 t k = nI d → k = q := fun k hk e => by
          refine h.rw.un k q hk hq ?_ (e.trans eq.symm) ?_
          · have a1 := (row_match h.rw hk (d - 1) (by omega)).mpr (by rw [e, show d - 1 + 1 = d by omega])
            have a2 := (row_match h.rw hq (d - 1) (by omega)).mpr (by rw [eq, show d - 1 + 1 = d by omega])
            obtain ⟨w1, l1, b1, b2, b3, -⟩ := h.rw.en k hk
            obtain ⟨w2, l2, d1, d2, d3, -⟩ := h.rw.en q hq
            rw [b2, d2, ← b3, ← d3, a1.1, a2.1]
          · have a1 := (row_match h.rw hk (d - 1) (by omega)).mpr (by rw [e, show d - 1 + 1 = d by omega])
            obtain ⟨w1, l1, b1, b2, b3, -⟩ := h.rw.en k hk
            rw [b2, ← b3, a1.1]; decide
        rw [pl82_at eq c 0 (by omega) (by omega) (fun i _ h2 e => by have := huq i (by omega) e; omega), rmS_at h.rw.cs hc hq]
        refine ⟨frS (lvU u t d) t c q, c - 1, r_lv68q t c (d - 1) q ht hc hq c 40 _ (Nat.le_refl _) hq (by omega) hcu hdu ?_ ?_, fin _ _ _ (fun id o e z => rem_o (by omega) (by omega)) (fun id o e z => rem_o2 (by omega)) ?_ (RwR_rem (eR s h.rw) hq) ?_ (Or.inr ⟨c, q, rfl⟩), fr_K hc lvU_K, sb _ _ (sbq q hq)⟩
        · have a2 := (row_match h.rw hq (d - 1) (by omega)).mpr (by rw [eq, show d - 1 + 1 = d by omega])
          unfold lvU; rw [si_o (by decide), si_o (by decide), si_o (by decide), si_o (by decide)]; exact a2
        · intro k hk z
          refine huq k hk ?_
          have z2 : u.1 256 0 (32 * t + k) = 7 ∧ u.1 258 0 (32 * t + k) = nI (d - 1) := by
            unfold lvU at z; rw [si_o (by decide), si_o (by decide), si_o (by decide), si_o (by decide)] at z; exact z
          have := (row_match h.rw hk (d - 1) (by omega)).mp z2
          rwa [show d - 1 + 1 = d by omega] at this
        · rw [rem_o (by omega) (by omega)]; exact cA2
        · intro k l z1 z2 z3
          rw [rem_1 (Or.inr rfl) z1] at z2
          exact nM _ l (jx_lt z1) z2 z3 (fun e => jx_ne (huq _ (jx_lt z1) e))
      · have hno : ∀ k, k < c → ¬ s.1 82 t k = nI d := fun k hk e => hex ⟨k, hk, e⟩
        rw [pl82_no c 0 (fun i _ h2 => hno i (by omega)), rmS_no]
        refine ⟨lvU u t d, c, r_lv68 t c (d - 1) ht hc c 40 _ (Nat.le_refl _) (by omega) hcu hdu (noX hno), fin _ _ _ (fun _ _ _ _ => rfl) (fun _ _ _ _ => rfl) cA2 (eR s h.rw) ?_ (Or.inl rfl), lvU_K, sb _ _ (sb0 _ (fun _ _ _ => rfl))⟩
        intro k l z1 z2 z3
        exact nM k l z1 z2 z3 (hno k z1)
  · have hno : ∀ k, k < c → ¬ s.1 82 t k = nI d := fun k hk e => absurd (keyN k hk e) (by rw [k2]; decide)
    rw [if_neg k1, if_neg (by rw [k2]; decide), if_neg (by rw [k2]; decide)]
    refine ⟨lvU u t d, c, rfl, fin _ _ _ (fun _ _ _ _ => rfl) (fun _ _ _ _ => rfl) ?_ (eR s h.rw) ?_ (Or.inl rfl), lvU_K, sb _ _ (sb0 _ (fun _ _ _ => rfl))⟩
    · rw [h.aw, cA, if_neg (by rw [k2]; decide), Nat.zero_add]
    · intro k l z1 z2 z3
      exact nM k l z1 z2 z3 (hno k z1)
