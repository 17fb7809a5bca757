/-! the first of a row is THROWN; a send that is broken -/
theorem r_drop0 (g : Nat) (x : Int32) (hg : g < 7) : ∀ (m n : Nat) (u : St), m ≤ 22 → m < n → (∀ k, k < m → ¬ u.1 259 0 (32 * g + k) = x) → r_dropSerial_9 n (nI g) x (nI m - 1) u = some u := by
  intro m
  induction m with
  | zero =>
    intro n u hm hn hno
    obtain ⟨n, rfl⟩ : ∃ q, n = q + 1 := ⟨n - 1, by omega⟩
    rw [r_dropSerial_9.eq_2, if_pos (by decide)]
  | succ m ih =>
    intro n u hm hn hno
    obtain ⟨n, rfl⟩ : ∃ q, n = q + 1 := ⟨n - 1, by omega⟩
    rw [r_dropSerial_9.eq_2, nI_pred, if_neg (nI_pos (by omega))]
    simp only [m32]
    rw [gI (by omega) (by decide), nI_clamp (by omega), if_neg (hno m (by omega))]
    unfold r_dropSerial_34; rw [m1s]; exact ih n u (by omega) (by omega) (fun k hk => hno k (by omega))
theorem r_dropq (g c q : Nat) (x : Int32) (hg : g < 7) (hc : c ≤ 22) (hqc : q < c) : ∀ (m n : Nat) (u : St), m ≤ c → q < m → m < n → u.1 255 0 g = nI c → u.1 259 0 (32 * g + q) = x → (∀ k, k < m → u.1 259 0 (32 * g + k) = x → k = q) → r_dropSerial_9 n (nI g) x (nI m - 1) u = some (frS u g c q) := by
  intro m
  induction m with
  | zero => intro n u hm hq; omega
  | succ m ih =>
    intro n u hm hq hn hu hy hno
    obtain ⟨n, rfl⟩ : ∃ q, n = q + 1 := ⟨n - 1, by omega⟩
    rw [r_dropSerial_9.eq_2, nI_pred, if_neg (nI_pos (by omega))]
    simp only [m32]
    rw [gI (by omega) (by decide), nI_clamp (by omega)]
    unfold r_dropSerial_34
    by_cases hqm : q = m
    · subst hqm
      rw [if_pos hy, r_from g c q hg hc hqc u hu, cal_s, m1s]
      refine r_drop0 g x hg q n _ (by omega) (by omega) (fun k hk z => ?_)
      rw [fr_1 (Or.inr (Or.inr rfl)) (by omega)] at z
      unfold jx at z
      rw [if_neg (by omega)] at z
      have := hno k (by omega) z
      omega
    · rw [if_neg (fun z => by have := hno m (by omega) z; omega), m1s]
      exact ih n u (by omega) (by omega) (by omega) hu hy (fun k hk => hno k (by omega))
theorem si_same {s : St} {id o e : Nat} {v : Int32} (h : s.1 id o e = v) : si s id o e v = s := by
  refine Prod.ext ?_ rfl
  funext a b c
  show (if a = id ∧ b = o ∧ c = e then v else s.1 a b c) = s.1 a b c
  by_cases z : a = id ∧ b = o ∧ c = e
  · rw [if_pos z, z.1, z.2.1, z.2.2]; exact h.symm
  · rw [if_neg z]
theorem rem_cong {X s : St} {t c q : Nat} (h : Sr t s X) : Sr t (remS s t c q) (remS X t c q) := fun id e hi => by
  unfold remS
  refine ⟨?_, ?_⟩
  · by_cases h80 : id = 80
    · subst h80
      by_cases h0 : e = 0
      · subst h0; rw [si_eq, si_eq]
      · rw [si_q h0, si_q h0, shf_at, shf_at, if_neg (by omega), if_neg (by omega)]; exact (h 80 e hi).1
    · rw [si_o h80, si_o h80, shf_at, shf_at, (h id e hi).1, (h id (e + 1) hi).1]
  · rw [si_2, si_2, shf_at2, shf_at2, (h id e hi).2, (h id (e + 1) hi).2]
theorem fr_cong {u U : St} {g c q : Nat} (hc : c ≤ 22) (h : Ur g u U) : Ur g (frS u g c q) (frS U g c q) := fun id e hp hi => by
  refine ⟨?_, ?_⟩
  · rw [frS_1, frS_1]
    by_cases z : (id = 256 ∨ id = 258 ∨ id = 259) ∧ 32 * g + q ≤ e ∧ e < 32 * g + q + (c - 1 - q)
    · rw [if_pos z, if_pos z]; exact (h id (e + 1) (Or.inr (Or.inr (Or.inl ⟨by omega, by omega, by omega, by omega⟩))) hi).1
    · rw [if_neg z, if_neg z, (h id e hp hi).1]
  · rw [frS_2, frS_2]
    by_cases z : id = 257 ∧ 32 * g + q ≤ e ∧ e < 32 * g + q + (c - 1 - q)
    · rw [if_pos z, if_pos z]; exact (h id (e + 1) (Or.inr (Or.inr (Or.inl ⟨by omega, by omega, by omega, by omega⟩))) hi).2
    · rw [if_neg z, if_neg z]; exact (h id e hp hi).2
theorem fr_k {u : St} {g c q id e : Nat} (hc : c ≤ 22) (h : ¬ ((255 ≤ id ∧ id ≤ 259) ∧ PT g id e)) : (frS u g c q).1 id 0 e = u.1 id 0 e ∧ (frS u g c q).2 id 0 e = u.2 id 0 e := by
  constructor
  · rw [frS_1, if_neg, if_neg]
    · rintro ⟨rfl, rfl⟩; exact h ⟨by omega, PT.a (by omega)⟩
    · rintro ⟨h1, h2⟩; exact h ⟨by omega, Or.inr (Or.inr (Or.inl ⟨by omega, by omega, by omega, by omega⟩))⟩
  · rw [frS_2, if_neg]
    rintro ⟨h1, h2⟩; exact h ⟨by omega, Or.inr (Or.inr (Or.inl ⟨by omega, by omega, by omega, by omega⟩))⟩
/-- what becomes of the others' rows when a THREAD's send is broken -/
def DrO (t : Nat) (s u X U V : St) : Prop := (Cl U V) ∧ (∀ id e, ¬ ((255 ≤ id ∧ id ≤ 259) ∧ ¬ PT t id e) → ¬ (id = 261 ∧ e = t) → V.1 id 0 e = U.1 id 0 e ∧ V.2 id 0 e = U.2 id 0 e) ∧ (V.1 261 0 t = 0) ∧ (∀ id o e, ¬ ((80 ≤ id ∧ id ≤ 83) ∧ o ≠ t) → X.1 id o e = s.1 id o e ∧ X.2 id o e = s.2 id o e) ∧ (GV X) ∧ (∀ h, h < 6 → h ≠ t → ∀ d c, RwR s u h d c → ∃ c', RwR X V h d c') ∧ (∀ h, h < 6 → h ≠ t → s.1 80 h 0 = 0 → u.1 255 0 h = 0 → X.1 80 h 0 = 0 ∧ V.1 255 0 h = 0) ∧ (∀ h, h < 6 → h ≠ t → ∀ k, k < cN X h → ∃ k', k' < cN s h ∧ X.1 81 h k = s.1 81 h k' ∧ V.1 259 0 (32 * h + k) = u.1 259 0 (32 * h + k') ∧ ¬ X.1 81 h k = nI t)
theorem DrO.cl {t : Nat} {s u X U V : St} (h : DrO t s u X U V) : Cl U V := h.1
theorem DrO.uv {t : Nat} {s u X U V : St} (h : DrO t s u X U V) : ∀ id e, ¬ ((255 ≤ id ∧ id ≤ 259) ∧ ¬ PT t id e) → ¬ (id = 261 ∧ e = t) → V.1 id 0 e = U.1 id 0 e ∧ V.2 id 0 e = U.2 id 0 e := h.2.1
theorem DrO.z {t : Nat} {s u X U V : St} (h : DrO t s u X U V) : V.1 261 0 t = 0 := h.2.2.1
theorem DrO.sx {t : Nat} {s u X U V : St} (h : DrO t s u X U V) : ∀ id o e, ¬ ((80 ≤ id ∧ id ≤ 83) ∧ o ≠ t) → X.1 id o e = s.1 id o e ∧ X.2 id o e = s.2 id o e := h.2.2.2.1
theorem DrO.gv {t : Nat} {s u X U V : St} (h : DrO t s u X U V) : GV X := h.2.2.2.2.1
theorem DrO.ro {t : Nat} {s u X U V : St} (h : DrO t s u X U V) : ∀ h, h < 6 → h ≠ t → ∀ d c, RwR s u h d c → ∃ c', RwR X V h d c' := h.2.2.2.2.2.1
theorem DrO.ri {t : Nat} {s u X U V : St} (h : DrO t s u X U V) : ∀ h, h < 6 → h ≠ t → s.1 80 h 0 = 0 → u.1 255 0 h = 0 → X.1 80 h 0 = 0 ∧ V.1 255 0 h = 0 := h.2.2.2.2.2.2.1
theorem DrO.rs {t : Nat} {s u X U V : St} (h : DrO t s u X U V) : ∀ h, h < 6 → h ≠ t → ∀ k, k < cN X h → ∃ k', k' < cN s h ∧ X.1 81 h k = s.1 81 h k' ∧ V.1 259 0 (32 * h + k) = u.1 259 0 (32 * h + k') ∧ ¬ X.1 81 h k = nI t := h.2.2.2.2.2.2.2
def NrU (t : Nat) (u U : St) : Prop := ∀ id e, ¬ (263 ≤ id ∧ id ≤ 267) → ¬ ((255 ≤ id ∧ id ≤ 259) ∧ PT t id e) → U.1 id 0 e = u.1 id 0 e ∧ U.2 id 0 e = u.2 id 0 e
theorem NrU.ur {t h : Nat} {u U : St} (f : NrU t u U) (hn : h ≠ t) : Ur h u U := fun id e hp hi => f id e (by omega) (fun z => by have := z.2; unfold PT at this hp; omega)
theorem sim_drop {sd : Nat → Nat → Nat} {pc n t : Nat} {s u : St} (ht : t < 6) (hG : GV s) (hA : ∀ g, g < 6 → TH sd pc s u g) (hS : SG s u n) :
    ∃ X, brS s t = si X 44 t 0 (-1) ∧ ∀ U, NrU t u U → ∃ V, (∀ x2 v x5, r_throwOut (nI t) x2 v x5 U = r_throwOut_32 40 (nI t) x2 v x5 V) ∧ DrO t s u X U V := by
  have e261 : ∀ U, NrU t u U → ∀ id e, 260 ≤ id → id ≤ 262 → U.1 id 0 e = u.1 id 0 e := fun U f id e z1 z2 => (f id e (by omega) (by omega)).1
  rcases hS.se t ht with ⟨h1, h2⟩ | ⟨g, r, hg, hgt, h1, h2, h3, h4, h5⟩
  · refine ⟨s, ?_, fun U f => ⟨U, fun x2 v x5 => ?_, Cl.refl U, fun _ _ _ _ => ⟨rfl, rfl⟩, by rw [e261 U f _ _ (by omega) (by omega)]; exact h2, fun _ _ _ _ => ⟨rfl, rfl⟩, hG, fun h _ hn d c R => ⟨c, R.same (fun _ _ _ => ⟨rfl, rfl⟩) (f.ur hn) (fun _ => rfl)⟩, fun h _ hn z1 z2 => ⟨z1, by rw [(f.ur hn 255 h (PT.a (by omega)) (by omega)).1]; exact z2⟩, fun h hh hn k hk => ⟨k, hk, rfl, ?_, ?_⟩⟩⟩
    · unfold brS; rw [if_pos h1, si_same h1]
    · unfold r_throwOut
      rw [gI (by omega) (by decide), nI_clamp (by omega), e261 U f _ _ (by omega) (by omega), h2, if_pos (by decide)]
    · have := (hA h hh).cN
      rw [(f.ur hn 259 _ (PT.r (by omega) (by omega)) (by omega)).1]
    · intro z
      obtain ⟨w, w1, w2⟩ := hS.rs h k hh hk
      rcases w2 with ⟨w3, -, w5, -⟩ | ⟨w3, w4, -⟩
      · have : w = t := (nI_eq (by omega) (by omega)).mp (w1.symm.trans z)
        rw [this, h1] at w5; exact nI_n1 (by omega) w5.symm
      · have : w = t := (nI_eq (by omega) (by omega)).mp (w1.symm.trans z)
        omega
  · obtain ⟨d, c, R⟩ := (hA g hg).row
    have hc := R.c22
    have hcN := cN_of R.cs hc
    have hn1 : ¬ s.1 44 t 0 = -1 := by rw [h1]; exact nI_n1 (by omega)
    have n30 := hS.n30
    have eB : brS s t = si (rmS s g (pl81 s g (nI t) c 0)) 44 t 0 (-1) := by
      unfold brS
      rw [if_neg hn1, h1, nI_clamp (by omega), (hA t ht).nu, hcN]
    have ser : ∀ k, k < c → (u.1 259 0 (32 * g + k) = nI r ↔ s.1 81 g k = nI t) := fun k hk => by
      obtain ⟨w, w1, w2⟩ := hS.rs g k hg (by omega)
      rcases w2 with ⟨w3, w4, w5, w6⟩ | ⟨w3, w4, w5⟩
      · constructor
        · intro z
          have : w = t := hS.di w t w3 ht (by rw [← w6, z, h3]) (by rw [← w6, z]; exact fun q => absurd ((nI_z (by omega)).mp q) (by omega))
          rw [w1, this]
        · intro z
          have : w = t := (nI_eq (by omega) (by omega)).mp (w1.symm.trans z)
          rw [w6, this, h3]
      · constructor
        · intro z; rw [w5] at z; exact absurd ((nI_eq (a := 0) (by omega) (by omega)).mp z) (by omega)
        · intro z; have : w = t := (nI_eq (by omega) (by omega)).mp (w1.symm.trans z); omega
    have un : ∀ k k', k < c → k' < c → s.1 81 g k = nI t → s.1 81 g k' = nI t → k = k' := fun k k' hk hk' z z' => by
      have e82 : ∀ k, k < c → s.1 81 g k = nI t → s.1 82 g k = 0 := fun k hk z => by
        obtain ⟨w, l, a1, a2, a3, a4, a5⟩ := R.en k hk
        have : w = t := (nI_eq (by omega) (by omega)).mp (a2.symm.trans z)
        rcases a5 with q | q
        · omega
        · exact q.2
      exact R.un k k' hk hk' (z.trans z'.symm) ((e82 k hk z).trans (e82 k' hk' z').symm) (by rw [z]; exact fun q => absurd ((nI_eq (b := 6) (by omega) (by decide)).mp q) (by omega))
    have oth : ∀ U, NrU t u U → ∀ h, h < 6 → h ≠ t → h ≠ g → ∀ k, k < cN s h → ¬ s.1 81 h k = nI t := fun U f h hh hn hng k hk z => by
      obtain ⟨w, w1, w2⟩ := hS.rs h k hh hk
      have : w = t := by
        rcases w2 with q | q <;> exact (nI_eq (by omega) (by omega)).mp (w1.symm.trans z)
      rcases w2 with ⟨w3, w4, w5, w6⟩ | w2
      · rw [this, h1] at w5; exact hng ((nI_eq (by omega) (by omega)).mp w5).symm
      · omega
    have rT : ∀ U V, NrU t u U → r_dropSerial_9 40 (nI g) (nI r) (nI c - 1) U = some V → ∀ x2 v x5, r_throwOut (nI t) x2 v x5 U = r_throwOut_32 40 (nI t) x2 v x5 (si V 261 0 t 0) := fun U V f hV x2 v x5 => by
      unfold r_throwOut r_dropSerial
      rw [gI (by omega) (by decide), nI_clamp (by omega), e261 U f _ _ (by omega) (by omega), h3, if_neg (nI_nle (by omega) (by omega)), gI (by omega) (by decide), e261 U f _ _ (by omega) (by omega), h2, gI (by omega) (by decide), gI (by omega) (by decide), nI_clamp (by omega), (f.ur hgt 255 g (PT.a (by omega)) (by omega)).1, R.cu, hV, cal_s, gI (by omega) (by decide)]
    by_cases hex : ∃ q, q < c ∧ s.1 81 g q = nI t
    · obtain ⟨q, hq, eq⟩ := hex
      have huq : ∀ k, k < c → s.1 81 g k = nI t → k = q := fun k hk z => un k q hk hq z eq
      rw [pl81_at eq c 0 (by omega) (by omega) (fun i _ h2 e => by have := huq i (by omega) e; omega), rmS_at R.cs hc hq] at eB
      refine ⟨remS s g c q, eB, fun U f => ⟨si (frS U g c q) 261 0 t 0, rT U _ f ?_, Cl_fr.si (by decide), fun id e z1 z2 => ?_, si_eq, fun id o e z => ⟨rem_o (fun q => z ⟨by omega, by omega⟩) (fun q => z ⟨by omega, by omega⟩), rem_o2 (fun q => z ⟨by omega, by omega⟩)⟩, ?_, fun h hh hn d' c' R' => ?_, fun h hh hn z1 z2 => ?_, fun h hh hn k hk => ?_⟩⟩
      · refine r_dropq g c q (nI r) (by omega) hc hq c 40 U (Nat.le_refl _) hq (by omega) ?_ ?_ ?_
        · rw [(f.ur hgt 255 g (PT.a (by omega)) (by omega)).1]; exact R.cu
        · rw [(f.ur hgt 259 _ (PT.r (by omega) (by omega)) (by omega)).1]; exact (ser q hq).mpr eq
        · intro k hk z
          rw [(f.ur hgt 259 _ (PT.r (by omega) (by omega)) (by omega)).1] at z
          exact huq k hk ((ser k hk).mp z)
      · have hnr : ¬ ((255 ≤ id ∧ id ≤ 259) ∧ PT g id e) := fun q => z1 ⟨q.1, fun q2 => by have := q.2; unfold PT at this q2; omega⟩
        exact ⟨(si_ne (fun q => z2 ⟨q.1, q.2.2⟩)).trans (fr_k hc hnr).1, (fr_k hc hnr).2⟩
      · rw [← rmS_at R.cs hc hq]; exact GV_rm hG
      · by_cases hhg : h = g
        · subst hhg
          have ecc : c' = c := (nI_eq (by have := R'.c22; omega) (by omega)).mp (R'.cs.symm.trans R.cs)
          subst ecc
          refine ⟨c' - 1, (RwR_rem (R'.same (s' := s) (u' := U) (fun _ _ _ => ⟨rfl, rfl⟩) (f.ur hn) (fun _ => rfl)) hq).same (fun _ _ _ => ⟨rfl, rfl⟩) (fun id e _ hi => ⟨si_o (by omega), rfl⟩) (fun _ => rfl)⟩
        · exact ⟨c', R'.same (fun id e hi => ⟨rem_o (fun z => hhg z.2) (fun z => hhg z.2), rem_o2 (fun z => hhg z.2)⟩) (fun id e hp hi => by
            have hk := fr_k (u := U) (q := q) hc (id := id) (e := e) (g := g) (fun z => by have := z.2; unfold PT at this hp; omega)
            exact ⟨(si_o (by omega)).trans (hk.1.trans (f.ur hn id e hp hi).1), hk.2.trans (f.ur hn id e hp hi).2⟩) (fun e => rem_o (by omega) (by omega))⟩
      · by_cases hhg : h = g
        · subst hhg
          rw [R.cs] at z1
          have := (nI_z (by omega)).mp z1
          omega
        · have hk := fr_k (u := U) (q := q) hc (id := 255) (e := h) (g := g) (fun z => by have := z.2; unfold PT at this; omega)
          refine ⟨?_, ?_⟩
          · rw [rem_o (by omega) (by omega)]; exact z1
          · rw [si_o (by decide), hk.1, (f.ur hn 255 h (PT.a (by omega)) (by omega)).1]; exact z2
      · by_cases hhg : h = g
        · subst hhg
          have ecN : cN (remS s h c q) h = c - 1 := cN_of (by unfold remS; rw [si_eq]) (by omega)
          rw [ecN] at hk
          refine ⟨jx q k, by rw [hcN]; exact jx_lt hk, rem_1 (Or.inl rfl) hk, ?_, fun z => ?_⟩
          · have := jx_lt (q := q) hk
            rw [si_o (by decide), fr_1 (Or.inr (Or.inr rfl)) hk, (f.ur hn 259 _ (PT.r (by omega) (by omega)) (by omega)).1]
          · rw [rem_1 (Or.inl rfl) hk] at z
            exact jx_ne (huq _ (jx_lt hk) z)
        · have e80 : cN (remS s g c q) h = cN s h := by unfold cN; rw [rem_o (by omega) (by omega)]
          rw [e80] at hk
          have h22 := (hA h hh).cN
          have hk' := fr_k (u := U) (q := q) hc (id := 259) (e := 32 * h + k) (g := g) (fun z => by have := z.2; unfold PT at this; omega)
          refine ⟨k, hk, rem_o (by omega) (by omega), ?_, fun z => ?_⟩
          · rw [si_o (by decide), hk'.1, (f.ur hn 259 _ (PT.r (by omega) (by omega)) (by omega)).1]
          · rw [rem_o (by omega) (by omega)] at z
            exact oth U f h hh hn hhg k hk z
    · have hno : ∀ k, k < c → ¬ s.1 81 g k = nI t := fun k hk e => hex ⟨k, hk, e⟩
      rw [pl81_no c 0 (fun i _ h2 => hno i (by omega)), rmS_no] at eB
      refine ⟨s, eB, fun U f => ⟨si U 261 0 t 0, rT U _ f ?_, (Cl.refl U).si (by decide), fun id e z1 z2 => ⟨si_ne (fun q => z2 ⟨q.1, q.2.2⟩), rfl⟩, si_eq, fun _ _ _ _ => ⟨rfl, rfl⟩, hG, fun h hh hn d' c' R' => ⟨c', R'.same (fun _ _ _ => ⟨rfl, rfl⟩) (fun id e hp hi => ⟨(si_o (by omega)).trans (f.ur hn id e hp hi).1, (f.ur hn id e hp hi).2⟩) (fun _ => rfl)⟩, fun h hh hn z1 z2 => ⟨z1, by rw [si_o (by decide), (f.ur hn 255 h (PT.a (by omega)) (by omega)).1]; exact z2⟩, fun h hh hn k hk => ⟨k, hk, rfl, ?_, fun z => ?_⟩⟩⟩
      · refine r_drop0 g (nI r) (by omega) c 40 U hc (by omega) (fun k hk z => ?_)
        rw [(f.ur hgt 259 _ (PT.r (by omega) (by omega)) (by omega)).1] at z
        exact hno k hk ((ser k hk).mp z)
      · have h22 := (hA h hh).cN
        rw [si_o (by decide), (f.ur hn 259 _ (PT.r (by omega) (by omega)) (by omega)).1]
      · by_cases hhg : h = g
        · subst hhg; rw [hcN] at hk; exact hno k hk z
        · exact oth U f h hh hn hhg k hk z
