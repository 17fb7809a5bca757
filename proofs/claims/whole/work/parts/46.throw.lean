/-! into a body (both sides); what is THROWN goes outward -/
theorem in_o {s : St} {t w id : Nat} {y : Int32} (h : ¬ (id ≤ 6 ∨ id = 39 ∨ id = 41 ∨ id = 42)) : (inS s t w y).1 id = s.1 id := by
  unfold inS
  split
  · unfold behS; split
    · rfl
    · exact si_id (by omega)
  · unfold enterS enterPartS
    split
    · rw [si_id (by omega), si_id (by omega), si_id (by omega), si_id (by omega), si_id (by omega), si_id (by omega), si_id (by omega), si_id (by omega), si_id (by omega), si_id (by omega), si_id (by omega)]
    · rw [si_id (by omega), si_id (by omega), si_id (by omega), si_id (by omega), si_id (by omega), si_id (by omega), si_id (by omega), si_id (by omega)]
theorem in_2 {s : St} {t w : Nat} {y : Int32} : (inS s t w y).2 = s.2 := by
  unfold inS
  split
  · unfold behS; split <;> rfl
  · split <;> rfl
theorem Ac_beh {s : St} {t : Nat} : Ac t s (behS s t) := by
  unfold behS; split
  · exact Ac.refl t s
  · exact (Ac.refl t s).si (PC.a (by omega))
theorem Ac_in {s : St} {t w : Nat} {y : Int32} : Ac t s (inS s t w y) := by
  unfold inS
  split
  · exact Ac_beh
  · have h1 : ∀ x1 x2 x3 x4, Ac t s (enterS (si s 41 t 0 (nI (dN s t + 1))) t (dN s t + 1) x1 x2 x3 x4) := fun x1 x2 x3 x4 => by
      unfold enterS enterPartS
      exact (((((((Ac.refl t s).si (PC.a (by omega))).si (PC.a (by omega))).si (PC.a (by omega))).si (PC.a (by omega))).si (PC.a (by omega))).si (PC.a (by omega))).si (PC.a (by omega))
    split
    · exact ((((h1 _ _ _ _).si (PC.a (by omega))).si (PC.a (by omega))).si (PC.a (by omega))).si (PC.a (by omega))
    · exact (h1 _ _ _ _).si (PC.a (by omega))
theorem in_eq {s : St} {t p e a w : Nat} {y : Int32} (ht : t < 6) (hds : s.1 41 t 0 = nI e) (h8 : e < 8) (hp : s.1 37 t 0 = nI p) (h13 : p < 13) (h3 : s.1 3 t e = nI a) (ha : a < 40) (hw : w < 3) (hn : ¬ s.1 74 p (3 * a + w) = -2) :
    inS s t w y = if s.1 68 p a = 23 ∧ w = 0 then si (si (si (si (si (si (si (si (si (si (si s 41 t 0 (nI (e + 1))) 0 t (e + 1) (nI a)) 2 t (e + 1) (s.1 39 t 0)) 1 t (e + 1) (nI w)) 3 t (e + 1) (s.1 74 p (3 * a + w))) 4 t (e + 1) 0) 6 t (e + 1) 0) 39 t 0 y) 4 t (e + 1) 1) 5 t (e + 1) (s.1 16 0 0)) 42 t 0 (s.1 42 t 0 + 1)
      else si (si (si (si (si (si (si (si s 41 t 0 (nI (e + 1))) 0 t (e + 1) (nI a)) 2 t (e + 1) (s.1 39 t 0)) 1 t (e + 1) (nI w)) 3 t (e + 1) (s.1 74 p (3 * a + w))) 4 t (e + 1) 0) 6 t (e + 1) 0) 39 t 0 y := by
  unfold inS aN
  have ec : co t = 0 := by unfold co; rw [if_pos ht]
  rw [dN_of hds (by omega), pN_of hp h13, h3, nI_clamp (by omega), hds, ec, if_neg (fun z => z.elim (nI_pos (by omega)) (fun z => z.elim (nI_ge (a := e) (b := 8) h8 (by decide)) hn))]
  by_cases h : s.1 68 p a = 23 ∧ w = 0
  · rw [if_pos h, if_pos ⟨h.1, (nI_z (by omega)).mpr h.2⟩]; rfl
  · rw [if_neg h, if_neg (fun z => h ⟨z.1, (nI_z (by omega)).mp z.2⟩)]; rfl
theorem sim_in {sd : Nat → Nat → Nat} {s u : St} {t p e c a w : Nat} {y : Int32} (ht : t < 6) (E : EV sd s u t p) (h : TC sd s u t p e c) (h3 : s.1 3 t e = nI a) (ha : a < nS s p) (hsd : sd p a = e) (hw : w < 3) (hb : u.1 220 0 (3 * (40 * p + a) + w) = 1) (hy : okN 3 y) :
    r_goIn (nI t) (nI (40 * p + a)) (nI w) y u = some (giU u t e (40 * p + a) w y) ∧ TC sd (inS s t w y) (giU u t e (40 * p + a) w y) t p (e + 1) c ∧ PS sd (inS s t w y) (giU u t e (40 * p + a) w y) t p (e + 1) ∧ Fm t s u (inS s t w y) (giU u t e (40 * p + a) w y) ∧ EV sd (inS s t w y) (giU u t e (40 * p + a) w y) t p := by
  have h8 := h.d8
  have h12 := E.p12
  have n40 := E.pr.n4.2
  have hc := h.rw.c22
  have S := E.pr.st a ha
  obtain ⟨z1, z2⟩ : sd p a < 8 ∧ XR sd p (nS s p) (s.1 74 p (3 * a + w)) (u.1 219 0 (3 * (40 * p + a) + w)) (sd p a + 1) := by
    rcases S.bd w hw with z | z
    · exact absurd (hb.symm.trans z.2) (by decide)
    · exact z.2
  rw [hsd] at z1 z2
  have hn : ¬ s.1 74 p (3 * a + w) = -2 := fun z => by
    rcases z2 with ⟨q, -⟩ | ⟨b, hb2, q, -⟩
    · rw [z] at q; exact absurd q (by decide)
    · rw [z] at q; exact nI_n2 (by omega) q.symm
  have F : Fm t s u (inS s t w y) (giU u t e (40 * p + a) w y) := Fm.mk1 (by rw [cN_of h.rw.cs hc]; exact hc) Ac_in (Ag_gi (by omega)) Cl_gi (fun id hi => ⟨by rw [in_o (by omega)], by rw [in_2]⟩) (fun id hi => ⟨by rw [gi_id (by omega)], by rw [gi_o2 (by omega)]⟩) (by rw [in_o (by decide)]) (fun k => by rw [in_o (by decide)]) (fun k _ => gi_o (by omega))
  have EE := E.to F (E.nr.lv (fun id _ _ => ⟨in_o (by omega), by rw [in_2]⟩) (fun id hi => ⟨by rw [gi_id (by omega)], by rw [gi_o2 (by omega)]⟩)) (GV_in E.gv hw hy)
  refine ⟨r_goIn_eq (by omega) (by omega) (by omega) hw h.du, ?_, ?_, F, EE⟩
  · have hI := in_eq (y := y) ht h.ds z1 h.hp (by omega) h3 (by omega) hw hn
    have eN : (inS s t w y).1 64 = s.1 64 := in_o (by decide)
    have e70 : (inS s t w y).1 70 = s.1 70 := in_o (by decide)
    have e16 : (inS s t w y).1 16 0 0 = s.1 16 0 0 := by rw [in_o (by decide)]
    by_cases hk : s.1 68 p a = 23 ∧ w = 0
    · rw [if_pos hk] at hI
      obtain ⟨k1, rfl⟩ := hk
      obtain ⟨ck, ck1, ck2⟩ := E.ck
      obtain ⟨n, n1, n2, n3⟩ := S.wn k1
      have k18 := (km18 S.kd).mpr k1
      refine TC_enter h z1 ha hw hb hsd h3 (fun id k z => ⟨?_, by rw [in_2]⟩) eN e70 e16 ?_ ?_ ?_ ?_ ?_ ?_ ?_ ?_
      · rcases z with ⟨z3, z4⟩ | z
        · rw [hI, si_o (by omega), si_ne (fun z => z4 z.2.2), si_ne (fun z => z4 z.2.2), si_o (by omega), si_ne (fun z => z4 z.2.2), si_ne (fun z => z4 z.2.2), si_ne (fun z => z4 z.2.2), si_ne (fun z => z4 z.2.2), si_ne (fun z => z4 z.2.2), si_ne (fun z => z4 z.2.2), si_o (by omega)]
        · rw [in_o (by omega)]
      · rw [hI]; simp (disch := decide) only [si_o, si_eq]
      · rw [hI]; simp (disch := decide) only [si_o, si_eq]
      · rw [hI]; simp (disch := decide) only [si_o, si_eq]
      · rw [hI]; simp (disch := decide) only [si_o, si_eq]
      · rw [hI]; simp (disch := decide) only [si_o, si_eq]
      · rw [hI]; simp (disch := decide) only [si_o, si_eq]
      · refine Or.inl ⟨?_, rfl, ck, n, ?_, n1, ?_, ?_, ?_, Or.inl ⟨?_, gi_251⟩⟩
        · rw [gi_o (by omega)]; exact k18
        · rw [e16, ck2, nI_clamp (by omega)]; exact Nat.le_refl _
        · rw [e70]; exact n2
        · rw [hI]; simp (disch := decide) only [si_o, si_eq]; exact ck2
        · rw [gi_250]; unfold giD; rw [if_pos ⟨k18, rfl⟩, ← E.nr.ck, ck2, n3]
        · rw [hI]; simp (disch := decide) only [si_o, si_eq]
      · rw [hI]; simp (disch := decide) only [si_o, si_eq]
        rw [if_pos trivial, h.aw, nI_1, Nat.add_comm]
    · rw [if_neg hk] at hI
      have s4 : (inS s t w y).1 4 t (e + 1) = 0 := by rw [hI]; simp (disch := decide) only [si_o, si_eq]
      have hk2 : ¬ (u.1 216 0 (40 * p + a) = 18 ∧ w = 0) := fun z => hk ⟨(km18 S.kd).mp z.1, z.2⟩
      refine TC_enter h z1 ha hw hb hsd h3 (fun id k z => ⟨?_, by rw [in_2]⟩) eN e70 e16 ?_ ?_ ?_ ?_ ?_ ?_ ?_ ?_
      · rcases z with ⟨z3, z4⟩ | z
        · rw [hI, si_o (by omega), si_ne (fun z => z4 z.2.2), si_ne (fun z => z4 z.2.2), si_ne (fun z => z4 z.2.2), si_ne (fun z => z4 z.2.2), si_ne (fun z => z4 z.2.2), si_ne (fun z => z4 z.2.2), si_o (by omega)]
        · rw [in_o (by omega)]
      · rw [hI]; simp (disch := decide) only [si_o, si_eq]
      · rw [hI]; simp (disch := decide) only [si_o, si_eq]
      · rw [hI]; simp (disch := decide) only [si_o, si_eq]
      · rw [hI]; simp (disch := decide) only [si_o, si_eq]
      · rw [hI]; simp (disch := decide) only [si_o, si_eq]
      · rw [hI]; simp (disch := decide) only [si_o, si_eq]
      · refine Or.inr ⟨?_, s4, ?_, gi_251⟩
        · rw [gi_o (by omega)]; exact hk2
        · rw [gi_250]; unfold giD; rw [if_neg hk2]
      · rw [s4, if_neg (by decide), Nat.zero_add, hI]; simp (disch := decide) only [si_o, si_eq]; exact h.aw
  · unfold PS
    have hI := in_eq (y := y) ht h.ds z1 h.hp (by omega) h3 (by omega) hw hn
    have e3 : (inS s t w y).1 3 t (e + 1) = s.1 74 p (3 * a + w) := by
      rw [hI]
      split <;> simp (disch := decide) only [si_o, si_eq]
    rw [e3, gi_241, nS_to F.ac.ap]; exact z2
/-- a body that the text doesn't have -/
theorem in_no {sd : Nat → Nat → Nat} {s u : St} {t p e c a w : Nat} {y : Int32} (E : EV sd s u t p) (h : TC sd s u t p e c) (h3 : s.1 3 t e = nI a) (ha : a < nS s p) (hw : w < 3) (hb : ¬ u.1 220 0 (3 * (40 * p + a) + w) = 1) : inS s t w y = behS s t := by
  have h12 := E.p12
  have n40 := E.pr.n4.2
  rcases (E.pr.st a ha).bd w hw with z | z
  · unfold inS aN
    rw [dN_of h.ds h.d8, pN_of h.hp (by omega), h3, nI_clamp (by omega), if_pos (Or.inr (Or.inr z.1))]
  · exact absurd z.1 hb
