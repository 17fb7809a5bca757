/-! texts on both sides: all statements -/
theorem rt_stm {sT s u : St} {z cnt p k n un f e d : Nat} {E : Nat → Nat} (H : BS sT z cnt E p s u k n un f e d) (hK : ¬ KK sT k = nI (clo d)) (N : Nat) : r_readText_40 (N + 1) u = if KK sT k = 0 ∨ KK sT k = 125 then r_readText_40 N (misU u) else cal (r_readStatement u) (r_readText_40 N) := by
  have d8 := H.d8
  have t0 := tv_0 H.at.tv
  have sg : r_isSign 125 u = some (if KK sT k = 125 then 1 else 0, u) := tv_sign (c := 125) H.at.tv (by decide)
  have r84 : ∀ v, v = u → r_readText_84 (r_readText_40 N) v = r_readText_40 N (misU u) := fun v e => by subst e; unfold r_readText_84; rw [r_mis H.bd, cal_s]
  rw [r_readText_40.eq_2, bnd_d, H.bd, if_pos rfl, bnd_d]
  by_cases q0 : KK sT k = 0
  · have hd : d ≠ 0 := fun q => hK (by rw [q0, q]; rfl)
    rw [if_pos (t0.mpr q0), bnd_d, H.wi, if_neg (show ¬ nI d = 0 from fun q => hd ((nI_eq (b := 0) (by omega) (by decide)).mp q)), if_pos (Or.inl q0)]
    unfold r_readText_61
    rw [bnd_d, if_pos (t0.mpr q0)]; exact r84 u rfl
  · have t0' : ¬ u.1 203 0 0 = 0 := fun q => q0 (t0.mp q)
    rw [if_neg t0']
    unfold r_readText_61 r_readText_91
    rw [bnd_d, if_neg t0', sg, cal2_s]
    by_cases q1 : KK sT k = 125
    · have hd : d = 0 := by
        rcases Nat.eq_zero_or_pos d with q | q
        · exact q
        · exact absurd (by rw [q1, show clo d = 125 from if_neg (by omega)]; rfl) hK
      rw [if_pos q1, if_neg (by decide), bnd_d, H.wi, if_pos (show nI d = 0 by rw [hd]; rfl), if_pos (Or.inr q1)]; exact r84 u rfl
    · rw [if_neg q1, if_pos rfl, sg, if_neg q1, cal2_s, if_pos rfl, if_neg (show ¬ (KK sT k = 0 ∨ KK sT k = 125) from fun t => t.elim q0 q1)]
theorem gT' {sT : St} {z cnt p nF : Nat} {E : Nat → Nat} {fS : Fx3} {fT : Fx1} {fB : Fx3} {fM : Fx2} (X : CX sT z cnt E) (hp : p < 12) (IB : GB sT z cnt E p nF fB) (IM : GM sT z cnt E p nF fM) : GT sT z cnt E p (nF + 1) (k_statement fS fT fB fM) := by
  intro d o w la s u k h un f e g H hO hL hK hF
  have hrt := rt_stm H hK
  rcases st_beg fS fT fB fM X hp H hO hL with ⟨c0, r0⟩ | ⟨R, K, u2, bg, hc⟩
  · refine ⟨0, s, c0, CB.refl s, Or.inr ⟨rfl, k, misU u, 2, Nat.le_refl _, H.at.kl, H.at.at5, mis_b, by unfold misU; rw [si_eq]; exact H.at.tv.1, mis_rb, by omega, fun N => ?_⟩⟩
    show r_readText_40 (N + 1 + 1) u = _
    rw [hrt, r0]
    split
    · exact rt_bad mis_b
    · exact rt_bad mis_b
  · have kk := bg.kk; have km := bg.km; have h40 := bg.hn
    have nk : ¬ (KK sT k = 0 ∨ KK sT k = 125) := fun t => by
      rcases t with t | t
      · exact bg.k0 t
      · rw [kk, t] at km; revert km; unfold KM; simp
    have hB : ∀ N, r_readText_40 (N + 1) u = cal (r_readStatement u) (r_readText_40 N) := fun N => by rw [hrt, if_neg nk]
    -- where both stand behind the first token
    have h68 : (adS s p h K).1 68 p h = K := by unfold adS; rw [si_o (by decide), si_o (by decide), si_o (by decide), si_o (by decide), si_o (by decide), si_eq]
    have h73 : (adS s p h K).1 73 p h = -1 := by unfold adS; rw [si_o (by decide), si_o (by decide), si_o (by decide), si_o (by decide), si_eq]
    have h74 : ∀ j, j < 3 → (adS s p h K).1 74 p (3 * h + j) = -2 := fun j hj => by
      unfold adS
      rcases (by omega : j = 0 ∨ j = 1 ∨ j = 2) with rfl | rfl | rfl
      · rw [si_o (by decide), si_q (by omega), si_q (by omega)]; exact si_eq
      · rw [si_o (by decide), si_q (by omega), si_eq]
      · rw [si_o (by decide), si_eq]
    have C1 : CB X0 p h f s (si (adS s p h K) 50 0 0 (nI (k + 1))) := CB_at (adS_cb h40)
    have fr : ∀ j, j < 3 → FR (si (adS s p h K) 50 0 0 (nI (k + 1))) u2 p h j := fun j hj => ⟨by rw [si_o (by decide)]; exact h74 j hj, (bg.vb j hj).2, (bg.vb j hj).1⟩
    have H1 := bg.bs
    have h6 := bg.v6
    have hg1 : ∀ a, a < h → (fun a => if a = h then d else g a) a = g a := fun a ha => if_neg (by omega)
    have hgd : (fun a => if a = h then d else g a) h = d := if_pos rfl
    have fin := fun c ko => st_fin (g := g) (g1 := fun a => if a = h then d else g a) (c := c) bg hO hL hB C1 (by rw [si_o (by decide)]; exact h68) (by rw [si_o (by decide)]; exact h73) hg1 hgd ko
    have hs1 : ∀ a b : Nat, a < b + 1 ∨ ¬ a < b + 1 := fun a b => by omega
    unfold KM at km
    simp only [List.mem_cons, Prod.mk.injEq, List.not_mem_nil, or_false] at km
    rcases km with ⟨rfl, rfl⟩ | ⟨rfl, rfl⟩ | ⟨rfl, rfl⟩ | ⟨rfl, rfl⟩ | ⟨rfl, rfl⟩ | ⟨rfl, rfl⟩ | ⟨rfl, rfl⟩ | ⟨rfl, rfl⟩ | ⟨rfl, rfl⟩ | ⟨rfl, rfl⟩ | ⟨rfl, rfl⟩ | ⟨rfl, rfl⟩ | ⟨rfl, rfl⟩ | ⟨rfl, rfl⟩
    · rw [if_neg (by decide), kd_5] at hc
      rw [hc]
      obtain ⟨v, s', u', a1, a2, a3⟩ := sk_end fS fT fB fM X hp H1 (Nat.lt_succ_self h)
      exact fin _ (ko_it a3 a1 (fun N => by rw [rd_0, a2, cal_s]) fr (by decide) (fun s' u' f' e' q => sc_v (by decide) (fun _ => q)))
    · rw [if_neg (by decide)] at hc
      rw [hc]
      exact fin _ (ko_if (fS := fS) (fT := fT) X hp IB IM H1 hgd h6 fr (by omega))
    · rw [if_neg (by decide)] at hc
      rw [hc]
      exact fin _ (ko_while (fS := fS) (fT := fT) (fM := fM) X hp IB H1 hgd h6 fr (by omega))
    · rw [if_neg (by decide)] at hc
      rw [hc]
      obtain ⟨v, s', u', a1, a2, a3⟩ := sk_take X hp H1 (Nat.lt_succ_self h)
      exact fin _ (ko_it a3 a1 (fun N => by rw [show rdD (nI (40 * p + h)) 4 u2 = _ from a2, cal_s]) fr (by decide) (fun s' u' f' e' q => ⟨fun _ => q.2, fun _ => q.1, fun t => absurd t (by decide), fun t => absurd t (by decide), fun t => absurd t (by decide)⟩))
    · rw [if_neg (by decide)] at hc
      rw [hc]
      obtain ⟨v, s', u', a1, a2, a3⟩ := sk_put X hp H1 (Nat.lt_succ_self h)
      exact fin _ (ko_it a3 a1 (fun N => by rw [show rdD (nI (40 * p + h)) 6 u2 = _ from a2, cal_s]) fr (by decide) (fun s' u' f' e' q => ⟨fun t => absurd t (by decide), fun _ => q.1, fun t => absurd t (by decide), fun t => absurd t (by decide), fun _ => q.2⟩))
    · rw [if_neg (by decide), kd_13] at hc
      rw [hc]
      obtain ⟨v, s', u', a1, a2, a3⟩ := sk_end fS fT fB fM X hp H1 (Nat.lt_succ_self h)
      exact fin _ (ko_it a3 a1 (fun N => by rw [rd_8, a2, cal_s]) fr (by decide) (fun s' u' f' e' q => sc_v (by decide) (fun _ => q)))
    · rw [if_neg (by decide)] at hc
      rw [hc]
      obtain ⟨v, s', u', a1, a2, a3⟩ := sk_send X hp H1 (Nat.lt_succ_self h)
      exact fin _ (ko_it a3 a1 (fun N => by rw [show rdD (nI (40 * p + h)) 9 u2 = _ from a2, cal_s]) fr (by decide) (fun s' u' f' e' q => ⟨fun t => absurd t (by decide), fun t => absurd t (by decide), fun _ => q.1, fun t => absurd t (by decide), fun _ => q.2⟩))
    · rw [if_neg (by decide), kd_15] at hc
      rw [hc]
      exact fin _ (ko_def (R := 10) IB H1 hgd h6 fr (by omega) (by decide) (by decide))
    · rw [if_neg (by decide), kd_16] at hc
      rw [hc]
      exact fin _ (ko_def (R := 11) IB H1 hgd h6 fr (by omega) (by decide) (by decide))
    · rw [if_neg (by decide), kd_17] at hc
      rw [hc]
      exact fin _ (ko_def (R := 12) IB H1 hgd h6 fr (by omega) (by decide) (by decide))
    · rw [if_neg (by decide)] at hc
      rw [hc]
      exact fin _ (ko_try (fS := fS) (fT := fT) (fM := fM) X hp IB H1 hgd h6 fr (by omega))
    · rw [if_neg (by decide)] at hc
      rw [hc]
      exact fin _ (ko_first (fS := fS) (fT := fT) (fM := fM) X IB H1 hgd h6 fr (by omega))
    · rw [if_neg (by decide)] at hc
      rw [hc]
      exact fin _ (ko_within (fS := fS) (fT := fT) X hp IB IM H1 hgd h6 fr (by omega))
    · -- LOCAL
      rw [if_pos rfl] at hc
      have c8 := X.c8; have kl := H.at.kl
      have aS : ∀ id, ¬ (id = 64 ∨ id = 68 ∨ id = 73 ∨ id = 74) → (adS s p h 2).1 id = s.1 id := fun id q => by unfold adS; rw [si_id (by omega), si_id (by omega), si_id (by omega), si_id (by omega), si_id (by omega), si_id (by omega)]
      obtain ⟨b, b1, b2, b3⟩ : ∃ b, b < 10 ∧ sT.1 97 0 k = nI b ∧ u.1 205 0 0 = nI (16 + b) := by
        rcases H.at.tv.2 with ⟨t, _⟩ | ⟨t, _⟩ | ⟨_, b, b1, b2, _, b3⟩ | ⟨t, _⟩ | ⟨t, _⟩ | ⟨w', w1, t, _⟩ | ⟨g, g1, t, _⟩
        · exact absurd (t.symm.trans kk.symm) (by decide)
        · exact absurd (t.symm.trans kk.symm) (by decide)
        · exact ⟨b, b1, b2, b3⟩
        · exact absurd (t.symm.trans kk.symm) (by decide)
        · exact absurd (t.symm.trans kk.symm) (by decide)
        · have := (nI_eq (b := 2) (by omega) (by decide)).mp (t.symm.trans kk.symm); omega
        · have := isG_lt g1
          have := (nI_eq (b := 2) (by omega) (by decide)).mp (t.symm.trans kk.symm); omega
      have hl : k_isLocal (nI h) (adS s p h 2) = some (1, si (si (adS s p h 2) 50 0 0 (nI (k + 1))) 69 p h (nI b)) := by
        unfold k_isLocal k_is
        rw [aS 49 (by decide), H.pp, gI (by omega) (by decide), nI_clamp (by omega), bnd_d, aS 50 (by decide), H.at.at5, gI (by omega) (by decide), nI_clamp (by omega), aS 97 (by decide), H.at.t7, gI h40 (by decide), nI_clamp (by omega), b2, bnd_d, si_o (by decide), aS 50 (by decide), H.at.at5, gI (by omega) (by decide), nI_clamp (by omega), si_o (by decide), aS 96 (by decide), H.at.t6, if_pos (show sT.1 96 0 k = 2 from kk.symm), bnd_d, bnd_d, nI_1, cal2_s, gz zo1, si_comm (by decide)]
      have H1' : BS sT z cnt E p (si (si (adS s p h 2) 50 0 0 (nI (k + 1))) 69 p h (nI b)) u2 (k + 1) (h + 1) un f e d := H1.to (fun id q => si_id (by omega)) (fun _ _ => rfl) rfl
      have C1' : CB X0 p h f s (si (si (adS s p h 2) 50 0 0 (nI (k + 1))) 69 p h (nI b)) := C1.si (Or.inr (Or.inl ⟨by omega, by omega, Or.inl (Nat.le_refl _)⟩)) trivial
      have fr' : ∀ j, j < 3 → FR (si (si (adS s p h 2) 50 0 0 (nI (k + 1))) 69 p h (nI b)) u2 p h j := fun j hj => ⟨by rw [si_o (by decide)]; exact (fr j hj).1, (fr j hj).2⟩
      obtain ⟨v, s', u', a1, a2, a3⟩ := sk_set fS fT fB fM X hp H1' (Nat.lt_succ_self h) ⟨b, b1, si_eq, by rw [bg.vl rfl]; exact b3⟩
      have hc' : k_statement fS fT fB fM (nI d) s = some (v, s') := by
        rw [hc]; unfold kdL
        rw [hl, cal2_s, if_neg (by decide)]; exact a1
      have := st_fin (g := g) (g1 := fun a => if a = h then d else g a) (c := some (v, s')) bg hO hL hB C1' (by rw [si_o (by decide), si_o (by decide)]; exact h68) (by rw [si_o (by decide), si_o (by decide)]; exact h73) hg1 hgd (ko_it a3 rfl (fun N => by rw [show rdD (nI (40 * p + h)) 30 u2 = _ from a2, cal_s]) fr' (by decide) (fun s' u' f' e' q => ⟨fun _ => q.2, fun t => absurd t (by decide), fun t => absurd t (by decide), fun t => absurd t (by decide), fun _ => q.1⟩))
      rw [hc']; exact this
theorem gAllS {sT : St} {z cnt p : Nat} {E : Nat → Nat} (X : CX sT z cnt E) (hp : p < 12) : ∀ n, GS sT z cnt E p n (SF n).1 ∧ GT sT z cnt E p n (SF n).2.1 ∧ GB sT z cnt E p n (SF n).2.2.1 ∧ GM sT z cnt E p n (SF n).2.2.2
  | 0 => ⟨fun _ _ _ _ _ _ _ _ _ _ _ _ _ _ _ q => by omega, fun _ _ _ _ _ _ _ _ _ _ _ _ _ _ _ _ q => by omega, fun _ _ _ _ _ _ _ _ _ _ _ _ _ _ _ _ _ _ q => by omega, fun _ _ _ _ _ _ _ _ _ _ _ _ _ _ _ _ _ q => by omega⟩
  | n + 1 => ⟨gS' X hp (gAllS X hp n).2.1, gT' X hp (gAllS X hp n).2.2.1 (gAllS X hp n).2.2.2, gB X hp (gAllS X hp n).1, gM' X (gAllS X hp n).2.2.1⟩
