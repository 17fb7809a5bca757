/-! texts on both sides: TRY and FIRST; a statement of any kind -/
theorem FL_si {sT : St} {cnt k id i : Nat} {s u : St} {x : Int32} (fl : FL sT cnt k s u) (h : ¬ (id = 208 ∨ id = 209)) : FL sT cnt k s (si u id 0 i x) := by
  obtain ⟨k', a1, a2, a3, a4, a5⟩ := fl
  exact ⟨k', a1, a2, a3, by rw [si_o (by omega)]; exact a4, by rw [si_o (by omega)]; exact a5⟩
theorem CB01 {h p n f : Nat} {s s' : St} (C : CB X0 p n f s s') (hn : h + 1 ≤ n) : CB (XS1 h) p (h + 1) f s s' := C.mono (fun _ _ t => absurd t nX0) hn (Nat.le_refl _)
theorem RB01 {h p n e d : Nat} {s s' : St} (C : RB X0 p n e d s s') (hn : h + 1 ≤ n) : RB (YS1 p h) p (h + 1) e d s s' := C.mono (fun _ _ t => absurd t nX0) hn (Nat.le_refl _) (Nat.le_refl _)
theorem stx_it {X Y : Nat → Nat → Prop} {g : Nat → Nat} {s u s' u' : St} {p n f e f' e' d h : Nat} (st : ∀ a, h + 1 ≤ a → a < n → StX g s u p n f e a) (C : CB X p n f s s') (R : RB Y p n e d u u') (hf : f ≤ f') (he : e ≤ e') (hX : ∀ id i, X id i → 69 ≤ id ∧ id ≤ 72 ∧ i = h) (hY : ∀ id i, Y id i → (id = 218 ∨ (221 ≤ id ∧ id ≤ 223)) ∧ i = 40 * p + h) : ∀ a, h + 1 ≤ a → a < n → StX g s' u' p n f' e' a := fun a h1 h2 =>
  (st a h1 h2).to h2 h2 (Nat.le_refl _) (fun _ _ => rfl) C R hf he (fun id i1 i2 t => by have := hX _ _ t; omega) (fun w hw t => by have := hX _ _ t; omega) (fun id i1 i2 i3 i4 t => by have := hY _ _ t; omega) (fun id w i1 i2 t => by have := hY _ _ t; omega)
theorem ko_try {sT : St} {z cnt p d h k un f e nF : Nat} {E : Nat → Nat} {s u : St} {g : Nat → Nat} {fS : Fx3} {fT : Fx1} {fB : Fx3} {fM : Fx2} (X : CX sT z cnt E) (hp : p < 12) (IB : GB sT z cnt E p nF fB) (H : BS sT z cnt E p s u k (h + 1) un f e d) (hg : g h = d) (h6 : u.1 216 0 (40 * p + h) = 13) (fr : ∀ w, w < 3 → FR s u p h w) (hF : 1 + 4 * (8 - d) ≤ nF) :
    KO sT z cnt E p d h 18 s u k (h + 1) f e g (cal2 (fB (nI h) (0 : Int32) (nI d) s) fun v51 s50 => if v51 = 0 then (k_statement_438 fS fT fB fM s50) else (cal2 (k_is (19 : Int32) s50) fun v53 s52 => if v53 = 0 then (k_statement_438 fS fT fB fM s52) else (cal2 (k_isLocal (nI h) s52) fun v55 s54 => if v55 = 0 then (k_statement_438 fS fT fB fM s54) else (cal2 (fB (nI h) (1 : Int32) (nI d) s54) fun v57 s56 => if v57 = 0 then (k_statement_438 fS fT fB fM s56) else (some ((1 : Int32), s56)))))) (fun N => cal (r_readStatement_446 (nI (40 * p + h)) u) (r_readText_40 N)) := by
  unfold k_statement_438
  have e446 : ∀ N, cal (r_readStatement_446 (nI (40 * p + h)) u) (r_readText_40 N) = cal (r_openBody (nI (40 * p + h)) (nI 0) u) (r_readText_40 N) := fun N => by unfold r_readStatement_446; rw [cal_id]; rfl
  simp only [e446]
  have n40 := H.n4
  refine KO.body (w := 0) (R := 13) (C := fun s' => (cal2 (k_is (19 : Int32) s') fun v53 s52 => if v53 = 0 then some (0, s52) else (cal2 (k_isLocal (nI h) s52) fun v55 s54 => if v55 = 0 then some (0, s54) else (cal2 (fB (nI h) (1 : Int32) (nI d) s54) fun v57 s56 => if v57 = 0 then some (0, s56) else (some ((1 : Int32), s56)))))) IB H (Nat.lt_succ_self h) (by omega) (fr 0 (by omega)).2.2 hg h6 hF (fun a h1 h2 => by omega) (fun s' q => by rw [show fB (nI h) 0 (nI d) s = _ from q, cal2_s, if_pos rfl]) (fun s' q => by rw [show fB (nI h) 0 (nI d) s = _ from q, cal2_s, if_neg (by decide)]) (fun s2 u2 k2 n2 un2 f2 e2 g2 m1 m2 m3' m4 b1 b2 b3 b4 b5 b6 => ?_)
  have n42 := b1.n4
  have fr2 : ∀ w, w < 3 → w ≠ 0 → FR s2 u2 p h w := fun w hw h0 => (fr w hw).to (Nat.lt_succ_self h) hw b2 b3 (nXb (by omega)) ⟨nYb (by omega), nYb (by omega)⟩
  have h62 := r6 b3 (Nat.lt_succ_self h) h6 (nYb (by omega))
  have hRC : ∀ N, cal (RC (nI (40 * p + h)) (nI 0) 13 u2) (r_readText_40 N) = cal (cal (r_takeWord (14 : Int32) u2) fun s15 => bnd (s15.1 205 0 0) fun v17 => grd (ib (nI (40 * p + h)) 480) (si s15 221 0 (nI (40 * p + h)).toNatClampNeg v17) fun s18 => cal (r_takeLocal s18) fun s19 => cal (r_openBody (nI (40 * p + h)) (1 : Int32) s19) fun s21 => some s21) (r_readText_40 N) := fun N => by
    unfold RC r_closeBody_78
    rw [if_neg (by decide), if_pos rfl, if_pos (show nI 0 = 0 from rfl)]
  simp only [hRC]
  obtain ⟨v, s3, u3, c1, c2, c3, c4, c5⟩ := it_word (w := 14) X b1 (by decide)
  rw [show k_is 19 s2 = _ from c1, cal2_s, show r_takeWord 14 u2 = _ from c2, cal_s, bnd_d, gI (by omega) (by decide), nI_clamp (by omega)]
  have Rs : ∀ {x : Int32}, RB (YS1 p h) p (h + 1) e2 d u2 (si u3 221 0 (40 * p + h) x) := fun {x} => (RB01 c4 m2).si (Or.inr (Or.inr (Or.inr (Or.inl ⟨by omega, by omega, by omega, by omega, Or.inr (Or.inl ⟨by omega, rfl⟩)⟩))))
  rcases c5 with ⟨rfl, H3⟩ | ⟨rfl, fl⟩
  · rw [if_neg (by decide)]
    have H3' : BS sT z cnt E p s3 (si u3 221 0 (40 * p + h) (u3.1 205 0 0)) (k2 + 1) n2 un2 f2 e2 d := H3.to (fun _ _ => rfl) (fun id q => si_id (by omega)) rfl
    obtain ⟨v, s4, u4, d1, d2, d3, d4, d5⟩ := it_loc (o := h) X hp H3' (by omega)
    rw [d1, cal2_s, d2, cal_s, cal_id]
    have R34 : RB (Xc 221 (40 * p + h)) p n2 e2 d u2 u4 := ((RB0 c4).si (Or.inr (Or.inr (Or.inr (Or.inl ⟨by omega, by omega, by omega, by omega, Or.inr ⟨rfl, rfl⟩⟩))))).trans (RB0 d4)
    have C34 : CB (Xc 69 h) p n2 f2 s2 s4 := (CB0 c3).trans d3
    have C4 : CB (XS1 h) p (h + 1) f2 s2 s4 := CB1 (CBc (by omega) C34) m2 (Nat.le_refl _)
    have R4 : RB (YS1 p h) p (h + 1) e2 d u2 u4 := RB1 (RBc (by omega) R34) m2 (Nat.le_refl _)
    rcases d5 with ⟨rfl, H4, bb, bb1, bb2, bb3⟩ | ⟨rfl, fl⟩
    · rw [if_neg (by decide)]
      have lf : LTF s4 u4 p h := ⟨bb, bb1, bb2, by rw [d4.qs 221 _ (by omega) (by omega) (by omega) (by omega) (by omega) nX0, si_eq, ← bb3, si_o (by decide)]⟩
      have fr4 : ∀ w, w < 3 → w ≠ 0 → FR s4 u4 p h w := fun w hw h0 => (fr2 w hw h0).to m2 hw C34 R34 (nXc (by omega)) ⟨nXc (by omega), nXc (by omega)⟩
      have dn4 : DN g2 s4 u4 p n2 h 0 := b6.to m2 (by omega) (Nat.le_refl _) (fun _ _ => rfl) C34 R34 (nXc (by omega)) ⟨nXc (by omega), nXc (by omega)⟩
      have st4 : ∀ a, h + 1 ≤ a → a < n2 → StX g2 s4 u4 p n2 f2 e2 a := stx_it b5 C34 R34 (Nat.le_refl _) (Nat.le_refl _) (fun id i t => ⟨by have := t.1; omega, by have := t.1; omega, t.2⟩) (fun id i t => ⟨by have := t.1; omega, t.2⟩)
      refine KO.pre (k1 := k2 + 1 + 1) (m := 0) C4 R4 (by omega) (Nat.le_refl _) (Nat.le_refl _) (Nat.le_refl _) (by omega) (fun _ _ => rfl) (fun N => rfl) ?_
      refine KO.body (w := 1) (R := 13) (C := fun s' => some (1, s')) IB H4 m2 (by omega) (fr4 1 (by omega) (by omega)).2.2 (by rw [b4 h (Nat.lt_succ_self h)]; exact hg) (r6 R34 m2 h62 (nXc (by omega))) hF st4 (fun s' q => by rw [show fB (nI h) 1 (nI d) s4 = _ from q, cal2_s, if_pos rfl]) (fun s' q => by rw [show fB (nI h) 1 (nI d) s4 = _ from q, cal2_s, if_neg (by decide)]) (fun s5 u5 k5 n5 un5 f5 e5 g5 l1 l2 l3 l4 t1 t2 t3 t4 t5 t6 => ?_)
      have dn5 := dn4.to m2 (by omega) l2 t4 t2 t3 (nXb (by omega)) ⟨nYb (by omega), nYb (by omega)⟩
      refine KO.end t1 t5 ⟨⟨fun _ => lf.to m2 t2 t3 (nXb (by omega)) (nYb (by omega)), fun q => absurd q (by decide), fun q => absurd q (by decide), fun q => absurd q (by decide), fun q => absurd q (by decide)⟩, bf3 dn5.2 t6.2 ((fr4 2 (by omega) (by omega)).to m2 (by omega) t2 t3 (nXb (by omega)) ⟨nYb (by omega), nYb (by omega)⟩).bf, fun _ => dn5.1, fun _ => t6.1, fun q => absurd q (by decide)⟩ (fun N => by rw [rc_pl (Or.inr (Or.inl (by decide))), cal_s])
    · rw [if_pos rfl]
      exact KO.bad (fl.up (by omega)) C4 R4 (fun N => by rw [b_open fl.b, cal_s])
  · rw [if_pos rfl]
    have fl' := FL_si (id := 221) (i := 40 * p + h) (x := u3.1 205 0 0) fl (by decide)
    rw [b_loc fl'.b, cal_s, b_open fl'.b, cal_s]
    exact KO.bad fl' (CB01 c3 m2) Rs (fun N => rfl)
/-- FIRST -/
theorem ko_first {sT : St} {z cnt p d h k un f e nF : Nat} {E : Nat → Nat} {s u : St} {g : Nat → Nat} {fS : Fx3} {fT : Fx1} {fB : Fx3} {fM : Fx2} (X : CX sT z cnt E) (IB : GB sT z cnt E p nF fB) (H : BS sT z cnt E p s u k (h + 1) un f e d) (hg : g h = d) (h6 : u.1 216 0 (40 * p + h) = 15) (fr : ∀ w, w < 3 → FR s u p h w) (hF : 1 + 4 * (8 - d) ≤ nF) :
    KO sT z cnt E p d h 20 s u k (h + 1) f e g (cal2 (fB (nI h) (0 : Int32) (nI d) s) fun v59 s58 => if v59 = 0 then (k_statement_492 fS fT fB fM s58) else (cal2 (k_is (21 : Int32) s58) fun v61 s60 => if v61 = 0 then (k_statement_492 fS fT fB fM s60) else (cal2 (fB (nI h) (1 : Int32) (nI d) s60) fun v63 s62 => if v63 = 0 then (k_statement_492 fS fT fB fM s62) else (cal2 (k_is (22 : Int32) s62) fun v65 s64 => if v65 = 0 then (k_statement_492 fS fT fB fM s64) else (cal2 (fB (nI h) (2 : Int32) (nI d) s64) fun v67 s66 => if v67 = 0 then (k_statement_492 fS fT fB fM s66) else (some ((1 : Int32), s66))))))) (fun N => cal (r_readStatement_446 (nI (40 * p + h)) u) (r_readText_40 N)) := by
  unfold k_statement_492
  have e446 : ∀ N, cal (r_readStatement_446 (nI (40 * p + h)) u) (r_readText_40 N) = cal (r_openBody (nI (40 * p + h)) (nI 0) u) (r_readText_40 N) := fun N => by unfold r_readStatement_446; rw [cal_id]; rfl
  simp only [e446]
  refine KO.body (w := 0) (R := 15) (C := fun s' => (cal2 (k_is (21 : Int32) s') fun v61 s60 => if v61 = 0 then some (0, s60) else (cal2 (fB (nI h) (1 : Int32) (nI d) s60) fun v63 s62 => if v63 = 0 then some (0, s62) else (cal2 (k_is (22 : Int32) s62) fun v65 s64 => if v65 = 0 then some (0, s64) else (cal2 (fB (nI h) (2 : Int32) (nI d) s64) fun v67 s66 => if v67 = 0 then some (0, s66) else (some ((1 : Int32), s66))))))) IB H (Nat.lt_succ_self h) (by omega) (fr 0 (by omega)).2.2 hg h6 hF (fun a h1 h2 => by omega) (fun s' q => by rw [show fB (nI h) 0 (nI d) s = _ from q, cal2_s, if_pos rfl]) (fun s' q => by rw [show fB (nI h) 0 (nI d) s = _ from q, cal2_s, if_neg (by decide)]) (fun s2 u2 k2 n2 un2 f2 e2 g2 m1 m2 m3' m4 b1 b2 b3 b4 b5 b6 => ?_)
  have fr2 : ∀ w, w < 3 → w ≠ 0 → FR s2 u2 p h w := fun w hw h0 => (fr w hw).to (Nat.lt_succ_self h) hw b2 b3 (nXb (by omega)) ⟨nYb (by omega), nYb (by omega)⟩
  have h62 := r6 b3 (Nat.lt_succ_self h) h6 (nYb (by omega))
  have hg2 : g2 h = d := by rw [b4 h (Nat.lt_succ_self h)]; exact hg
  have hRC : ∀ N, cal (RC (nI (40 * p + h)) (nI 0) 15 u2) (r_readText_40 N) = cal (cal (r_takeWord (16 : Int32) u2) fun s23 => r_openBody (nI (40 * p + h)) (nI 1) s23) (r_readText_40 N) := fun N => by
    unfold RC r_closeBody_64
    rw [if_pos rfl, if_neg (by decide), if_pos (show nI 0 = 0 from rfl)]
    simp only [cal_id]; rfl
  simp only [hRC]
  obtain ⟨v, s3, u3, c1, c2, c3, c4, c5⟩ := it_word (w := 16) X b1 (by decide)
  rw [show k_is 21 s2 = _ from c1, cal2_s, show r_takeWord 16 u2 = _ from c2, cal_s]
  rcases c5 with ⟨rfl, H3⟩ | ⟨rfl, fl⟩
  · rw [if_neg (by decide)]
    have fr3 : ∀ w, w < 3 → w ≠ 0 → FR s3 u3 p h w := fun w hw h0 => (fr2 w hw h0).to m2 hw c3 c4 nX0 ⟨nX0, nX0⟩
    have dn3 : DN g2 s3 u3 p n2 h 0 := b6.to m2 (by omega) (Nat.le_refl _) (fun _ _ => rfl) c3 c4 nX0 ⟨nX0, nX0⟩
    have st3 : ∀ a, h + 1 ≤ a → a < n2 → StX g2 s3 u3 p n2 f2 e2 a := stx_it b5 c3 c4 (Nat.le_refl _) (Nat.le_refl _) (fun id i t => absurd t nX0) (fun id i t => absurd t nX0)
    have h63 := r6 c4 m2 h62 nX0
    refine KO.pre (k1 := k2 + 1) (m := 0) (CB01 c3 m2) (RB01 c4 m2) (by omega) (Nat.le_refl _) (Nat.le_refl _) (Nat.le_refl _) (by omega) (fun _ _ => rfl) (fun N => rfl) ?_
    refine KO.body (w := 1) (R := 15) (C := fun s' => (cal2 (k_is (22 : Int32) s') fun v65 s64 => if v65 = 0 then some (0, s64) else (cal2 (fB (nI h) (2 : Int32) (nI d) s64) fun v67 s66 => if v67 = 0 then some (0, s66) else (some ((1 : Int32), s66))))) IB H3 m2 (by omega) (fr3 1 (by omega) (by omega)).2.2 hg2 h63 hF st3 (fun s' q => by rw [show fB (nI h) 1 (nI d) s3 = _ from q, cal2_s, if_pos rfl]) (fun s' q => by rw [show fB (nI h) 1 (nI d) s3 = _ from q, cal2_s, if_neg (by decide)]) (fun s5 u5 k5 n5 un5 f5 e5 g5 l1 l2 l3 l4 t1 t2 t3 t4 t5 t6 => ?_)
    have hm5 : h < n5 := by omega
    have dn5 := dn3.to m2 (by omega) l2 t4 t2 t3 (nXb (by omega)) ⟨nYb (by omega), nYb (by omega)⟩
    have fr5 : FR s5 u5 p h 2 := (fr3 2 (by omega) (by omega)).to m2 (by omega) t2 t3 (nXb (by omega)) ⟨nYb (by omega), nYb (by omega)⟩
    have h65 := r6 t3 m2 h63 (nYb (by omega))
    have hRC5 : ∀ N, cal (RC (nI (40 * p + h)) (nI 1) 15 u5) (r_readText_40 N) = cal (cal (r_takeWord (17 : Int32) u5) fun s23 => r_openBody (nI (40 * p + h)) (nI 2) s23) (r_readText_40 N) := fun N => by
      unfold RC r_closeBody_64
      rw [if_pos rfl, if_neg (by decide), if_neg (by decide)]
      simp only [cal_id]; rfl
    simp only [hRC5]
    obtain ⟨v, s6, u6, d1, d2, d3, d4, d5⟩ := it_word (w := 17) X t1 (by decide)
    rw [show k_is 22 s5 = _ from d1, cal2_s, show r_takeWord 17 u5 = _ from d2, cal_s]
    rcases d5 with ⟨rfl, H6⟩ | ⟨rfl, fl⟩
    · rw [if_neg (by decide)]
      have dn6 : DN g5 s6 u6 p n5 h 0 := dn5.to hm5 (by omega) (Nat.le_refl _) (fun _ _ => rfl) d3 d4 nX0 ⟨nX0, nX0⟩
      have dn61 : DN g5 s6 u6 p n5 h 1 := t6.to hm5 (by omega) (Nat.le_refl _) (fun _ _ => rfl) d3 d4 nX0 ⟨nX0, nX0⟩
      have st6 : ∀ a, h + 1 ≤ a → a < n5 → StX g5 s6 u6 p n5 f5 e5 a := stx_it t5 d3 d4 (Nat.le_refl _) (Nat.le_refl _) (fun id i t => absurd t nX0) (fun id i t => absurd t nX0)
      refine KO.pre (k1 := k5 + 1) (m := 0) (CB01 d3 hm5) (RB01 d4 hm5) (by omega) (Nat.le_refl _) (Nat.le_refl _) (Nat.le_refl _) (by omega) (fun _ _ => rfl) (fun N => rfl) ?_
      refine KO.body (w := 2) (R := 15) (C := fun s' => some (1, s')) IB H6 hm5 (by omega) (fr5.to hm5 (by omega) d3 d4 nX0 ⟨nX0, nX0⟩).2.2 (by rw [t4 h m2]; exact hg2) (r6 d4 hm5 h65 nX0) hF st6 (fun s' q => by rw [show fB (nI h) 2 (nI d) s6 = _ from q, cal2_s, if_pos rfl]) (fun s' q => by rw [show fB (nI h) 2 (nI d) s6 = _ from q, cal2_s, if_neg (by decide)]) (fun s8 u8 k8 n8 un8 f8 e8 g8 q1 q2 q3 q4 r1 r2 r3 r4 r5 r6' => ?_)
      have dn8 := dn6.to hm5 (by omega) q2 r4 r2 r3 (nXb (by omega)) ⟨nYb (by omega), nYb (by omega)⟩
      have dn81 := dn61.to hm5 (by omega) q2 r4 r2 r3 (nXb (by omega)) ⟨nYb (by omega), nYb (by omega)⟩
      exact KO.end r1 r5 ⟨sc_v (by decide) (fun q => absurd q (by decide)), bf3 dn8.2 dn81.2 r6'.2, fun _ => dn8.1, fun _ => dn81.1, fun _ => r6'.1⟩ (fun N => by rw [show RC (nI (40 * p + h)) (nI 2) 15 u8 = some u8 from rc_pl (Or.inr (Or.inr ⟨rfl, rfl⟩)), cal_s])
    · rw [if_pos rfl]
      exact KO.bad fl (CB01 d3 hm5) (RB01 d4 hm5) (fun N => by rw [b_open fl.b, cal_s])
  · rw [if_pos rfl]
    exact KO.bad fl (CB01 c3 m2) (RB01 c4 m2) (fun N => by rw [b_open fl.b, cal_s])
