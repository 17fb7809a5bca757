/-! texts on both sides: take, put, send, conditions -/
theorem lt64 {v B : Nat} (hv : v < 2 ^ 31) (hB : B < 2 ^ 31) : (nI B).toInt64 < (nI v).toInt64 ↔ B + 1 ≤ v := by
  rw [Int64.lt_iff_toInt_lt, Int32.toInt_toInt64, Int32.toInt_toInt64, ← Int32.lt_iff_toInt_lt, nI_ltiff hB hv]; omega
theorem hb5 : ∀ v, v < 1000000000 → ((5 : Int64) < (nI v).toInt64 ↔ 6 ≤ v) := fun v hv => lt64 (B := 5) (by omega) (by decide)
theorem hb9 : ∀ v, v < 1000000000 → ((999999999 : Int64) < (nI v).toInt64 ↔ 1000000000 ≤ v) := fun v hv => lt64 (B := 999999999) (by omega) (by decide)
/-- ';' at the end, the reference's part C -/
theorem it_semi {sT s u : St} {z cnt p k n un f e d : Nat} {E : Nat → Nat} (X : CX sT z cnt E) (H : BS sT z cnt E p s u k n un f e d) :
    ∃ v s' u', (cal2 (k_is (59 : Int32) s) fun v15 s14 => if v15 = 0 then some (0, s14) else (some ((1 : Int32), s14))) = some (v, s') ∧ (cal (r_take (59 : Int32) u) fun s31 => some s31) = some u' ∧ CB X0 p n f s s' ∧ RB X0 p n e d u u' ∧ ((v = 1 ∧ BS sT z cnt E p s' u' (k + 1) n un f e d) ∨ (v = 0 ∧ FL sT cnt k s' u')) := by
  obtain ⟨v, s2, u2, t1, t2, t3, t4, t5⟩ := it_sign (c := 59) X H (by decide)
  rw [show k_is 59 s = _ from t1, cal2_s, show r_take 59 u = _ from t2, cal_s]
  refine ⟨v, s2, u2, ?_, rfl, t3, t4, t5⟩
  rcases t5 with ⟨rfl, b1⟩ | ⟨rfl, b1⟩
  · rw [if_neg (by decide)]
  · rw [if_pos rfl]
theorem sk_take {sT s u : St} {z cnt p k n un f e d h : Nat} {E : Nat → Nat} (X : CX sT z cnt E) (hp : p < 12) (H : BS sT z cnt E p s u k n un f e d) (hh : h < n) :
    ∃ v s' u', (cal2 (k_isNumberOf (nI h) (3 : Int32) (8 : Int32) s) fun v27 s26 => if v27 = 0 then some (0, s26) else (cal2 (k_is (10 : Int32) s26) fun v29 s28 => if v29 = 0 then some (0, s28) else (cal2 (k_isLocal (nI h) s28) fun v31 s30 => if v31 = 0 then some (0, s30) else (cal2 (k_is (59 : Int32) s30) fun v33 s32 => if v33 = 0 then some (0, s32) else (some ((1 : Int32), s32)))))) = some (v, s') ∧
      (cal (r_takeBox (nI (40 * p + h)) u) fun s25 => bnd (s25.1 208 0 0) fun v27 => if v27 = 0 then (cal (r_takeWord (5 : Int32) s25) fun s35 => r_readStatement_309 (nI (40 * p + h)) s35) else (r_readStatement_309 (nI (40 * p + h)) s25)) = some u' ∧ IT sT z cnt E p d h (fun s u _ _ => BXF s u p h ∧ LTF s u p h) s u k n f e v s' u' := by
  have n4 := H.n4
  have bad : ∀ q : St, q.1 208 0 0 = 1 → r_readStatement_309 (nI (40 * p + h)) q = some (si q 221 0 (40 * p + h) (q.1 205 0 0)) := fun q hq => by
    unfold r_readStatement_309 r_readStatement_330
    have b' : (si q 221 0 (40 * p + h) (q.1 205 0 0)).1 208 0 0 = 1 := by rw [si_o (by decide)]; exact hq
    rw [bnd_d, gI (by omega) (by decide), nI_clamp (by omega), bnd_d, b', if_neg (by decide), b_take b', cal_s]
  have flx : ∀ {k2 : Nat} {s1 q : St} {x : Int32}, FL sT cnt k2 s1 q → FL sT cnt k2 s1 (si q 221 0 (40 * p + h) x) := fun {k2 s1 q x} fl => by
    obtain ⟨k', a1, a2, a3, a4, a5⟩ := fl
    exact ⟨k', a1, a2, a3, by rw [si_o (by decide)]; exact a4, by rw [si_o (by decide)]; exact a5⟩
  have rsi : ∀ {q q1 : St} {x : Int32}, RB (Ysc p h) p n e d q1 q → RB (Ysc p h) p n e d q1 (si q 221 0 (40 * p + h) x) := fun {q q1 x} hr => hr.si (Or.inr (Or.inr (Or.inr (Or.inl ⟨by omega, by omega, by omega, by omega, Or.inr ⟨by omega, rfl⟩⟩))))
  obtain ⟨v, s1, u1, a1, a2, a3, a4, a5⟩ := it_box X hp H (o := h) (by omega)
  rw [a1, cal2_s, a2, cal_s, bnd_d]
  rcases a5 with ⟨rfl, b1, bx⟩ | ⟨rfl, fl⟩
  · rw [if_neg (by decide), b1.bd, if_pos rfl]
    obtain ⟨v, s2, u2, c1, c2, c3, c4, c5⟩ := it_word (w := 5) X b1 (by decide)
    rw [show k_is 10 s1 = _ from c1, cal2_s, show r_takeWord 5 u1 = _ from c2, cal_s]
    rcases c5 with ⟨rfl, b2⟩ | ⟨rfl, fl⟩
    · rw [if_neg (by decide)]
      have b2' : BS sT z cnt E p s2 (si u2 221 0 (40 * p + h) (u2.1 205 0 0)) (k + 1 + 1) n un f e d := b2.to (fun _ _ => rfl) (fun id q => si_id (by omega)) rfl
      obtain ⟨v, s3, u3, d1, d2, d3, d4, d5⟩ := it_loc (o := h) X hp b2' (by omega)
      have hr : r_readStatement_309 (nI (40 * p + h)) u2 = r_readStatement_330 u3 := by
        unfold r_readStatement_309
        rw [bnd_d, gI (by omega) (by decide), nI_clamp (by omega), bnd_d, b2'.bd, if_pos rfl, d2, cal_s]
      rw [d1, cal2_s, hr]
      unfold r_readStatement_330
      have C3 : CB (Xsc h) p n f s s3 := ((CBc (by omega) a3).trans (CB0 c3)).trans (CBc (by omega) d3)
      have R3 : RB (Ysc p h) p n e d u u3 := (rsi ((RBc (by omega) a4).trans (RB0 c4))).trans (RB0 d4)
      have R23 : RB (Xc 221 (40 * p + h)) p n e d u1 (si u2 221 0 (40 * p + h) (u2.1 205 0 0)) := (RB0 c4).si (Or.inr (Or.inr (Or.inr (Or.inl ⟨by omega, by omega, by omega, by omega, Or.inr ⟨rfl, rfl⟩⟩))))
      rcases d5 with ⟨rfl, b3, bb, bb1, bb2, bb3⟩ | ⟨rfl, fl⟩
      · rw [if_neg (by decide)]
        have lf : LTF s3 u3 p h := ⟨bb, bb1, bb2, by rw [d4.qs 221 _ (by omega) (by omega) (by omega) (by omega) (by omega) nX0, si_eq, ← bb3, si_o (by decide)]⟩
        have bx3 : BXF s3 u3 p h := ((show BXF s1 u1 p h from bx).to hh c3 R23 nX0 (nXc (by omega))).to hh d3 d4 (nXc (by omega)) nX0
        obtain ⟨v, s4, u4, g1, g2, g3, g4, g5⟩ := it_semi X b3
        refine ⟨v, s4, u4, g1, g2, C3.trans (CB0 g3), R3.trans (RB0 g4), ?_⟩
        rcases g5 with ⟨rfl, b4⟩ | ⟨rfl, fl⟩
        · exact Or.inl ⟨rfl, _, un, f, e, by omega, Nat.le_refl _, Nat.le_refl _, b4, bx3.to hh g3 g4 nX0 nX0, lf.to hh g3 g4 nX0 nX0⟩
        · exact Or.inr ⟨rfl, fl.up (by omega)⟩
      · rw [if_pos rfl, b_take fl.b, cal_s]
        exact ⟨0, s3, u3, rfl, rfl, C3, R3, Or.inr ⟨rfl, fl.up (by omega)⟩⟩
    · rw [if_pos rfl, bad u2 fl.b]
      exact ⟨0, s2, _, rfl, rfl, (CBc (by omega) a3).trans (CB0 c3), rsi ((RBc (by omega) a4).trans (RB0 c4)), Or.inr ⟨rfl, (flx fl).up (by omega)⟩⟩
  · rw [if_pos rfl, fl.b, if_neg (by decide), bad u1 fl.b]
    exact ⟨0, s1, _, rfl, rfl, CBc (by omega) a3, rsi (RBc (by omega) a4), Or.inr ⟨rfl, flx fl⟩⟩
theorem sk_put {sT s u : St} {z cnt p k n un f e d h : Nat} {E : Nat → Nat} (X : CX sT z cnt E) (hp : p < 12) (H : BS sT z cnt E p s u k n un f e d) (hh : h < n) :
    ∃ v s' u', (cal2 (k_isExpOf (nI h) s) fun v35 s34 => if v35 = 0 then some (0, s34) else (cal2 (k_is (12 : Int32) s34) fun v37 s36 => if v37 = 0 then some (0, s36) else (cal2 (k_isNumberOf (nI h) (3 : Int32) (8 : Int32) s36) fun v39 s38 => if v39 = 0 then some (0, s38) else (cal2 (k_is (59 : Int32) s38) fun v41 s40 => if v41 = 0 then some (0, s40) else (some ((1 : Int32), s40)))))) = some (v, s') ∧
      (cal2 (r_exp u) fun v38 s37 => grd (ib (nI (40 * p + h)) 480) (si s37 218 0 (nI (40 * p + h)).toNatClampNeg v38) fun s39 => bnd (s39.1 208 0 0) fun v40 => if v40 = 0 then (cal (r_takeWord (7 : Int32) s39) fun s46 => r_readStatement_362 (nI (40 * p + h)) s46) else (r_readStatement_362 (nI (40 * p + h)) s39)) = some u' ∧ IT sT z cnt E p d h (fun s u f e => BXF s u p h ∧ XPF s u p h f e) s u k n f e v s' u' := by
  have n4 := H.n4
  have bad : ∀ q : St, q.1 208 0 0 = 1 → r_readStatement_362 (nI (40 * p + h)) q = some q := fun q hq => by
    unfold r_readStatement_362 r_readStatement_374
    rw [bnd_d, hq, if_neg (by decide), b_take hq, cal_s]
  obtain ⟨v, s1, u1, a1, a2, a3, a4, a5⟩ := it_exp X hp H hh
  rw [a1, cal2_s, a2, bnd_d]
  rcases a5 with ⟨rfl, k1, un1, f1, e1, m1, m2, m3', b1, xp⟩ | ⟨rfl, fl⟩
  · rw [if_neg (by decide), b1.bd, if_pos rfl]
    obtain ⟨v, s2, u2, c1, c2, c3, c4, c5⟩ := it_word (w := 7) X b1 (by decide)
    rw [show k_is 12 s1 = _ from c1, cal2_s, show r_takeWord 7 u1 = _ from c2, cal_s]
    have C2 : CB (Xsc h) p n f s s2 := (CBo a3).trans ((CB0 c3).mono (fun _ _ q => Or.inl q) (Nat.le_refl _) m2)
    have R2 : RB (Ysc p h) p n e d u u2 := (RBc (by omega) a4).trans ((RB0 c4).mono (fun _ _ q => Or.inl q) (Nat.le_refl _) m3' (Nat.le_refl _))
    rcases c5 with ⟨rfl, b2⟩ | ⟨rfl, fl⟩
    · rw [if_neg (by decide)]
      obtain ⟨v, s3, u3, d1, d2, d3, d4, d5⟩ := it_box (o := h) X hp b2 (by omega)
      have hr : r_readStatement_362 (nI (40 * p + h)) u2 = r_readStatement_374 u3 := by
        unfold r_readStatement_362
        rw [bnd_d, b2.bd, if_pos rfl, d2, cal_s]
      rw [d1, cal2_s, hr]
      unfold r_readStatement_374
      have C3 : CB (Xsc h) p n f s s3 := C2.trans ((CBc (by omega) d3).mono (fun _ _ q => Or.inl q) (Nat.le_refl _) m2)
      have R3 : RB (Ysc p h) p n e d u u3 := R2.trans ((RBc (by omega) d4).mono (fun _ _ q => Or.inl q) (Nat.le_refl _) m3' (Nat.le_refl _))
      rcases d5 with ⟨rfl, b3, bx⟩ | ⟨rfl, fl⟩
      · rw [if_neg (by decide)]
        have xp3 : XPF s3 u3 p h f1 e1 := (xp.to hh c3 c4 (Nat.le_refl _) (Nat.le_refl _) ⟨nX0, nX0⟩ nX0).to hh d3 d4 (Nat.le_refl _) (Nat.le_refl _) ⟨nXc (by omega), nXc (by omega)⟩ (nXc (by omega))
        obtain ⟨v, s4, u4, g1, g2, g3, g4, g5⟩ := it_semi X b3
        refine ⟨v, s4, u4, g1, g2, C3.trans ((CB0 g3).mono (fun _ _ q => Or.inl q) (Nat.le_refl _) m2), R3.trans ((RB0 g4).mono (fun _ _ q => Or.inl q) (Nat.le_refl _) m3' (Nat.le_refl _)), ?_⟩
        rcases g5 with ⟨rfl, b4⟩ | ⟨rfl, fl⟩
        · exact Or.inl ⟨rfl, _, un1, f1, e1, by omega, m2, m3', b4, (show BXF s3 u3 p h from bx).to hh g3 g4 nX0 nX0, xp3.to hh g3 g4 (Nat.le_refl _) (Nat.le_refl _) ⟨nX0, nX0⟩ nX0⟩
        · exact Or.inr ⟨rfl, fl.up (by omega)⟩
      · rw [if_pos rfl, b_take fl.b, cal_s]
        exact ⟨0, s3, u3, rfl, rfl, C3, R3, Or.inr ⟨rfl, fl.up (by omega)⟩⟩
    · rw [if_pos rfl, bad u2 fl.b]
      exact ⟨0, s2, _, rfl, rfl, C2, R2, Or.inr ⟨rfl, fl.up (by omega)⟩⟩
  · rw [if_pos rfl, fl.b, if_neg (by decide), bad u1 fl.b]
    exact ⟨0, s1, _, rfl, rfl, CBo a3, RBc (by omega) a4, Or.inr ⟨rfl, fl⟩⟩
theorem sk_send {sT s u : St} {z cnt p k n un f e d h : Nat} {E : Nat → Nat} (X : CX sT z cnt E) (hp : p < 12) (H : BS sT z cnt E p s u k n un f e d) (hh : h < n) :
    ∃ v s' u', (cal2 (k_isExpOf (nI h) s) fun v43 s42 => if v43 = 0 then some (0, s42) else (cal2 (k_is (10 : Int32) s42) fun v45 s44 => if v45 = 0 then some (0, s44) else (cal2 (k_isNumberOf (nI h) (4 : Int32) (6 : Int32) s44) fun v47 s46 => if v47 = 0 then some (0, s46) else (cal2 (k_is (59 : Int32) s46) fun v49 s48 => if v49 = 0 then some (0, s48) else (some ((1 : Int32), s48)))))) = some (v, s') ∧
      (cal2 (r_exp u) fun v49 s48 => grd (ib (nI (40 * p + h)) 480) (si s48 218 0 (nI (40 * p + h)).toNatClampNeg v49) fun s50 => bnd (s50.1 208 0 0) fun v51 => if v51 = 0 then (cal (r_takeWord (5 : Int32) s50) fun s57 => r_readStatement_405 (nI (40 * p + h)) s57) else (r_readStatement_405 (nI (40 * p + h)) s50)) = some u' ∧ IT sT z cnt E p d h (fun s u f e => NMF 6 s u p h ∧ XPF s u p h f e) s u k n f e v s' u' := by
  have n4 := H.n4
  have bad : ∀ q : St, q.1 208 0 0 = 1 → r_readStatement_405 (nI (40 * p + h)) q = some q := fun q hq => by
    unfold r_readStatement_405 r_readStatement_420
    rw [bnd_d, hq, if_neg (by decide), b_take hq, cal_s]
  obtain ⟨v, s1, u1, a1, a2, a3, a4, a5⟩ := it_exp X hp H hh
  rw [a1, cal2_s, a2, bnd_d]
  rcases a5 with ⟨rfl, k1, un1, f1, e1, m1, m2, m3', b1, xp⟩ | ⟨rfl, fl⟩
  · rw [if_neg (by decide), b1.bd, if_pos rfl]
    obtain ⟨v, s2, u2, c1, c2, c3, c4, c5⟩ := it_word (w := 5) X b1 (by decide)
    rw [show k_is 10 s1 = _ from c1, cal2_s, show r_takeWord 5 u1 = _ from c2, cal_s]
    have C2 : CB (Xsc h) p n f s s2 := (CBo a3).trans ((CB0 c3).mono (fun _ _ q => Or.inl q) (Nat.le_refl _) m2)
    have R2 : RB (Ysc p h) p n e d u u2 := (RBc (by omega) a4).trans ((RB0 c4).mono (fun _ _ q => Or.inl q) (Nat.le_refl _) m3' (Nat.le_refl _))
    rcases c5 with ⟨rfl, b2⟩ | ⟨rfl, fl⟩
    · rw [if_neg (by decide)]
      obtain ⟨v, s3, u3, d1, d2, d3, d4, d5⟩ := it_num (o := h) (B := 6) X hp b2 (by omega) (by decide) hb5
      have hr : r_readStatement_405 (nI (40 * p + h)) u2 = r_readStatement_420 u3 := by
        unfold r_readStatement_405
        rw [bnd_d, b2.bd, if_pos rfl, d2, cal_s]
      rw [show k_isNumberOf (nI h) 4 6 s2 = _ from d1, cal2_s, hr]
      unfold r_readStatement_420
      have C3 : CB (Xsc h) p n f s s3 := C2.trans ((CBc (by omega) d3).mono (fun _ _ q => Or.inl q) (Nat.le_refl _) m2)
      have R3 : RB (Ysc p h) p n e d u u3 := R2.trans ((RBc (by omega) d4).mono (fun _ _ q => Or.inl q) (Nat.le_refl _) m3' (Nat.le_refl _))
      rcases d5 with ⟨rfl, b3, bx⟩ | ⟨rfl, fl⟩
      · rw [if_neg (by decide)]
        have xp3 : XPF s3 u3 p h f1 e1 := (xp.to hh c3 c4 (Nat.le_refl _) (Nat.le_refl _) ⟨nX0, nX0⟩ nX0).to hh d3 d4 (Nat.le_refl _) (Nat.le_refl _) ⟨nXc (by omega), nXc (by omega)⟩ (nXc (by omega))
        obtain ⟨v, s4, u4, g1, g2, g3, g4, g5⟩ := it_semi X b3
        refine ⟨v, s4, u4, g1, g2, C3.trans ((CB0 g3).mono (fun _ _ q => Or.inl q) (Nat.le_refl _) m2), R3.trans ((RB0 g4).mono (fun _ _ q => Or.inl q) (Nat.le_refl _) m3' (Nat.le_refl _)), ?_⟩
        rcases g5 with ⟨rfl, b4⟩ | ⟨rfl, fl⟩
        · exact Or.inl ⟨rfl, _, un1, f1, e1, by omega, m2, m3', b4, (show NMF 6 s3 u3 p h from bx).to hh g3 g4 nX0 nX0, xp3.to hh g3 g4 (Nat.le_refl _) (Nat.le_refl _) ⟨nX0, nX0⟩ nX0⟩
        · exact Or.inr ⟨rfl, fl.up (by omega)⟩
      · rw [if_pos rfl, b_take fl.b, cal_s]
        exact ⟨0, s3, u3, rfl, rfl, C3, R3, Or.inr ⟨rfl, fl.up (by omega)⟩⟩
    · rw [if_pos rfl, bad u2 fl.b]
      exact ⟨0, s2, _, rfl, rfl, C2, R2, Or.inr ⟨rfl, fl.up (by omega)⟩⟩
  · rw [if_pos rfl, fl.b, if_neg (by decide), bad u1 fl.b]
    exact ⟨0, s1, _, rfl, rfl, CBo a3, RBc (by omega) a4, Or.inr ⟨rfl, fl⟩⟩
/-- '(' exp ')' and the body that is to open -/
theorem sk_cond {sT s u : St} {z cnt p k n un f e d h : Nat} {E : Nat → Nat} (X : CX sT z cnt E) (hp : p < 12) (H : BS sT z cnt E p s u k n un f e d) (hh : h < n) :
    ∃ v s' u', k_isCondition (nI h) s = some (v, s') ∧ r_readStatement_254 (nI (40 * p + h)) u = (cal (r_openBody (nI (40 * p + h)) 0 u') fun s20 => some s20) ∧ IT sT z cnt E p d h (fun s u f e => XPF s u p h f e) s u k n f e v s' u' := by
  have n4 := H.n4
  unfold k_isCondition k_isCondition_30 r_readStatement_254
  obtain ⟨v, s1, u1, a1, a2, a3, a4, a5⟩ := it_sign (c := 40) X H (by decide)
  rw [show k_is 40 s = _ from a1, cal2_s, show r_take 40 u = _ from a2, cal_s, bnd_d]
  rcases a5 with ⟨rfl, b1⟩ | ⟨rfl, fl⟩
  · rw [if_neg (by decide), b1.bd, if_pos rfl]
    obtain ⟨v, s2, u2, c1, c2, c3, c4, c5⟩ := it_exp X hp b1 hh
    rw [c1, cal2_s, c2]
    unfold r_readStatement_277
    have C2 : CB (Xsc h) p n f s s2 := (CB0 a3).trans (CBo c3)
    have R2 : RB (Ysc p h) p n e d u u2 := (RB0 a4).trans (RBc (by omega) c4)
    rcases c5 with ⟨rfl, k1, un1, f1, e1, m1, m2, m3', b2, xp⟩ | ⟨rfl, fl⟩
    · rw [if_neg (by decide)]
      obtain ⟨v, s3, u3, d1, d2, d3, d4, d5⟩ := it_sign (c := 41) X b2 (by decide)
      rw [show k_is 41 s2 = _ from d1, cal2_s, show r_take 41 u2 = _ from d2, cal_s]
      have C3 : CB (Xsc h) p n f s s3 := C2.trans ((CB0 d3).mono (fun _ _ q => Or.inl q) (Nat.le_refl _) m2)
      have R3 : RB (Ysc p h) p n e d u u3 := R2.trans ((RB0 d4).mono (fun _ _ q => Or.inl q) (Nat.le_refl _) m3' (Nat.le_refl _))
      rcases d5 with ⟨rfl, b3⟩ | ⟨rfl, fl⟩
      · rw [if_neg (by decide)]
        exact ⟨1, s3, u3, rfl, rfl, C3, R3, Or.inl ⟨rfl, _, un1, f1, e1, by omega, m2, m3', b3, xp.to hh d3 d4 (Nat.le_refl _) (Nat.le_refl _) ⟨nX0, nX0⟩ nX0⟩⟩
      · rw [if_pos rfl]
        exact ⟨0, s3, u3, rfl, rfl, C3, R3, Or.inr ⟨rfl, fl.up (by omega)⟩⟩
    · rw [if_pos rfl, b_take fl.b, cal_s]
      exact ⟨0, s2, u2, rfl, rfl, C2, R2, Or.inr ⟨rfl, fl.up (by omega)⟩⟩
  · rw [if_pos rfl, fl.b, if_neg (by decide)]
    unfold r_readStatement_277
    rw [b_take fl.b, cal_s]
    exact ⟨0, s1, u1, rfl, rfl, CB0 a3, RB0 a4, Or.inr ⟨rfl, fl⟩⟩
