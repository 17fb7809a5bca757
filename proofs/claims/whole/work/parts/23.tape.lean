/-! the tape; many TURNS -/
def byt (x k : Int32) : Int32 := (x.toUInt32 >>> (k.toUInt32 &&& Int32.toUInt32 31)).toInt32 &&& 255
def pt1 (s : St) (n : Nat) (b : Int32) : St := si (si s 128 0 n b) 129 0 0 (nI (n + 1))
def ptS (s : St) (n : Nat) (x : Int32) : St := pt1 (pt1 (pt1 (pt1 s n (byt x 24)) (n + 1) (byt x 16)) (n + 2) (byt x 8)) (n + 3) (byt x 0)
theorem pt1_129 (s : St) (n : Nat) (b : Int32) : (pt1 s n b).1 129 0 0 = nI (n + 1) := si_eq
theorem pt_129 (s : St) (n : Nat) (x : Int32) : (ptS s n x).1 129 0 0 = nI (n + 4) := pt1_129 _ _ _
set_option maxRecDepth 100000 in
theorem c_put (s : St) (x : Int32) (n : Nat) (hn : n + 4 ≤ 800) (h129 : s.1 129 0 0 = nI n) : Rv 0 11 [.ref 3, .int x] s (fun s1 => s1 = ptS s n x) := by
  refine ct_of (by decide +kernel) (Nat.le_of_ble_eq_true rfl) ?_
  show Wp _ _ _ _ _ _ [(0, .ref 3), (1, .int x)] _ _ _
  refine x_bipush (pc := 0) (v := (24)) d11_0 (by decide) ?_
  refine x_istore_n (pc := 2) d11_2 (by decide) ?_
  refine x_iload_n (pc := 3) d11_3 rfl ?_
  refine x_if_lt (pc := 4) (tgt := 39) d11_4 (by decide) (fun c4 => absurd c4 (by decide)) (fun c4 => ?_)
  refine x_aload_n (pc := 7) d11_7 rfl ?_
  refine y_getr (pc := 8) d11_8 fk8_9 shL3 rfl ?_
  refine x_aload_n (pc := 11) d11_11 rfl ?_
  refine y_geti (pc := 12) d11_12 fk8_38 shL3 rfl ?_
  refine x_iload_n (pc := 15) d11_15 rfl ?_
  refine x_iload_n (pc := 16) d11_16 rfl ?_
  refine x_iushr (pc := 17) d11_17 ?_
  refine x_sipush (pc := 18) (v := (255)) d11_18 (by decide) ?_
  refine x_iand (pc := 21) d11_21 ?_
  refine y_iastN (pc := 22) (q := n) d11_22 shL4 (by omega) (by decide) (h129) ?_
  refine x_aload_n (pc := 23) d11_23 rfl ?_
  refine x_dup (pc := 24) d11_24 rfl ?_
  refine y_geti (pc := 25) d11_25 fk8_38 shL3 rfl ?_
  refine x_iconst (pc := 28) (v := (1)) d11_28 (by decide) ?_
  refine x_iadd (pc := 29) d11_29 ?_
  refine y_puti (pc := 30) d11_30 fk8_38 shL3 rfl rfl ⟨rfl, rfl⟩ ?_
  rw [show (si _ _ _ _ _).1 129 0 0 + 1 = nI (n + 1) by rw [si_ne (fun z => absurd z.1 (by decide)), h129, nI_1]]
  skip
  refine y_inc (pc := 33) (c := (-8)) d11_33 (by decide) (by decide) rfl ?_
  rw [show (24 : Int32) + (-8) = 16 by decide]
  refine x_goto (pc := 36) (tgt := 3) d11_36 (by decide) ?_
  refine x_iload_n (pc := 3) d11_3 rfl ?_
  refine x_if_lt (pc := 4) (tgt := 39) d11_4 (by decide) (fun c4 => absurd c4 (by decide)) (fun c4 => ?_)
  refine x_aload_n (pc := 7) d11_7 rfl ?_
  refine y_getr (pc := 8) d11_8 fk8_9 shL3 rfl ?_
  refine x_aload_n (pc := 11) d11_11 rfl ?_
  refine y_geti (pc := 12) d11_12 fk8_38 shL3 rfl ?_
  refine x_iload_n (pc := 15) d11_15 rfl ?_
  refine x_iload_n (pc := 16) d11_16 rfl ?_
  refine x_iushr (pc := 17) d11_17 ?_
  refine x_sipush (pc := 18) (v := (255)) d11_18 (by decide) ?_
  refine x_iand (pc := 21) d11_21 ?_
  refine y_iastN (pc := 22) (q := n + 1) d11_22 shL4 (by omega) (by decide) (pt1_129 _ _ _) ?_
  refine x_aload_n (pc := 23) d11_23 rfl ?_
  refine x_dup (pc := 24) d11_24 rfl ?_
  refine y_geti (pc := 25) d11_25 fk8_38 shL3 rfl ?_
  refine x_iconst (pc := 28) (v := (1)) d11_28 (by decide) ?_
  refine x_iadd (pc := 29) d11_29 ?_
  refine y_puti (pc := 30) d11_30 fk8_38 shL3 rfl rfl ⟨rfl, rfl⟩ ?_
  rw [show (si _ _ _ _ _).1 129 0 0 + 1 = nI (n + 2) by rw [si_ne (fun z => absurd z.1 (by decide)), si_eq, nI_1]]
  skip
  refine y_inc (pc := 33) (c := (-8)) d11_33 (by decide) (by decide) rfl ?_
  rw [show (16 : Int32) + (-8) = 8 by decide]
  refine x_goto (pc := 36) (tgt := 3) d11_36 (by decide) ?_
  refine x_iload_n (pc := 3) d11_3 rfl ?_
  refine x_if_lt (pc := 4) (tgt := 39) d11_4 (by decide) (fun c4 => absurd c4 (by decide)) (fun c4 => ?_)
  refine x_aload_n (pc := 7) d11_7 rfl ?_
  refine y_getr (pc := 8) d11_8 fk8_9 shL3 rfl ?_
  refine x_aload_n (pc := 11) d11_11 rfl ?_
  refine y_geti (pc := 12) d11_12 fk8_38 shL3 rfl ?_
  refine x_iload_n (pc := 15) d11_15 rfl ?_
  refine x_iload_n (pc := 16) d11_16 rfl ?_
  refine x_iushr (pc := 17) d11_17 ?_
  refine x_sipush (pc := 18) (v := (255)) d11_18 (by decide) ?_
  refine x_iand (pc := 21) d11_21 ?_
  refine y_iastN (pc := 22) (q := n + 2) d11_22 shL4 (by omega) (by decide) (pt1_129 _ _ _) ?_
  refine x_aload_n (pc := 23) d11_23 rfl ?_
  refine x_dup (pc := 24) d11_24 rfl ?_
  refine y_geti (pc := 25) d11_25 fk8_38 shL3 rfl ?_
  refine x_iconst (pc := 28) (v := (1)) d11_28 (by decide) ?_
  refine x_iadd (pc := 29) d11_29 ?_
  refine y_puti (pc := 30) d11_30 fk8_38 shL3 rfl rfl ⟨rfl, rfl⟩ ?_
  rw [show (si _ _ _ _ _).1 129 0 0 + 1 = nI (n + 3) by rw [si_ne (fun z => absurd z.1 (by decide)), si_eq, nI_1]]
  skip
  refine y_inc (pc := 33) (c := (-8)) d11_33 (by decide) (by decide) rfl ?_
  rw [show (8 : Int32) + (-8) = 0 by decide]
  refine x_goto (pc := 36) (tgt := 3) d11_36 (by decide) ?_
  refine x_iload_n (pc := 3) d11_3 rfl ?_
  refine x_if_lt (pc := 4) (tgt := 39) d11_4 (by decide) (fun c4 => absurd c4 (by decide)) (fun c4 => ?_)
  refine x_aload_n (pc := 7) d11_7 rfl ?_
  refine y_getr (pc := 8) d11_8 fk8_9 shL3 rfl ?_
  refine x_aload_n (pc := 11) d11_11 rfl ?_
  refine y_geti (pc := 12) d11_12 fk8_38 shL3 rfl ?_
  refine x_iload_n (pc := 15) d11_15 rfl ?_
  refine x_iload_n (pc := 16) d11_16 rfl ?_
  refine x_iushr (pc := 17) d11_17 ?_
  refine x_sipush (pc := 18) (v := (255)) d11_18 (by decide) ?_
  refine x_iand (pc := 21) d11_21 ?_
  refine y_iastN (pc := 22) (q := n + 3) d11_22 shL4 (by omega) (by decide) (pt1_129 _ _ _) ?_
  refine x_aload_n (pc := 23) d11_23 rfl ?_
  refine x_dup (pc := 24) d11_24 rfl ?_
  refine y_geti (pc := 25) d11_25 fk8_38 shL3 rfl ?_
  refine x_iconst (pc := 28) (v := (1)) d11_28 (by decide) ?_
  refine x_iadd (pc := 29) d11_29 ?_
  refine y_puti (pc := 30) d11_30 fk8_38 shL3 rfl rfl ⟨rfl, rfl⟩ ?_
  rw [show (si _ _ _ _ _).1 129 0 0 + 1 = nI (n + 4) by rw [si_ne (fun z => absurd z.1 (by decide)), si_eq, nI_1]]
  skip
  refine y_inc (pc := 33) (c := (-8)) d11_33 (by decide) (by decide) rfl ?_
  rw [show (0 : Int32) + (-8) = -8 by decide]
  refine x_goto (pc := 36) (tgt := 3) d11_36 (by decide) ?_
  refine x_iload_n (pc := 3) d11_3 rfl ?_
  refine x_if_lt (pc := 4) (tgt := 39) d11_4 (by decide) (fun c4 => ?_) (fun c4 => absurd (by decide) c4)
  exact y_vret (pc := 39) d11_39 rfl (rfl)
def pt5 (s : St) (n : Nat) (a b c d e : Int32) : St := ptS (ptS (ptS (ptS (ptS s n a) (n + 4) b) (n + 8) c) (n + 12) d) (n + 16) e
def tN (s : St) : Nat := (s.1 129 0 0).toNatClampNeg
def feedV (s : St) (a b c d e : Int32) : Int32 := if s.1 129 0 0 + 20 ≤ 800 then nI (tN s + 20) else -1
def feedS (s : St) (a b c d e : Int32) : St := if s.1 129 0 0 + 20 ≤ 800 then pt5 s (tN s) a b c d e else s
set_option maxRecDepth 100000 in
theorem c_feed (s : St) (a b c d e : Int32) (h129 : s.1 129 0 0 = nI (tN s)) (h8 : tN s ≤ 800) : Ri 1 10 [.ref 3, .int a, .int b, .int c, .int d, .int e] s (fun v s1 => v = feedV s a b c d e ∧ s1 = feedS s a b c d e) := by
  refine ct_of (by decide +kernel) (Nat.le_of_ble_eq_true rfl) ?_
  show Wp _ _ _ _ _ _ [(0, .ref 3), (1, .int a), (2, .int b), (3, .int c), (4, .int d), (5, .int e)] _ _ _
  refine x_aload_n (pc := 0) d10_0 rfl ?_
  refine y_geti (pc := 1) d10_1 fk8_38 shL3 rfl ?_
  refine x_bipush (pc := 4) (v := (20)) d10_4 (by decide) ?_
  refine x_iadd (pc := 6) d10_6 ?_
  refine x_sipush (pc := 7) (v := (800)) d10_7 (by decide) ?_
  refine x_icmp_le (pc := 10) (tgt := 15) d10_10 (by decide) (fun c10 => ?_) (fun c10 => ?_)
  · skip
    have h20 : tN s + 20 ≤ 800 := by
      have h := c10
      rw [h129, show (20 : Int32) = nI 20 from rfl, nI_add] at h
      rcases Nat.lt_or_ge 800 (tN s + 20) with z | z
      · exact absurd h (show ¬ nI (tN s + 20) ≤ (800 : Int32) from (show (800 : Int32) = nI 800 from rfl) ▸ nI_ge z (by omega))
      · exact z
    refine x_aload_n (pc := 15) d10_15 rfl ?_
    refine x_iload_n (pc := 16) d10_16 rfl ?_
    refine y_cV1v (pc := 17) d10_17 ml8_41 mv11 shL3 (c_put _ _ (tN s + 0) (by omega) (h129)) (by decide) (Nat.le_of_ble_eq_true rfl) ⟨Nat.zero_le _, Nat.zero_le _⟩ (fun s hq => ?_)
    subst hq
    refine x_aload_n (pc := 20) d10_20 rfl ?_
    refine x_iload_n (pc := 21) d10_21 rfl ?_
    refine y_cV1v (pc := 22) d10_22 ml8_41 mv11 shL3 (c_put _ _ (tN s + 4) (by omega) (pt_129 _ _ _)) (by decide) (Nat.le_of_ble_eq_true rfl) ⟨Nat.zero_le _, Nat.zero_le _⟩ (fun s hq => ?_)
    subst hq
    refine x_aload_n (pc := 25) d10_25 rfl ?_
    refine x_iload_n (pc := 26) d10_26 rfl ?_
    refine y_cV1v (pc := 27) d10_27 ml8_41 mv11 shL3 (c_put _ _ (tN s + 8) (by omega) (pt_129 _ _ _)) (by decide) (Nat.le_of_ble_eq_true rfl) ⟨Nat.zero_le _, Nat.zero_le _⟩ (fun s hq => ?_)
    subst hq
    refine x_aload_n (pc := 30) d10_30 rfl ?_
    refine x_iload (pc := 31) d10_31 rfl ?_
    refine y_cV1v (pc := 33) d10_33 ml8_41 mv11 shL3 (c_put _ _ (tN s + 12) (by omega) (pt_129 _ _ _)) (by decide) (Nat.le_of_ble_eq_true rfl) ⟨Nat.zero_le _, Nat.zero_le _⟩ (fun s hq => ?_)
    subst hq
    refine x_aload_n (pc := 36) d10_36 rfl ?_
    refine x_iload (pc := 37) d10_37 rfl ?_
    refine y_cV1v (pc := 39) d10_39 ml8_41 mv11 shL3 (c_put _ _ (tN s + 16) (by omega) (pt_129 _ _ _)) (by decide) (Nat.le_of_ble_eq_true rfl) ⟨Nat.zero_le _, Nat.zero_le _⟩ (fun s hq => ?_)
    subst hq
    refine x_aload_n (pc := 42) d10_42 rfl ?_
    refine y_geti (pc := 43) d10_43 fk8_38 shL3 rfl ?_
    exact y_iret (pc := 46) d10_46 rfl (⟨by unfold feedV; rw [if_pos c10]; exact pt_129 _ _ _, by unfold feedS; rw [if_pos c10]; rfl⟩)
  · skip
    refine x_iconst (pc := 13) (v := (-1)) d10_13 (by decide) ?_
    exact y_iret (pc := 14) d10_14 rfl (⟨by unfold feedV; rw [if_neg c10], by unfold feedS; rw [if_neg c10]⟩)
def draw (x : Int64) : Int64 := 6364136223846793005 * x + 1442695040888963407
def who (x : Int64) : Int32 := ((draw x).toUInt64 >>> ((61 : Int32).toInt64.toUInt64 &&& Int64.toUInt64 63)).toInt64.toInt32
def plS : Nat → Int64 → Nat → St → Nat × St
  | 0, _, n, s => (n, s)
  | m + 1, x, n, s => if rnV s (who x) = 0 then plS m (draw x) n s else plS m (draw x) (if (turnR s (who x).toNatClampNeg).1 = 4 then n else n + 1) (turnR s (who x).toNatClampNeg).2
def PJ (J : Nat → St → Prop) : Prop := ∀ m s, J (m + 1) s → GV s ∧ J m s ∧ ∀ i, i < 6 → s.1 38 i 0 = 1 → TW s i ∧ J m (turnR s i).2
set_option maxRecDepth 100000 in
theorem lp_play (J : Nat → St → Prop) (hP : PJ J) (y : Int64) (n : Nat) (hn : n ≤ 2000) : ∀ (m k : Nat) (x : Int64) (f : Nat) (s : St) (r : Nat × St), k + m = n → J m s → plS m x f s = r → Wp (rmd 7 0 0) 96 (zi (fun v s1 => v = nI r.1 ∧ s1 = r.2)) 0 0 22 [(7, .int (nI k)), (5, .long x), (4, .int (nI f)), (0, .ref 3), (1, .long y), (3, .int (nI n))] [] (mk s) TT := by
  intro m
  induction m with
  | zero =>
    intro k x f s r hk hJ hr
    refine x_iload (pc := 22) d96_22 rfl ?_
    refine x_iload_n (pc := 24) d96_24 rfl ?_
    refine x_icmp_ge (pc := 25) (tgt := 87) d96_25 (by decide) (fun c25 => ?_) (fun c25 => absurd (nI_le (by omega) (by omega)) c25)
    refine x_iload (pc := 87) d96_87 rfl ?_
    exact y_iret (pc := 89) d96_89 rfl (by rw [← hr]; exact ⟨rfl, rfl⟩)
  | succ m ih =>
    intro k x f s r hk hJ hr
    unfold plS at hr
    have ih9 := ih (k + 1) (draw x)
    have hJ9 := fun i hi h => ((hP m s hJ).2.2 i hi h).2
    refine x_iload (pc := 22) d96_22 rfl ?_
    refine x_iload_n (pc := 24) d96_24 rfl ?_
    refine x_icmp_ge (pc := 25) (tgt := 87) d96_25 (by decide) (fun c25 => absurd c25 (nI_ge (by omega) (by omega))) (fun c25 => ?_)
    refine x_ldc2 (pc := 28) (v := (6364136223846793005)) (gw_t (i := 717) (by decide +kernel) (by decide +kernel)) d96_28 ?_
    refine x_lload (pc := 31) d96_31 rfl ?_
    refine x_lmul (pc := 33) d96_33 ?_
    refine x_ldc2 (pc := 34) (v := (1442695040888963407)) (gw_t (i := 718) (by decide +kernel) (by decide +kernel)) d96_34 ?_
    refine x_ladd (pc := 37) d96_37 ?_
    refine x_lstore (pc := 38) d96_38 (by decide) ?_
    refine x_lload (pc := 40) d96_40 rfl ?_
    refine x_bipush (pc := 42) (v := (61)) d96_42 (by decide) ?_
    refine x_lushr (pc := 44) d96_44 ?_
    refine x_l2i (pc := 45) d96_45 ?_
    refine x_istore (pc := 46) d96_46 (by decide) ?_
    show Wp _ _ _ _ _ _ (st1 _ 8 (.int (who x))) _ _ _
    refine x_aload_n (pc := 48) d96_48 rfl ?_
    refine x_iload (pc := 49) d96_49 rfl ?_
    refine y_cV1i (pc := 51) d96_51 ml8_68 mv58 shL3 (c_runs s _) (by decide) (Nat.le_of_ble_eq_true rfl) ⟨Nat.zero_le _, Nat.zero_le _⟩ (fun v s hq => ?_)
    obtain ⟨rfl, rfl⟩ := hq
    refine x_if_eq (pc := 54) (tgt := 81) d96_54 (by decide) (fun c54 => ?_) (fun c54 => ?_)
    · skip
      refine y_inc (pc := 81) (c := (1)) d96_81 (by decide) (by decide) rfl ?_
      refine x_goto (pc := 84) (tgt := 22) d96_84 (by decide) ?_
      rw [nI_1]
      refine wp_lv (lv' := [(7, .int (nI (k + 1))), (5, .long (draw x)), (4, .int (nI f)), (0, .ref 3), (1, .long y), (3, .int (nI n))]) ⟨rfl, rfl, rfl, rfl, rfl, rfl, trivial⟩ ?_
      exact ih9 f _ r (by omega) (hP m s hJ).2.1 (by rw [if_pos c54] at hr; exact hr)
    · skip
      refine x_aload_n (pc := 57) d96_57 rfl ?_
      refine y_getr (pc := 58) d96_58 fk8_34 shL3 rfl ?_
      refine x_aload_n (pc := 61) d96_61 rfl ?_
      refine y_getr (pc := 62) d96_62 fk8_34 shL3 rfl ?_
      refine y_getr (pc := 65) d96_65 fk8_71 shL143 rfl ?_
      refine x_iload (pc := 68) d96_68 rfl ?_
      refine y_aaldFN (pc := 70) (q := (who x).toNatClampNeg) d96_70 ((rn_c c54).1.2) ((rn_c c54).1.1) ?_
      refine y_cV1i (pc := 71) d96_71 ml8_81 mv65 shL143 (c_turn (who x).toNatClampNeg (Nat.lt_trans (rn_c c54).1.2 (by decide)) s (hP m s hJ).1 ((hP m s hJ).2.2 _ (rn_c c54).1.2 (rn_c c54).2).1.1 ((hP m s hJ).2.2 _ (rn_c c54).1.2 (rn_c c54).2).1.2) (by decide) (Nat.le_of_ble_eq_true rfl) ⟨Nat.zero_le _, Nat.zero_le _⟩ (fun v s hq => ?_)
      have hq1 : v = _ := congrArg Prod.fst hq
      have hq2 : s = _ := congrArg Prod.snd hq
      rw [hq1, hq2]
      clear hq1 hq2 hq
      refine x_iconst (pc := 74) (v := (4)) d96_74 (by decide) ?_
      refine x_icmp_eq (pc := 75) (tgt := 81) d96_75 (by decide) (fun c75 => ?_) (fun c75 => ?_)
      · skip
        refine y_inc (pc := 81) (c := (1)) d96_81 (by decide) (by decide) rfl ?_
        refine x_goto (pc := 84) (tgt := 22) d96_84 (by decide) ?_
        rw [nI_1]
        refine wp_lv (lv' := [(7, .int (nI (k + 1))), (5, .long (draw x)), (4, .int (nI f)), (0, .ref 3), (1, .long y), (3, .int (nI n))]) ⟨rfl, rfl, rfl, rfl, rfl, rfl, trivial⟩ ?_
        exact ih9 f _ r (by omega) (hJ9 _ (rn_c c54).1.2 (rn_c c54).2) (by rw [if_neg c54, if_pos c75] at hr; exact hr)
      · skip
        refine y_inc (pc := 78) (c := (1)) d96_78 (by decide) (by decide) rfl ?_
        refine y_inc (pc := 81) (c := (1)) d96_81 (by decide) (by decide) rfl ?_
        refine x_goto (pc := 84) (tgt := 22) d96_84 (by decide) ?_
        rw [nI_1, nI_1]
        refine wp_lv (lv' := [(7, .int (nI (k + 1))), (5, .long (draw x)), (4, .int (nI (f + 1))), (0, .ref 3), (1, .long y), (3, .int (nI n))]) ⟨rfl, rfl, rfl, rfl, rfl, rfl, trivial⟩ ?_
        exact ih9 (f + 1) _ r (by omega) (hJ9 _ (rn_c c54).1.2 (rn_c c54).2) (by rw [if_neg c54, if_neg c75] at hr; exact hr)
def playV (s : St) (y : Int64) (x : Int32) : Int32 := if x < 0 ∨ ¬ x ≤ 2000 then -1 else nI (plS x.toNatClampNeg y 0 s).1
def playS (s : St) (y : Int64) (x : Int32) : St := if x < 0 ∨ ¬ x ≤ 2000 then s else (plS x.toNatClampNeg y 0 s).2
theorem le_ok {y : Int32} {n : Nat} (hn : n + 1 < 2 ^ 31) (h0 : ¬ y < 0) (h : y ≤ nI n) : okN (n + 1) y := by
  obtain ⟨q, hq, e⟩ := nI_of2 (nI_toInt (by omega)) h0 h
  exact ⟨q, by omega, e⟩
set_option maxRecDepth 100000 in
theorem c_play (J : Nat → St → Prop) (hP : PJ J) (s : St) (hJ : ∀ m, m ≤ 2000 → J m s) (y : Int64) (x : Int32) : Ri 7 96 [.ref 3, .long y, .int x] s (fun v s1 => v = playV s y x ∧ s1 = playS s y x) := by
  refine ct_of (by decide +kernel) (Nat.le_of_ble_eq_true rfl) ?_
  show Wp _ _ _ _ _ _ [(0, .ref 3), (1, .long y), (3, .int x)] _ _ _
  refine x_iload_n (pc := 0) d96_0 rfl ?_
  refine x_if_lt (pc := 1) (tgt := 11) d96_1 (by decide) (fun c1 => ?_) (fun c1 => ?_)
  · skip
    refine x_iconst (pc := 11) (v := (-1)) d96_11 (by decide) ?_
    exact y_iret (pc := 12) d96_12 rfl (⟨by unfold playV; rw [if_pos (Or.inl c1)], by unfold playS; rw [if_pos (Or.inl c1)]⟩)
  · skip
    refine x_iload_n (pc := 4) d96_4 rfl ?_
    refine x_sipush (pc := 5) (v := (2000)) d96_5 (by decide) ?_
    refine x_icmp_le (pc := 8) (tgt := 13) d96_8 (by decide) (fun c8 => ?_) (fun c8 => ?_)
    · skip
      refine x_iconst (pc := 13) (v := (0)) d96_13 (by decide) ?_
      refine x_istore (pc := 14) d96_14 (by decide) ?_
      refine x_lload_n (pc := 16) d96_16 rfl ?_
      refine x_lstore (pc := 17) d96_17 (by decide) ?_
      refine x_iconst (pc := 19) (v := (0)) d96_19 (by decide) ?_
      refine x_istore (pc := 20) d96_20 (by decide) ?_
      have hx := (okN_c (by decide) (le_ok (n := 2000) (by decide) c1 c8))
      refine wp_lv (lv' := [(7, .int (nI 0)), (5, .long y), (4, .int (nI 0)), (0, .ref 3), (1, .long y), (3, .int x)]) ⟨rfl, rfl, rfl, rfl, rfl, rfl, trivial⟩ ?_
      have h9 := lp_play J hP y x.toNatClampNeg (by have := hx.2; omega) x.toNatClampNeg 0 y 0 s _ (by omega) (hJ _ (by have := hx.2; omega)) rfl
      rw [← hx.1] at h9
      unfold playV playS
      rw [if_neg (fun h => h.elim c1 (fun h => h c8)), if_neg (fun h => h.elim c1 (fun h => h c8))]
      exact h9
    · skip
      refine x_iconst (pc := 11) (v := (-1)) d96_11 (by decide) ?_
      exact y_iret (pc := 12) d96_12 rfl (⟨by unfold playV; rw [if_pos (Or.inr c8)], by unfold playS; rw [if_pos (Or.inr c8)]⟩)
