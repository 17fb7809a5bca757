theorem GV_sd {s : St} {i a : Nat} (h : GV s) (ho : s.1 68 (pN s i) a = 14 → okN 6 (s.1 70 (pN s i) a)) (hk : s.1 68 (pN s i) a = 14) : GV (sdS s i a) := by
  unfold sdS
  split
  · exact GV_tv h
  · split
    · exact GV_beh (GV_44 h)
    · split
      · exact GV_app (GV_w (GV_sd0 h (ho hk))) (okN_of (q := 0) (by decide))
      · exact h
theorem GV_pf {s : St} {i a : Nat} (h : GV s) (hS : SW s (pN s i) a) : GV (pfS s i a) := by
  have h39 : ∀ t : St, GV t → okN 3 (t.1 39 i 0) := fun t ht => (ht 39 i 0 : okN 3 _)
  unfold pfS
  by_cases k2 : s.1 68 (pN s i) a = 2
  · rw [if_pos k2]
    exact GV_beh (GV_sl (GV_w h))
  rw [if_neg k2]
  by_cases k5 : s.1 68 (pN s i) a = 5
  · rw [if_pos k5]
    exact GV_beh (GV_tell (GV_w h))
  rw [if_neg k5]
  by_cases k6 : s.1 68 (pN s i) a = 6
  · rw [if_pos k6]
    by_cases hw : wV s i (pN s i) a = 0
    · rw [if_pos hw]; exact GV_in (GV_w h) (by decide) (h39 _ (GV_w h))
    · rw [if_neg hw]; exact GV_in (GV_w h) (by decide) (h39 _ (GV_w h))
  rw [if_neg k6]
  by_cases k8 : s.1 68 (pN s i) a = 8
  · rw [if_pos k8]
    by_cases hw : wV s i (pN s i) a = 0
    · rw [if_pos hw]; exact GV_beh (GV_w h)
    · rw [if_neg hw]; exact GV_in (GV_w h) (by decide) (h39 _ (GV_w h))
  rw [if_neg k8]
  by_cases k9 : s.1 68 (pN s i) a = 9
  · rw [if_pos k9]
    unfold tbS
    by_cases hw : wtV s i a = 0
    · rw [if_pos hw]; exact GV_beh (GV_tb1 h)
    · rw [if_neg hw]; exact h
  rw [if_neg k9]
  by_cases k11 : s.1 68 (pN s i) a = 11
  · rw [if_pos k11]
    unfold pbS
    by_cases hw : wtV s i a = 0
    · rw [if_pos hw]; exact GV_beh (GV_pb1 h)
    · rw [if_neg hw]; exact h
  rw [if_neg k11]
  by_cases k13 : s.1 68 (pN s i) a = 13
  · rw [if_pos k13]
    exact GV_tv h
  rw [if_neg k13]
  by_cases k14 : s.1 68 (pN s i) a = 14
  · rw [if_pos k14]
    exact GV_sd h hS.2.2.2.1 k14
  rw [if_neg k14]
  by_cases k15 : s.1 68 (pN s i) a = 15
  · rw [if_pos k15]
    exact GV_in h (by decide) (okN_mx (h39 s h))
  rw [if_neg k15]
  by_cases k16 : s.1 68 (pN s i) a = 16
  · rw [if_pos k16]
    exact GV_in h (by decide) (okN_of (q := 2) (by decide))
  rw [if_neg k16]
  by_cases k17 : s.1 68 (pN s i) a = 17
  · rw [if_pos k17]
    exact GV_in h (by decide) (okN_of (q := 0) (by decide))
  rw [if_neg k17]
  by_cases k20 : s.1 68 (pN s i) a = 20
  · rw [if_pos k20]
    exact GV_in h (by decide) (okN_mx (h39 s h))
  rw [if_neg k20]
  exact GV_in h (by decide) (h39 s h)
/-- what stands next is a statement -/
def NX (s : St) (i : Nat) : Prop := ¬ s.1 3 i (dN s i) = -1 → s.1 3 i (dN s i) = nI (aN s i (dN s i)) ∧ SW s (pN s i) (aN s i (dN s i))
def st2R (t : St) (v : Int32) (i : Nat) : Int32 × St := if v = 4 ∧ t.1 39 i 0 = 1 ∧ 0 < t.1 80 i 0 then (5, tfS t i) else (v, t)
def st1R (r : St) (i : Nat) : Int32 × St := if r.1 39 i 0 = 0 ∧ 0 < r.1 80 i 0 then (5, tfS r i) else if r.1 3 i (dN r i) = -1 then (2, finS r i) else st2R (pfS r i (aN r i (dN r i))) (pfV r i (aN r i (dN r i))) i
def stepR (s : St) (i : Nat) : Int32 × St := if (setS i 24 s).1 = 0 then st1R (setS i 24 s).2 i else (5, (setS i 24 s).2)
theorem GV_st1 {r : St} {i : Nat} (h : GV r) (hN : NX r i) : GV (st1R r i).2 := by
  unfold st1R
  split
  · exact GV_tf h
  split
  · exact GV_fin h
  next hn =>
    unfold st2R
    split
    · exact GV_tf (GV_pf h (hN hn).2)
    · exact GV_pf h (hN hn).2
theorem GV_step {s : St} {i : Nat} (h : GV s) (hN : NX (setS i 24 s).2 i) : GV (stepR s i).2 := by
  unfold stepR
  split
  · exact GV_st1 (GV_settle i 24 s h) hN
  · exact GV_settle i 24 s h
set_option maxRecDepth 100000 in
theorem lp_step (i : Nat) (hi : i < 7) (s : St) (hG : GV s) (hN : NX s i) : Wp (rmd 5 0 0) 68 (zi (fun v s1 => (v, s1) = st1R s i)) 0 0 9 [(0, .ref 143), (1, .ref (FA i))] [] (mk s) TT := by
  refine x_aload_n (pc := 9) d68_9 rfl ?_
  refine y_geti (pc := 10) d68_10 fk7_72 (shF i hi) rfl ?_
  refine x_if_ne (pc := 13) (tgt := 32) d68_13 (by decide) (fun c13 => ?_) (fun c13 => ?_)
  · skip
    have n1 : ¬ (s.1 39 i 0 = 0 ∧ 0 < s.1 80 i 0) := fun h => by first | exact c13 h.1 | exact absurd h.2 (Int32.not_lt.mpr c23)
    refine x_aload_n (pc := 32) d68_32 rfl ?_
    refine y_cV0i (pc := 33) d68_33 ml7_85 mv70 (shF i hi) (c_next i hi s (hG.D i)) (by decide) (Nat.le_of_ble_eq_true rfl) ⟨Nat.zero_le _, Nat.zero_le _⟩ (fun v s hq => ?_)
    obtain ⟨rfl, rfl⟩ := hq
    refine x_iconst (pc := 36) (v := (-1)) d68_36 (by decide) ?_
    refine x_icmp_ne (pc := 37) (tgt := 45) d68_37 (by decide) (fun c37 => ?_) (fun c37 => ?_)
    · skip
      refine x_aload_n (pc := 45) d68_45 rfl ?_
      refine x_aload_n (pc := 46) d68_46 rfl ?_
      refine x_aload_n (pc := 47) d68_47 rfl ?_
      refine y_cV0i (pc := 48) d68_48 ml7_85 mv70 (shF i hi) (c_next i hi s (hG.D i)) (by decide) (Nat.le_of_ble_eq_true rfl) ⟨Nat.zero_le _, Nat.zero_le _⟩ (fun v s hq => ?_)
      obtain ⟨rfl, rfl⟩ := hq
      rw [(hN c37).1]
      refine y_cV2i (pc := 51) d68_51 ml7_91 mv84 shL143 (c_perform i hi s (aN s i (dN s i)) hG (hN c37).2) (by decide) (Nat.le_of_ble_eq_true rfl) ⟨Nat.zero_le _, Nat.zero_le _⟩ (fun v s hq => ?_)
      obtain ⟨rfl, rfl⟩ := hq
      refine x_istore_n (pc := 54) d68_54 (by decide) ?_
      refine x_iload_n (pc := 55) d68_55 rfl ?_
      refine x_iconst (pc := 56) (v := (4)) d68_56 (by decide) ?_
      refine x_icmp_ne (pc := 57) (tgt := 84) d68_57 (by decide) (fun c57 => ?_) (fun c57 => ?_)
      · skip
        refine x_iload_n (pc := 84) d68_84 rfl ?_
        exact y_iret (pc := 85) d68_85 rfl (by unfold st1R; rw [if_neg n1, if_neg c37]; unfold st2R; rw [if_neg (fun h => by first | exact c57 h.1 | exact c65 h.2.1 | exact absurd h.2.2 (Int32.not_lt.mpr c75))])
      · skip
        refine x_aload_n (pc := 60) d68_60 rfl ?_
        refine y_geti (pc := 61) d68_61 fk7_72 (shF i hi) rfl ?_
        refine x_iconst (pc := 64) (v := (1)) d68_64 (by decide) ?_
        refine x_icmp_ne (pc := 65) (tgt := 84) d68_65 (by decide) (fun c65 => ?_) (fun c65 => ?_)
        · skip
          refine x_iload_n (pc := 84) d68_84 rfl ?_
          exact y_iret (pc := 85) d68_85 rfl (by unfold st1R; rw [if_neg n1, if_neg c37]; unfold st2R; rw [if_neg (fun h => by first | exact c57 h.1 | exact c65 h.2.1 | exact absurd h.2.2 (Int32.not_lt.mpr c75))])
        · skip
          refine x_aload_n (pc := 68) d68_68 rfl ?_
          refine y_getr (pc := 69) d68_69 fk7_75 (shF i hi) rfl ?_
          refine y_geti (pc := 72) d68_72 fk7_79 (shR i hi) rfl ?_
          refine x_if_le (pc := 75) (tgt := 84) d68_75 (by decide) (fun c75 => ?_) (fun c75 => ?_)
          · skip
            refine x_iload_n (pc := 84) d68_84 rfl ?_
            exact y_iret (pc := 85) d68_85 rfl (by unfold st1R; rw [if_neg n1, if_neg c37]; unfold st2R; rw [if_neg (fun h => by first | exact c57 h.1 | exact c65 h.2.1 | exact absurd h.2.2 (Int32.not_lt.mpr c75))])
          · skip
            refine x_aload_n (pc := 78) d68_78 rfl ?_
            refine x_aload_n (pc := 79) d68_79 rfl ?_
            refine y_cV1i (pc := 80) d68_80 ml7_82 mv80 shL143 (c_takeFromRow i hi _ (GV_pf hG (hN c37).2)) (by decide) (Nat.le_of_ble_eq_true rfl) ⟨Nat.zero_le _, Nat.zero_le _⟩ (fun v s hq => ?_)
            obtain ⟨rfl, rfl⟩ := hq
            exact y_iret (pc := 83) d68_83 rfl (by unfold st1R; rw [if_neg n1, if_neg c37]; unfold st2R; rw [if_pos ⟨c57, c65, Int32.not_le.mp c75⟩])
    · skip
      refine x_aload_n (pc := 40) d68_40 rfl ?_
      refine y_cV0i (pc := 41) d68_41 ml7_88 mv83 (shF i hi) (c_finish i hi s (hG.H _)) (by decide) (Nat.le_of_ble_eq_true rfl) ⟨Nat.zero_le _, Nat.zero_le _⟩ (fun v s hq => ?_)
      obtain ⟨rfl, rfl⟩ := hq
      exact y_iret (pc := 44) d68_44 rfl (by unfold st1R; rw [if_neg n1, if_pos c37])
  · skip
    refine x_aload_n (pc := 16) d68_16 rfl ?_
    refine y_getr (pc := 17) d68_17 fk7_75 (shF i hi) rfl ?_
    refine y_geti (pc := 20) d68_20 fk7_79 (shR i hi) rfl ?_
    refine x_if_le (pc := 23) (tgt := 32) d68_23 (by decide) (fun c23 => ?_) (fun c23 => ?_)
    · skip
      have n1 : ¬ (s.1 39 i 0 = 0 ∧ 0 < s.1 80 i 0) := fun h => by first | exact c13 h.1 | exact absurd h.2 (Int32.not_lt.mpr c23)
      refine x_aload_n (pc := 32) d68_32 rfl ?_
      refine y_cV0i (pc := 33) d68_33 ml7_85 mv70 (shF i hi) (c_next i hi s (hG.D i)) (by decide) (Nat.le_of_ble_eq_true rfl) ⟨Nat.zero_le _, Nat.zero_le _⟩ (fun v s hq => ?_)
      obtain ⟨rfl, rfl⟩ := hq
      refine x_iconst (pc := 36) (v := (-1)) d68_36 (by decide) ?_
      refine x_icmp_ne (pc := 37) (tgt := 45) d68_37 (by decide) (fun c37 => ?_) (fun c37 => ?_)
      · skip
        refine x_aload_n (pc := 45) d68_45 rfl ?_
        refine x_aload_n (pc := 46) d68_46 rfl ?_
        refine x_aload_n (pc := 47) d68_47 rfl ?_
        refine y_cV0i (pc := 48) d68_48 ml7_85 mv70 (shF i hi) (c_next i hi s (hG.D i)) (by decide) (Nat.le_of_ble_eq_true rfl) ⟨Nat.zero_le _, Nat.zero_le _⟩ (fun v s hq => ?_)
        obtain ⟨rfl, rfl⟩ := hq
        rw [(hN c37).1]
        refine y_cV2i (pc := 51) d68_51 ml7_91 mv84 shL143 (c_perform i hi s (aN s i (dN s i)) hG (hN c37).2) (by decide) (Nat.le_of_ble_eq_true rfl) ⟨Nat.zero_le _, Nat.zero_le _⟩ (fun v s hq => ?_)
        obtain ⟨rfl, rfl⟩ := hq
        refine x_istore_n (pc := 54) d68_54 (by decide) ?_
        refine x_iload_n (pc := 55) d68_55 rfl ?_
        refine x_iconst (pc := 56) (v := (4)) d68_56 (by decide) ?_
        refine x_icmp_ne (pc := 57) (tgt := 84) d68_57 (by decide) (fun c57 => ?_) (fun c57 => ?_)
        · skip
          refine x_iload_n (pc := 84) d68_84 rfl ?_
          exact y_iret (pc := 85) d68_85 rfl (by unfold st1R; rw [if_neg n1, if_neg c37]; unfold st2R; rw [if_neg (fun h => by first | exact c57 h.1 | exact c65 h.2.1 | exact absurd h.2.2 (Int32.not_lt.mpr c75))])
        · skip
          refine x_aload_n (pc := 60) d68_60 rfl ?_
          refine y_geti (pc := 61) d68_61 fk7_72 (shF i hi) rfl ?_
          refine x_iconst (pc := 64) (v := (1)) d68_64 (by decide) ?_
          refine x_icmp_ne (pc := 65) (tgt := 84) d68_65 (by decide) (fun c65 => ?_) (fun c65 => ?_)
          · skip
            refine x_iload_n (pc := 84) d68_84 rfl ?_
            exact y_iret (pc := 85) d68_85 rfl (by unfold st1R; rw [if_neg n1, if_neg c37]; unfold st2R; rw [if_neg (fun h => by first | exact c57 h.1 | exact c65 h.2.1 | exact absurd h.2.2 (Int32.not_lt.mpr c75))])
          · skip
            refine x_aload_n (pc := 68) d68_68 rfl ?_
            refine y_getr (pc := 69) d68_69 fk7_75 (shF i hi) rfl ?_
            refine y_geti (pc := 72) d68_72 fk7_79 (shR i hi) rfl ?_
            refine x_if_le (pc := 75) (tgt := 84) d68_75 (by decide) (fun c75 => ?_) (fun c75 => ?_)
            · skip
              refine x_iload_n (pc := 84) d68_84 rfl ?_
              exact y_iret (pc := 85) d68_85 rfl (by unfold st1R; rw [if_neg n1, if_neg c37]; unfold st2R; rw [if_neg (fun h => by first | exact c57 h.1 | exact c65 h.2.1 | exact absurd h.2.2 (Int32.not_lt.mpr c75))])
            · skip
              refine x_aload_n (pc := 78) d68_78 rfl ?_
              refine x_aload_n (pc := 79) d68_79 rfl ?_
              refine y_cV1i (pc := 80) d68_80 ml7_82 mv80 shL143 (c_takeFromRow i hi _ (GV_pf hG (hN c37).2)) (by decide) (Nat.le_of_ble_eq_true rfl) ⟨Nat.zero_le _, Nat.zero_le _⟩ (fun v s hq => ?_)
              obtain ⟨rfl, rfl⟩ := hq
              exact y_iret (pc := 83) d68_83 rfl (by unfold st1R; rw [if_neg n1, if_neg c37]; unfold st2R; rw [if_pos ⟨c57, c65, Int32.not_le.mp c75⟩])
      · skip
        refine x_aload_n (pc := 40) d68_40 rfl ?_
        refine y_cV0i (pc := 41) d68_41 ml7_88 mv83 (shF i hi) (c_finish i hi s (hG.H _)) (by decide) (Nat.le_of_ble_eq_true rfl) ⟨Nat.zero_le _, Nat.zero_le _⟩ (fun v s hq => ?_)
        obtain ⟨rfl, rfl⟩ := hq
        exact y_iret (pc := 44) d68_44 rfl (by unfold st1R; rw [if_neg n1, if_pos c37])
    · skip
      refine x_aload_n (pc := 26) d68_26 rfl ?_
      refine x_aload_n (pc := 27) d68_27 rfl ?_
      refine y_cV1i (pc := 28) d68_28 ml7_82 mv80 shL143 (c_takeFromRow i hi _ hG) (by decide) (Nat.le_of_ble_eq_true rfl) ⟨Nat.zero_le _, Nat.zero_le _⟩ (fun v s hq => ?_)
      obtain ⟨rfl, rfl⟩ := hq
      exact y_iret (pc := 31) d68_31 rfl (by unfold st1R; rw [if_pos ⟨c13, Int32.not_le.mp c23⟩])
set_option maxRecDepth 100000 in
theorem c_step (i : Nat) (hi : i < 7) (s : St) (hG : GV s) (hN : NX (setS i 24 s).2 i) : Ri 5 68 [.ref 143, .ref (FA i)] s (fun v s1 => (v, s1) = stepR s i) := by
  refine ct_of (by decide +kernel) (Nat.le_of_ble_eq_true rfl) ?_
  show Wp _ _ _ _ _ _ [(0, .ref 143), (1, .ref (FA i))] _ _ _
  refine x_aload_n (pc := 0) d68_0 rfl ?_
  refine y_cV0i (pc := 1) d68_1 ml7_68 mv69 (shF i hi) (c_settle i hi s hG) (by decide) (Nat.le_of_ble_eq_true rfl) ⟨Nat.zero_le _, Nat.zero_le _⟩ (fun v s hq => ?_)
  have hq1 := congrArg Prod.fst hq
  have hq2 := congrArg Prod.snd hq
  dsimp only at hq1 hq2
  subst hq1
  subst hq2
  refine x_if_eq (pc := 4) (tgt := 9) d68_4 (by decide) (fun c4 => ?_) (fun c4 => ?_)
  · skip
    have h9 := lp_step i hi (setS i 24 s).2 (GV_settle i 24 s hG) hN
    unfold stepR
    rw [if_pos c4]
    exact h9
  · skip
    refine x_iconst (pc := 7) (v := (5)) d68_7 (by decide) ?_
    exact y_iret (pc := 8) d68_8 rfl (by unfold stepR; rw [if_neg c4])
def b6S : Nat → Nat → St → St
  | 0, _, s => s
  | m + 1, k, s => b6S m (k + 1) (bringS s k)
theorem GV_b6 : ∀ m k s, GV s → GV (b6S m k s)
  | 0, _, _, h => h
  | m + 1, k, s, h => GV_b6 m (k + 1) _ (GV_bring h)
def tick (s : St) : St := b6S 6 0 (si s 16 0 0 (s.1 16 0 0 + 1))
theorem GV_tick {s : St} (h : GV s) : GV (tick s) := GV_b6 6 0 _ (GV_si h trivial)
def endR (r : Int32 × St) (i : Nat) : Int32 × St := (r.1, if r.1 = 4 then r.2 else si r.2 40 i 0 (r.2.1 40 i 0 + 1))
def turnR (s : St) (i : Nat) : Int32 × St := endR (if (stepR (tick s) i).1 = 5 then unwS i (dN (stepR (tick s) i).2 i) (stepR (tick s) i).2 else stepR (tick s) i) i
set_option maxRecDepth 100000 in
theorem lp_turn {R : Room} {Z : Zt} (hR : 2 ≤ R.frames ∧ 8 + (mL 66 + 11) + 40 * 1 ≤ R.locals) (i : Nat) (hi : i < 7) : ∀ (m k : Nat) (s : St), k + m = 6 → GV s → Wp R 65 Z 0 0 36 [(2, .int (nI 6)), (0, .ref 143), (1, .ref (FA i))] [] (mk (b6S m k s)) TT → Wp R 65 Z 0 0 15 [(2, .int (nI k)), (0, .ref 143), (1, .ref (FA i))] [] (mk s) TT := by
  intro m
  induction m with
  | zero =>
    intro k s hk hG hx
    refine x_iload_n (pc := 15) d65_15 rfl ?_
    refine x_bipush (pc := 16) (v := (6)) d65_16 (by decide) ?_
    refine x_icmp_ge (pc := 18) (tgt := 36) d65_18 (by decide) (fun c18 => ?_) (fun c18 => absurd (show (6 : Int32) ≤ nI k from (show (6 : Int32) = nI 6 from rfl) ▸ nI_le (by omega) (by omega)) c18)
    obtain rfl : k = 6 := by omega
    exact hx
  | succ m ih =>
    intro k s hk hG hx
    refine x_iload_n (pc := 15) d65_15 rfl ?_
    refine x_bipush (pc := 16) (v := (6)) d65_16 (by decide) ?_
    refine x_icmp_ge (pc := 18) (tgt := 36) d65_18 (by decide) (fun c18 => absurd c18 (show ¬ (6 : Int32) ≤ nI k from (show (6 : Int32) = nI 6 from rfl) ▸ nI_ge (by omega) (by omega))) (fun c18 => ?_)
    refine x_aload_n (pc := 21) d65_21 rfl ?_
    refine y_getr (pc := 22) d65_22 fk7_36 shL143 rfl ?_
    refine x_iload_n (pc := 25) d65_25 rfl ?_
    refine y_aaldFN (pc := 26) (q := k) d65_26 (by omega) (rfl) ?_
    refine y_cV0v (pc := 27) d65_27 ml7_54 mv66 (shF k (by omega)) (c_bring k (by omega) _ hG) hR (Nat.le_of_ble_eq_true rfl) ⟨Nat.zero_le _, Nat.zero_le _⟩ (fun s hq => ?_)
    subst hq
    refine y_inc (pc := 30) (c := (1)) d65_30 (by decide) (by decide) rfl ?_
    refine x_goto (pc := 33) (tgt := 15) d65_33 (by decide) ?_
    rw [nI_1]
    exact ih (k + 1) _ (by omega) (GV_bring hG) hx
set_option maxRecDepth 100000 in
theorem c_turn (i : Nat) (hi : i < 7) (s : St) (hG : GV s) (hN : NX (setS i 24 (tick s)).2 i) (hL : (stepR (tick s) i).1 = 5 → LW (stepR (tick s) i).2 i) : Ri 6 65 [.ref 143, .ref (FA i)] s (fun v s1 => (v, s1) = turnR s i) := by
  refine ct_of (by decide +kernel) (Nat.le_of_ble_eq_true rfl) ?_
  show Wp _ _ _ _ _ _ [(0, .ref 143), (1, .ref (FA i))] _ _ _
  refine x_aload_n (pc := 0) d65_0 rfl ?_
  refine y_getr (pc := 1) d65_1 fk7_32 shL143 rfl ?_
  refine x_dup (pc := 4) d65_4 rfl ?_
  refine y_geti (pc := 5) d65_5 fk7_44 (shC 0 (by decide)) rfl ?_
  refine x_iconst (pc := 8) (v := (1)) d65_8 (by decide) ?_
  refine x_iadd (pc := 9) d65_9 ?_
  refine y_puti (pc := 10) d65_10 fk7_44 (shC 0 (by decide)) rfl rfl ⟨rfl, rfl⟩ ?_
  refine x_iconst (pc := 13) (v := (0)) d65_13 (by decide) ?_
  refine x_istore_n (pc := 14) d65_14 (by decide) ?_
  refine wp_lv (lv' := [(2, .int (nI 0)), (0, .ref 143), (1, .ref (FA i))]) ⟨rfl, rfl, rfl, trivial⟩ ?_
  refine lp_turn (by decide) i hi 6 0 _ rfl (GV_si hG trivial) ?_
  show Wp _ _ _ _ _ _ _ _ (mk (tick s)) _
  refine x_aload_n (pc := 36) d65_36 rfl ?_
  refine x_aload_n (pc := 37) d65_37 rfl ?_
  refine y_cV1i (pc := 38) d65_38 ml7_57 mv68 shL143 (c_step i hi (tick s) (GV_tick hG) hN) (by decide) (Nat.le_of_ble_eq_true rfl) ⟨Nat.zero_le _, Nat.zero_le _⟩ (fun v s hq => ?_)
  have hq1 : v = _ := congrArg Prod.fst hq
  have hq2 : s = _ := congrArg Prod.snd hq
  rw [hq1, hq2]
  clear hq1 hq2 hq
  refine x_istore_n (pc := 41) d65_41 (by decide) ?_
  refine x_iload_n (pc := 42) d65_42 rfl ?_
  refine x_iconst (pc := 43) (v := (5)) d65_43 (by decide) ?_
  refine x_icmp_ne (pc := 44) (tgt := 52) d65_44 (by decide) (fun c44 => ?_) (fun c44 => ?_)
  · skip
    refine x_iload_n (pc := 52) d65_52 rfl ?_
    refine x_iconst (pc := 53) (v := (4)) d65_53 (by decide) ?_
    refine x_icmp_eq (pc := 54) (tgt := 67) d65_54 (by decide) (fun c54 => ?_) (fun c54 => ?_)
    · skip
      refine x_iload_n (pc := 67) d65_67 rfl ?_
      exact y_iret (pc := 68) d65_68 rfl (by unfold turnR; rw [if_neg c44]; unfold endR; simp only [if_pos c54])
    · skip
      refine x_aload_n (pc := 57) d65_57 rfl ?_
      refine x_dup (pc := 58) d65_58 rfl ?_
      refine y_geti (pc := 59) d65_59 fk7_65 (shF i hi) rfl ?_
      refine x_iconst (pc := 62) (v := (1)) d65_62 (by decide) ?_
      refine x_iadd (pc := 63) d65_63 ?_
      refine y_puti (pc := 64) d65_64 fk7_65 (shF i hi) rfl rfl ⟨rfl, rfl⟩ ?_
      refine x_iload_n (pc := 67) d65_67 rfl ?_
      exact y_iret (pc := 68) d65_68 rfl (by unfold turnR; rw [if_neg c44]; unfold endR; simp only [if_neg c54])
  · skip
    refine x_aload_n (pc := 47) d65_47 rfl ?_
    refine y_cV0i (pc := 48) d65_48 ml7_61 mv93 (shF i hi) (c_unwind i hi _ (GV_step (GV_tick hG) hN) (hL c44)) (by decide) (Nat.le_of_ble_eq_true rfl) ⟨Nat.zero_le _, Nat.zero_le _⟩ (fun v s hq => ?_)
    have hq1 : v = _ := congrArg Prod.fst hq
    have hq2 : s = _ := congrArg Prod.snd hq
    rw [hq1, hq2]
    clear hq1 hq2 hq
    refine x_istore_n (pc := 51) d65_51 (by decide) ?_
    refine x_iload_n (pc := 52) d65_52 rfl ?_
    refine x_iconst (pc := 53) (v := (4)) d65_53 (by decide) ?_
    refine x_icmp_eq (pc := 54) (tgt := 67) d65_54 (by decide) (fun c54 => ?_) (fun c54 => ?_)
    · skip
      refine x_iload_n (pc := 67) d65_67 rfl ?_
      exact y_iret (pc := 68) d65_68 rfl (by unfold turnR; rw [if_pos c44]; unfold endR; simp only [if_pos c54])
    · skip
      refine x_aload_n (pc := 57) d65_57 rfl ?_
      refine x_dup (pc := 58) d65_58 rfl ?_
      refine y_geti (pc := 59) d65_59 fk7_65 (shF i hi) rfl ?_
      refine x_iconst (pc := 62) (v := (1)) d65_62 (by decide) ?_
      refine x_iadd (pc := 63) d65_63 ?_
      refine y_puti (pc := 64) d65_64 fk7_65 (shF i hi) rfl rfl ⟨rfl, rfl⟩ ?_
      refine x_iload_n (pc := 67) d65_67 rfl ?_
      exact y_iret (pc := 68) d65_68 rfl (by unfold turnR; rw [if_pos c44]; unfold endR; simp only [if_neg c54])
