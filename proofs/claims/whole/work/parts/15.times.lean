/-! times that run out; what a THREAD has to throw on; the shadow -/
def bt1 (s : St) (i k : Nat) : St := if s.1 4 i k = 1 ∧ s.1 70 (pN s i) (oN s i k) ≤ s.1 16 (co i) 0 - s.1 5 i k then appS (si (si s 4 i k 2) 42 i 0 (s.1 42 i 0 - 1)) i 7 (nI k) 0 else s
def btS (i : Nat) : Nat → Nat → St → St
  | 0, _, s => s
  | m + 1, k, s => if s.1 42 i 0 ≤ 0 then s else btS i m (k + 1) (bt1 s i k)
theorem app_id {s : St} {i id : Nat} {x1 x2 : Int32} {x3 : Int64} (h0 : id ≠ 80) (h1 : id ≠ 81) (h2 : id ≠ 82) : (appS s i x1 x2 x3).1 id = s.1 id := by
  funext a c
  unfold appS
  split
  · rfl
  · simp [si_r, sl_1, h0, h1, h2]
theorem bt1_id {s : St} {i k id : Nat} (h0 : id ≠ 80) (h1 : id ≠ 81) (h2 : id ≠ 82) (h3 : id ≠ 4) (h4 : id ≠ 42) : (bt1 s i k).1 id = s.1 id := by
  unfold bt1
  split
  · rw [app_id h0 h1 h2]; funext a c; rw [si_ne (fun z => h4 z.1), si_ne (fun z => h3 z.1)]
  · rfl
theorem GV_bt1 {s : St} {i k : Nat} (h : GV s) (hk : k < 9) : GV (bt1 s i k) := by
  unfold bt1
  split
  · exact GV_app (GV_si (GV_si h (okN_of (q := 2) (by decide))) trivial) (okN_of hk)
  · exact h
theorem dN_1 {s t : St} (i : Nat) (h : t.1 41 = s.1 41) : dN t i = dN s i := by unfold dN; rw [h]
set_option maxRecDepth 100000 in
theorem lp_bring (i : Nat) (hi : i < 7) {Q : St → Prop} : ∀ (m k : Nat) (s : St), k + m = dN s i + 1 → 1 ≤ k → GV s → Q (btS i m k s) → Wp (rmd 1 0 0) 66 (zv Q) 0 0 2 [(1, .int (nI k)), (0, .ref (FA i))] [] (mk s) TT := by
  intro m
  induction m with
  | zero =>
    intro k s hk h1 hG hx
    have hd := hG.D i
    refine x_iload_n (pc := 2) d66_2 rfl ?_
    refine x_aload_n (pc := 3) d66_3 rfl ?_
    refine y_geti (pc := 4) d66_4 fk2_63 (shF i hi) rfl ?_
    refine x_icmp_gt (pc := 7) (tgt := 91) d66_7 (by decide) (fun c7 => ?_) (fun c7 => absurd (by rw [hd.1]; exact nI_lt (by omega) (by have := hd.2; omega)) c7)
    exact y_vret (pc := 91) d66_91 rfl (hx)
  | succ m ih =>
    intro k s hk h1 hG hx
    have hd := hG.D i
    have hd8 := hd.2
    unfold btS at hx
    refine x_iload_n (pc := 2) d66_2 rfl ?_
    refine x_aload_n (pc := 3) d66_3 rfl ?_
    refine y_geti (pc := 4) d66_4 fk2_63 (shF i hi) rfl ?_
    refine x_icmp_gt (pc := 7) (tgt := 91) d66_7 (by decide) (fun c7 => absurd c7 (by rw [hd.1]; exact nI_nlt (by omega) (by omega))) (fun c7 => ?_)
    refine x_aload_n (pc := 10) d66_10 rfl ?_
    refine y_geti (pc := 11) d66_11 fk2_66 (shF i hi) rfl ?_
    refine x_if_le (pc := 14) (tgt := 91) d66_14 (by decide) (fun c14 => ?_) (fun c14 => ?_)
    · skip
      exact y_vret (pc := 91) d66_91 rfl (by rw [if_pos c14] at hx; exact hx)
    · skip
      refine x_aload_n (pc := 17) d66_17 rfl ?_
      refine y_getr (pc := 18) d66_18 fk2_24 (shF i hi) rfl ?_
      refine x_iload_n (pc := 21) d66_21 rfl ?_
      refine y_aaldBN (pc := 22) (q := k) (hq := hi) d66_22 (by omega) (rfl) ?_
      refine x_astore_n (pc := 23) d66_23 (by decide) ?_
      refine x_aload_n (pc := 24) d66_24 rfl ?_
      refine y_geti (pc := 25) d66_25 fk2_115 (shB i hi k (by omega)) rfl ?_
      refine x_iconst (pc := 28) (v := (1)) d66_28 (by decide) ?_
      refine x_icmp_ne (pc := 29) (tgt := 85) d66_29 (by decide) (fun c29 => ?_) (fun c29 => ?_)
      · skip
        refine y_inc (pc := 85) (c := (1)) d66_85 (by decide) (by decide) rfl ?_
        refine x_goto (pc := 88) (tgt := 2) d66_88 (by decide) ?_
        rw [nI_1]
        refine wp_lv (lv' := [(1, .int (nI (k + 1))), (0, .ref (FA i))]) ⟨rfl, rfl, trivial⟩ ?_
        have e9 : bt1 s i k = s := by unfold bt1; rw [if_neg (fun h => c29 h.1)]
        have h9 := ih (k + 1) (bt1 s i k) (by rw [dN_1 i (bt1_id (by decide) (by decide) (by decide) (by decide) (by decide))]; omega) (by omega) (GV_bt1 hG (by omega)) (by rw [if_neg c14] at hx; exact hx)
        rw [e9] at h9
        exact h9
      · skip
        refine x_aload_n (pc := 32) d66_32 rfl ?_
        refine y_getr (pc := 33) d66_33 fk2_32 (shF i hi) rfl ?_
        refine y_geti (pc := 36) d66_36 fk2_118 (shC (co i) (co_lt i)) rfl ?_
        refine x_aload_n (pc := 39) d66_39 rfl ?_
        refine y_geti (pc := 40) d66_40 fk2_121 (shB i hi k (by omega)) rfl ?_
        refine x_isub (pc := 43) d66_43 ?_
        refine x_aload_n (pc := 44) d66_44 rfl ?_
        refine y_getp (pc := 45) (p := pN s i) d66_45 fk2_36 (shF i hi) rfl ((hG.P i).1) ((hG.P i).2) ?_
        refine y_getr (pc := 48) d66_48 fk2_146 (shP (pN s i) ((hG.P i).2)) rfl ?_
        refine x_aload_n (pc := 51) d66_51 rfl ?_
        refine y_geti (pc := 52) d66_52 fk2_124 (shB i hi k (by omega)) rfl ?_
        refine y_ialdN (pc := 55) (q := oN s i k) d66_55 (shP3 (pN s i) ((hG.P i).2)) ((hG.O i k (by omega)).2) (by decide) ((hG.O i k (by omega)).1) ?_
        refine x_icmp_lt (pc := 56) (tgt := 85) d66_56 (by decide) (fun c56 => ?_) (fun c56 => ?_)
        · skip
          refine y_inc (pc := 85) (c := (1)) d66_85 (by decide) (by decide) rfl ?_
          refine x_goto (pc := 88) (tgt := 2) d66_88 (by decide) ?_
          rw [nI_1]
          refine wp_lv (lv' := [(1, .int (nI (k + 1))), (0, .ref (FA i))]) ⟨rfl, rfl, trivial⟩ ?_
          have e9 : bt1 s i k = s := by unfold bt1; rw [if_neg (fun h => absurd c56 (Int32.not_lt.mpr h.2))]
          have h9 := ih (k + 1) (bt1 s i k) (by rw [dN_1 i (bt1_id (by decide) (by decide) (by decide) (by decide) (by decide))]; omega) (by omega) (GV_bt1 hG (by omega)) (by rw [if_neg c14] at hx; exact hx)
          rw [e9] at h9
          exact h9
        · skip
          refine x_aload_n (pc := 59) d66_59 rfl ?_
          refine x_iconst (pc := 60) (v := (2)) d66_60 (by decide) ?_
          refine y_puti (pc := 61) d66_61 fk2_115 (shB i hi k (by omega)) rfl rfl ⟨rfl, rfl⟩ ?_
          refine x_aload_n (pc := 64) d66_64 rfl ?_
          refine x_dup (pc := 65) d66_65 rfl ?_
          refine y_geti (pc := 66) d66_66 fk2_66 (shF i hi) rfl ?_
          refine x_iconst (pc := 69) (v := (1)) d66_69 (by decide) ?_
          refine x_isub (pc := 70) d66_70 ?_
          refine y_puti (pc := 71) d66_71 fk2_66 (shF i hi) rfl rfl ⟨rfl, rfl⟩ ?_
          rw [show (si s 4 i k 2).1 42 i 0 = s.1 42 i 0 by simp [si_r]]
          refine x_aload_n (pc := 74) d66_74 rfl ?_
          refine y_getr (pc := 75) d66_75 fk2_12 (shF i hi) rfl ?_
          refine x_bipush (pc := 78) (v := (7)) d66_78 (by decide) ?_
          refine x_iload_n (pc := 80) d66_80 rfl ?_
          refine x_lconst (pc := 81) (v := (0)) d66_81 (by decide) ?_
          refine y_cV3v (pc := 82) d66_82 ml2_149 mv67 (shR i hi) (c_append i hi _ _ _ _ (by have h := (GV_si (GV_si (o := i) (e := k) hG (okN_of (q := 2) (n := 3) (by decide) : val 4 k 2)) (trivial : val 42 0 _) : GV (si (si s 4 i k 2) 42 i 0 (s.1 42 i 0 - 1))).C i; rw [h.1]; exact nI_pos (by have := h.2; omega))) (by decide) (Nat.le_of_ble_eq_true rfl) ⟨Nat.zero_le _, Nat.zero_le _⟩ (fun s hq => ?_)
          subst hq
          refine y_inc (pc := 85) (c := (1)) d66_85 (by decide) (by decide) rfl ?_
          refine x_goto (pc := 88) (tgt := 2) d66_88 (by decide) ?_
          rw [nI_1]
          refine wp_lv (lv' := [(1, .int (nI (k + 1))), (0, .ref (FA i))]) ⟨rfl, rfl, trivial⟩ ?_
          have e9 : bt1 s i k = appS (si (si s 4 i k 2) 42 i 0 (s.1 42 i 0 - 1)) i 7 (nI k) 0 := by unfold bt1; rw [if_pos ⟨c29, Int32.not_lt.mp c56⟩]
          have h9 := ih (k + 1) (bt1 s i k) (by rw [dN_1 i (bt1_id (by decide) (by decide) (by decide) (by decide) (by decide))]; omega) (by omega) (GV_bt1 hG (by omega)) (by rw [if_neg c14] at hx; exact hx)
          rw [e9] at h9
          exact h9
def bringS (s : St) (i : Nat) : St := btS i (dN s i) 1 s
set_option maxRecDepth 100000 in
theorem c_bring (i : Nat) (hi : i < 7) (s : St) (hG : GV s) : Rv 1 66 [.ref (FA i)] s (fun s1 => s1 = bringS s i) := by
  refine ct_of (by decide +kernel) (Nat.le_of_ble_eq_true rfl) ?_
  show Wp _ _ _ _ _ _ [(0, .ref (FA i))] _ _ _
  refine x_iconst (pc := 0) (v := (1)) d66_0 (by decide) ?_
  refine x_istore_n (pc := 1) d66_1 (by decide) ?_
  exact lp_bring i hi (dN s i) 1 s (by omega) (by omega) hG rfl
theorem GV_btS (i : Nat) : ∀ m k s, k + m ≤ 9 → GV s → GV (btS i m k s)
  | 0, _, _, _, h => h
  | m + 1, k, s, hk, h => by
    unfold btS
    split
    · exact h
    · exact GV_btS i m (k + 1) _ (by omega) (GV_bt1 h (by omega))
theorem GV_bring {s : St} {i : Nat} (h : GV s) : GV (bringS s i) := GV_btS i _ 1 s (by have := (h.D i).2; omega) h
def hvS (s : St) (i : Nat) : Nat → Nat → Int32
  | 0, _ => 0
  | m + 1, k => if s.1 6 i k = 0 then hvS s i m (k + 1) else 1
set_option maxRecDepth 100000 in
theorem lp_holds (i : Nat) (hi : i < 7) (s : St) (hG : GV s) : ∀ (m k : Nat), k + m = dN s i + 1 → Wp (rmd 0 0 0) 104 (zi (fun v s1 => v = hvS s i m k ∧ s1 = s)) 0 0 2 [(1, .int (nI k)), (0, .ref (FA i))] [] (mk s) TT := by
  have hd := hG.D i
  have hd8 := hd.2
  intro m
  induction m with
  | zero =>
    intro k hk
    refine x_iload_n (pc := 2) d104_2 rfl ?_
    refine x_aload_n (pc := 3) d104_3 rfl ?_
    refine y_geti (pc := 4) d104_4 fk2_63 (shF i hi) rfl ?_
    refine x_icmp_gt (pc := 7) (tgt := 30) d104_7 (by decide) (fun c7 => ?_) (fun c7 => absurd (by rw [hd.1]; exact nI_lt (by omega) (by omega)) c7)
    refine x_iconst (pc := 30) (v := (0)) d104_30 (by decide) ?_
    exact y_zret (pc := 31) d104_31 rfl (by first | exact Or.inl rfl | exact Or.inr rfl) (⟨rfl, rfl⟩)
  | succ m ih =>
    intro k hk
    refine x_iload_n (pc := 2) d104_2 rfl ?_
    refine x_aload_n (pc := 3) d104_3 rfl ?_
    refine y_geti (pc := 4) d104_4 fk2_63 (shF i hi) rfl ?_
    refine x_icmp_gt (pc := 7) (tgt := 30) d104_7 (by decide) (fun c7 => absurd c7 (by rw [hd.1]; exact nI_nlt (by omega) (by omega))) (fun c7 => ?_)
    refine x_aload_n (pc := 10) d104_10 rfl ?_
    refine y_getr (pc := 11) d104_11 fk2_24 (shF i hi) rfl ?_
    refine x_iload_n (pc := 14) d104_14 rfl ?_
    refine y_aaldBN (pc := 15) (q := k) (hq := hi) d104_15 (by omega) (rfl) ?_
    refine y_geti (pc := 16) d104_16 fk2_94 (shB i hi k (by omega)) rfl ?_
    refine x_if_eq (pc := 19) (tgt := 24) d104_19 (by decide) (fun c19 => ?_) (fun c19 => ?_)
    · skip
      refine y_inc (pc := 24) (c := (1)) d104_24 (by decide) (by decide) rfl ?_
      refine x_goto (pc := 27) (tgt := 2) d104_27 (by decide) ?_
      rw [nI_1]
      have h9 := ih (k + 1) (by omega)
      unfold hvS
      rw [if_pos c19]
      exact h9
    · skip
      refine x_iconst (pc := 22) (v := (1)) d104_22 (by decide) ?_
      exact y_zret (pc := 23) d104_23 rfl (by first | exact Or.inl rfl | exact Or.inr rfl) (⟨by unfold hvS; rw [if_neg c19], rfl⟩)
set_option maxRecDepth 100000 in
theorem c_holds (i : Nat) (hi : i < 7) (s : St) (hG : GV s) : Ri 0 104 [.ref (FA i)] s (fun v s1 => v = hvS s i (dN s i) 1 ∧ s1 = s) := by
  refine ct_of (by decide +kernel) (Nat.le_of_ble_eq_true rfl) ?_
  show Wp _ _ _ _ _ _ [(0, .ref (FA i))] _ _ _
  refine x_iconst (pc := 0) (v := (1)) d104_0 (by decide) ?_
  refine x_istore_n (pc := 1) d104_1 (by decide) ?_
  exact lp_holds i hi s hG (dN s i) 1 (by omega)
def rmi1 (i i2 k : Nat) (s : St) : St := sl (si (si s 81 i k (s.1 81 i2 k)) 82 i k (s.1 82 i2 k)) 83 i k (s.2 83 i2 k)
def rmiS (i i2 : Nat) : Nat → Nat → St → St
  | 0, _, s => s
  | m + 1, k, s => rmiS i i2 m (k + 1) (rmi1 i i2 k s)
def rowMirS (s : St) (i i2 : Nat) : St := rmiS i i2 (cN s i2) 0 (si s 80 i 0 (s.1 80 i2 0))
set_option maxRecDepth 100000 in
theorem lp_rowMir (i i2 : Nat) (hi : i < 7) (hi2 : i2 < 7) {Q : St → Prop} (c : Nat) (hc : c ≤ 22) : ∀ (m k : Nat) (s : St), k + m = c → s.1 80 i 0 = nI c → Q (rmiS i i2 m k s) → Wp (rmd 0 0 0) 114 (zv Q) 0 0 10 [(2, .int (nI k)), (0, .ref (RW i)), (1, .ref (RW i2))] [] (mk s) TT := by
  intro m
  induction m with
  | zero =>
    intro k s hk h80 hx
    refine x_iload_n (pc := 10) d114_10 rfl ?_
    refine x_aload_n (pc := 11) d114_11 rfl ?_
    refine y_geti (pc := 12) d114_12 fk5_22 (shR i hi) rfl ?_
    refine x_icmp_ge (pc := 15) (tgt := 60) d114_15 (by decide) (fun c15 => ?_) (fun c15 => absurd (by rw [h80]; exact nI_le (by omega) (by omega)) c15)
    exact y_vret (pc := 60) d114_60 rfl (hx)
  | succ m ih =>
    intro k s hk h80 hx
    unfold rmiS at hx
    refine x_iload_n (pc := 10) d114_10 rfl ?_
    refine x_aload_n (pc := 11) d114_11 rfl ?_
    refine y_geti (pc := 12) d114_12 fk5_22 (shR i hi) rfl ?_
    refine x_icmp_ge (pc := 15) (tgt := 60) d114_15 (by decide) (fun c15 => absurd c15 (by rw [h80]; exact nI_ge (by omega) (by omega))) (fun c15 => ?_)
    refine x_aload_n (pc := 18) d114_18 rfl ?_
    refine y_getr (pc := 19) d114_19 fk5_9 (shR i hi) rfl ?_
    refine x_iload_n (pc := 22) d114_22 rfl ?_
    refine x_aload_n (pc := 23) d114_23 rfl ?_
    refine y_getr (pc := 24) d114_24 fk5_9 (shR i2 hi2) rfl ?_
    refine x_iload_n (pc := 27) d114_27 rfl ?_
    refine y_ialdN (pc := 28) (q := k) d114_28 (shR1 i2 hi2) (by omega) (by decide) (rfl) ?_
    refine y_iastN (pc := 29) (q := k) d114_29 (shR1 i hi) (by omega) (by decide) (rfl) ?_
    refine x_aload_n (pc := 30) d114_30 rfl ?_
    refine y_getr (pc := 31) d114_31 fk5_15 (shR i hi) rfl ?_
    refine x_iload_n (pc := 34) d114_34 rfl ?_
    refine x_aload_n (pc := 35) d114_35 rfl ?_
    refine y_getr (pc := 36) d114_36 fk5_15 (shR i2 hi2) rfl ?_
    refine x_iload_n (pc := 39) d114_39 rfl ?_
    refine y_ialdN (pc := 40) (q := k) d114_40 (shR2 i2 hi2) (by omega) (by decide) (rfl) ?_
    refine y_iastN (pc := 41) (q := k) d114_41 (shR2 i hi) (by omega) (by decide) (rfl) ?_
    refine x_aload_n (pc := 42) d114_42 rfl ?_
    refine y_getr (pc := 43) d114_43 fk5_18 (shR i hi) rfl ?_
    refine x_iload_n (pc := 46) d114_46 rfl ?_
    refine x_aload_n (pc := 47) d114_47 rfl ?_
    refine y_getr (pc := 48) d114_48 fk5_18 (shR i2 hi2) rfl ?_
    refine x_iload_n (pc := 51) d114_51 rfl ?_
    refine y_laldN (pc := 52) (q := k) d114_52 (shR3 i2 hi2) (by omega) (by decide) (rfl) ?_
    refine y_lastN (pc := 53) (q := k) d114_53 (shR3 i hi) (by omega) (by decide) (rfl) ?_
    refine y_inc (pc := 54) (c := (1)) d114_54 (by decide) (by decide) rfl ?_
    refine x_goto (pc := 57) (tgt := 10) d114_57 (by decide) ?_
    rw [nI_1]
    refine wp_lv (lv' := [(2, .int (nI (k + 1))), (0, .ref (RW i)), (1, .ref (RW i2))]) ⟨rfl, rfl, rfl, trivial⟩ ?_
    have h9 := ih (k + 1) (rmi1 i i2 k s) (by omega) (by simpa [rmi1, sl_1, si_r] using h80) hx
    unfold rmi1 at h9
    simp only [si_r, sl_1, si_2] at h9 ⊢
    simpa using h9
set_option maxRecDepth 100000 in
theorem c_rowMir (i i2 : Nat) (hi : i < 7) (hi2 : i2 < 7) (s : St) (hG : GV s) : Rv 0 114 [.ref (RW i), .ref (RW i2)] s (fun s1 => s1 = rowMirS s i i2) := by
  refine ct_of (by decide +kernel) (Nat.le_of_ble_eq_true rfl) ?_
  show Wp _ _ _ _ _ _ [(0, .ref (RW i)), (1, .ref (RW i2))] _ _ _
  refine x_aload_n (pc := 0) d114_0 rfl ?_
  refine x_aload_n (pc := 1) d114_1 rfl ?_
  refine y_geti (pc := 2) d114_2 fk5_22 (shR i2 hi2) rfl ?_
  refine y_puti (pc := 5) d114_5 fk5_22 (shR i hi) rfl rfl ⟨rfl, rfl⟩ ?_
  refine x_iconst (pc := 8) (v := (0)) d114_8 (by decide) ?_
  refine x_istore_n (pc := 9) d114_9 (by decide) ?_
  refine wp_lv (lv' := [(2, .int (nI 0)), (0, .ref (RW i)), (1, .ref (RW i2))]) ⟨rfl, rfl, rfl, trivial⟩ ?_
  exact lp_rowMir i i2 hi hi2 (cN s i2) (hG.C i2).2 (cN s i2) 0 _ (by omega) (by rw [si_eq]; exact (hG.C i2).1) rfl
