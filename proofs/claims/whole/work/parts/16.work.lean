/-! exps worked -/
def joinV (x : Int32) (y z : Int64) : Int64 := if x = 42 then y * z else if x = 43 then y + z else if x = 45 then y - z else if x = 60 then (if y < z then 1 else 0) else if x = 61 then (if y = z then 1 else 0) else (if y = z then 0 else 1)
set_option maxRecDepth 100000 in
theorem c_joined (s : St) (x : Int32) (y z : Int64) : Rj 0 86 [.int x, .long y, .long z] s (fun v s1 => v = joinV x y z ∧ s1 = s) := by
  refine ct_of (by decide +kernel) (Nat.le_of_ble_eq_true rfl) ?_
  show Wp _ _ _ _ _ _ [(0, .int x), (1, .long y), (3, .long z)] _ _ _
  refine x_iload_n (pc := 0) d86_0 rfl ?_
  by_cases hk42 : x = 42
  · refine x_lookup (pc := 1) (tgt := 60) (off := 59) d86_1 (by decide) (by rw [hk42]; decide) (by decide) ?_
    refine x_lload_n (pc := 60) d86_60 rfl ?_
    refine x_lload_n (pc := 61) d86_61 rfl ?_
    refine x_lmul (pc := 62) d86_62 ?_
    exact y_lret (pc := 63) d86_63 rfl (⟨by unfold joinV; simp only [if_pos hk42], rfl⟩)
  by_cases hk43 : x = 43
  · refine x_lookup (pc := 1) (tgt := 52) (off := 51) d86_1 (by decide) (by rw [hk43]; decide) (by decide) ?_
    refine x_lload_n (pc := 52) d86_52 rfl ?_
    refine x_lload_n (pc := 53) d86_53 rfl ?_
    refine x_ladd (pc := 54) d86_54 ?_
    exact y_lret (pc := 55) d86_55 rfl (⟨by unfold joinV; simp only [if_neg hk42, if_pos hk43], rfl⟩)
  by_cases hk45 : x = 45
  · refine x_lookup (pc := 1) (tgt := 56) (off := 55) d86_1 (by decide) (by rw [hk45]; decide) (by decide) ?_
    refine x_lload_n (pc := 56) d86_56 rfl ?_
    refine x_lload_n (pc := 57) d86_57 rfl ?_
    refine x_lsub (pc := 58) d86_58 ?_
    exact y_lret (pc := 59) d86_59 rfl (⟨by unfold joinV; simp only [if_neg hk42, if_neg hk43, if_pos hk45], rfl⟩)
  by_cases hk60 : x = 60
  · refine x_lookup (pc := 1) (tgt := 64) (off := 63) d86_1 (by decide) (by rw [hk60]; decide) (by decide) ?_
    refine x_lload_n (pc := 64) d86_64 rfl ?_
    refine x_lload_n (pc := 65) d86_65 rfl ?_
    refine y_lif_ge (pc := 66) (tgt := 74) d86_66 d86_67 (by decide) (fun c66 => ?_) (fun c66 => ?_)
    · skip
      refine x_lconst (pc := 74) (v := (0)) d86_74 (by decide) ?_
      exact y_lret (pc := 75) d86_75 rfl (⟨by unfold joinV; simp only [if_neg hk42, if_neg hk43, if_neg hk45, if_pos hk60]; rw [if_neg c66], rfl⟩)
    · skip
      refine x_lconst (pc := 70) (v := (1)) d86_70 (by decide) ?_
      refine x_goto (pc := 71) (tgt := 75) d86_71 (by decide) ?_
      exact y_lret (pc := 75) d86_75 rfl (⟨by unfold joinV; simp only [if_neg hk42, if_neg hk43, if_neg hk45, if_pos hk60]; rw [if_pos c66], rfl⟩)
  by_cases hk61 : x = 61
  · refine x_lookup (pc := 1) (tgt := 76) (off := 75) d86_1 (by decide) (by rw [hk61]; decide) (by decide) ?_
    refine x_lload_n (pc := 76) d86_76 rfl ?_
    refine x_lload_n (pc := 77) d86_77 rfl ?_
    refine y_lif_ne (pc := 78) (tgt := 86) d86_78 d86_79 (by decide) (fun c78 => ?_) (fun c78 => ?_)
    · skip
      refine x_lconst (pc := 86) (v := (0)) d86_86 (by decide) ?_
      exact y_lret (pc := 87) d86_87 rfl (⟨by unfold joinV; simp only [if_neg hk42, if_neg hk43, if_neg hk45, if_neg hk60, if_pos hk61]; rw [if_neg c78], rfl⟩)
    · skip
      refine x_lconst (pc := 82) (v := (1)) d86_82 (by decide) ?_
      refine x_goto (pc := 83) (tgt := 87) d86_83 (by decide) ?_
      exact y_lret (pc := 87) d86_87 rfl (⟨by unfold joinV; simp only [if_neg hk42, if_neg hk43, if_neg hk45, if_neg hk60, if_pos hk61]; rw [if_pos c78], rfl⟩)
  refine x_lookup (pc := 1) (tgt := 88) (off := 87) d86_1 (by decide) (show Op.lookupswitch.offset [(42, 59), (43, 51), (45, 55), (60, 63), (61, 75)] _ _ = _ by rw [lv_osw hk42 (by decide), lv_osw hk43 (by decide), lv_osw hk45 (by decide), lv_osw hk60 (by decide), lv_osw hk61 (by decide)]; rfl) (by decide) ?_
  refine x_lload_n (pc := 88) d86_88 rfl ?_
  refine x_lload_n (pc := 89) d86_89 rfl ?_
  refine y_lif_eq (pc := 90) (tgt := 98) d86_90 d86_91 (by decide) (fun c90 => ?_) (fun c90 => ?_)
  · skip
    refine x_lconst (pc := 98) (v := (0)) d86_98 (by decide) ?_
    exact y_lret (pc := 99) d86_99 rfl (⟨by unfold joinV; simp only [if_neg hk42, if_neg hk43, if_neg hk45, if_neg hk60, if_neg hk61]; rw [if_pos c90], rfl⟩)
  · skip
    refine x_lconst (pc := 94) (v := (1)) d86_94 (by decide) ?_
    refine x_goto (pc := 95) (tgt := 99) d86_95 (by decide) ?_
    exact y_lret (pc := 99) d86_99 rfl (⟨by unfold joinV; simp only [if_neg hk42, if_neg hk43, if_neg hk45, if_neg hk60, if_neg hk61]; rw [if_neg c90], rfl⟩)
def wk1 (p i k n : Nat) (s : St) : St := if s.1 75 p k = 4 then sl s 77 p n (s.1 76 p k).toInt64 else if s.1 75 p k = 2 then sl s 77 p n (s.2 34 i (s.1 76 p k).toNatClampNeg) else if s.1 75 p k = 24 then sl s 77 p (n - 1) (-(s.2 77 p (n - 1))) else sl s 77 p (n - 2) (joinV (s.1 75 p k) (s.2 77 p (n - 2)) (s.2 77 p (n - 1)))
def wkn (p k n : Nat) (s : St) : Nat := if s.1 75 p k = 4 then n + 1 else if s.1 75 p k = 2 then n + 1 else if s.1 75 p k = 24 then n else n - 1
def wkS (p i : Nat) : Nat → Nat → Nat → St → St
  | 0, _, _, s => s
  | m + 1, k, n, s => wkS p i m (k + 1) (wkn p k n s) (wk1 p i k n s)
def evOK (s : St) (p : Nat) : Nat → Nat → Nat → Prop
  | 0, _, n => n = 1
  | m + 1, k, n => ((s.1 75 p k = 4 ∨ s.1 75 p k = 2) → n < 60) ∧ (s.1 75 p k = 2 → okN 10 (s.1 76 p k)) ∧ (s.1 75 p k = 24 → 1 ≤ n ∧ n ≤ 60) ∧ ((¬ s.1 75 p k = 4 ∧ ¬ s.1 75 p k = 2 ∧ ¬ s.1 75 p k = 24) → 2 ≤ n ∧ n ≤ 60) ∧ evOK s p m (k + 1) (wkn p k n s)
theorem evOK_1 {s t : St} (p : Nat) (e : t.1 = s.1) : ∀ m k n, evOK s p m k n → evOK t p m k n
  | 0, _, _, h => h
  | m + 1, k, n, h => by
    unfold evOK wkn at *
    rw [e]
    exact ⟨h.1, h.2.1, h.2.2.1, h.2.2.2.1, evOK_1 p e m _ _ h.2.2.2.2⟩
theorem wk1_1 (p i k n : Nat) (s : St) : (wk1 p i k n s).1 = s.1 := by
  unfold wk1
  split
  · rfl
  · split
    · rfl
    · split <;> rfl
theorem wkS_1 (p i : Nat) : ∀ m k n s, (wkS p i m k n s).1 = s.1
  | 0, _, _, _ => rfl
  | m + 1, k, n, s => (wkS_1 p i m _ _ _).trans (wk1_1 p i k n s)
/-- the number under n, as the class counts -/
def tp (n : Nat) : Int32 := nI n - 1
theorem tp_1 (n : Nat) : tp n + 1 = nI n := by unfold tp; exact Int32.sub_add_cancel _ _
theorem tp_s (n : Nat) : tp (n + 1) = nI n := nI_pred n
set_option maxRecDepth 100000 in
theorem lp_work (p : Nat) (hp : p < 13) (i : Nat) (hi : i < 7) (a : Nat) (ha : a < 40) (t : Nat) (ht : t ≤ 120) {Q : Int64 → St → Prop} : ∀ (m k n : Nat) (s : St), k + m = t → s.1 72 p a = nI t → evOK s p m k n → Q ((wkS p i m k n s).2 77 p 0) (wkS p i m k n s) → Wp (rmd 1 0 0) 85 (zj Q) 0 0 10 [(4, .int (nI k)), (3, .int (tp n)), (0, .ref (PA p)), (1, .int (nI a)), (2, .ref (RW i + 4))] [] (mk s) TT := by
  intro m
  induction m with
  | zero =>
    intro k n s hk h72 hev hx
    refine x_iload (pc := 10) d85_10 rfl ?_
    refine x_aload_n (pc := 12) d85_12 rfl ?_
    refine y_getr (pc := 13) d85_13 fk4_24 (shP p hp) rfl ?_
    refine x_iload_n (pc := 16) d85_16 rfl ?_
    refine y_ialdN (pc := 17) (q := a) d85_17 (shP5 p hp) (ha) (by decide) (rfl) ?_
    refine x_icmp_ge (pc := 18) (tgt := 140) d85_18 (by decide) (fun c18 => ?_) (fun c18 => absurd (by rw [h72]; exact nI_le (by omega) (by omega)) c18)
    refine x_aload_n (pc := 140) d85_140 rfl ?_
    refine y_getr (pc := 141) d85_141 fk4_39 (shP p hp) rfl ?_
    refine x_iconst (pc := 144) (v := (0)) d85_144 (by decide) ?_
    refine y_laldN (pc := 145) (q := 0) d85_145 (shP10 p hp) (by omega) (by decide) (rfl) ?_
    exact y_lret (pc := 146) d85_146 rfl (hx)
  | succ m ih =>
    intro k n s hk h72 hev hx
    unfold evOK at hev
    obtain ⟨e1, e2, e3, e4, e5⟩ := hev
    unfold wkS at hx
    refine x_iload (pc := 10) d85_10 rfl ?_
    refine x_aload_n (pc := 12) d85_12 rfl ?_
    refine y_getr (pc := 13) d85_13 fk4_24 (shP p hp) rfl ?_
    refine x_iload_n (pc := 16) d85_16 rfl ?_
    refine y_ialdN (pc := 17) (q := a) d85_17 (shP5 p hp) (ha) (by decide) (rfl) ?_
    refine x_icmp_ge (pc := 18) (tgt := 140) d85_18 (by decide) (fun c18 => absurd c18 (by rw [h72]; exact nI_ge (by omega) (by omega))) (fun c18 => ?_)
    refine x_aload_n (pc := 21) d85_21 rfl ?_
    refine y_getr (pc := 22) d85_22 fk4_33 (shP p hp) rfl ?_
    refine x_iload (pc := 25) d85_25 rfl ?_
    refine y_ialdN (pc := 27) (q := k) d85_27 (shP8 p hp) (by omega) (by decide) (rfl) ?_
    refine x_istore (pc := 28) d85_28 (by decide) ?_
    refine x_iload (pc := 30) d85_30 rfl ?_
    refine x_iconst (pc := 32) (v := (4)) d85_32 (by decide) ?_
    refine x_icmp_ne (pc := 33) (tgt := 56) d85_33 (by decide) (fun c33 => ?_) (fun c33 => ?_)
    · skip
      refine x_iload (pc := 56) d85_56 rfl ?_
      refine x_iconst (pc := 58) (v := (2)) d85_58 (by decide) ?_
      refine x_icmp_ne (pc := 59) (tgt := 83) d85_59 (by decide) (fun c59 => ?_) (fun c59 => ?_)
      · skip
        refine x_iload (pc := 83) d85_83 rfl ?_
        refine x_bipush (pc := 85) (v := (24)) d85_85 (by decide) ?_
        refine x_icmp_ne (pc := 87) (tgt := 106) d85_87 (by decide) (fun c87 => ?_) (fun c87 => ?_)
        · skip
          obtain ⟨n, rfl⟩ : ∃ z, n = z + 2 := ⟨n - 2, by have := (e4 ⟨c33, c59, c87⟩).1; omega⟩
          rw [tp_s]
          refine y_inc (pc := 106) (c := (-1)) d85_106 (by decide) (by decide) rfl ?_
          rw [pk_m1]
          refine x_aload_n (pc := 109) d85_109 rfl ?_
          refine y_getr (pc := 110) d85_110 fk4_39 (shP p hp) rfl ?_
          refine x_iload_n (pc := 113) d85_113 rfl ?_
          refine x_iload (pc := 114) d85_114 rfl ?_
          refine x_aload_n (pc := 116) d85_116 rfl ?_
          refine y_getr (pc := 117) d85_117 fk4_39 (shP p hp) rfl ?_
          refine x_iload_n (pc := 120) d85_120 rfl ?_
          refine y_laldN (pc := 121) (q := n) d85_121 (shP10 p hp) (by have := (e4 ⟨c33, c59, c87⟩).2; omega) (by decide) (rfl) ?_
          refine x_aload_n (pc := 122) d85_122 rfl ?_
          refine y_getr (pc := 123) d85_123 fk4_39 (shP p hp) rfl ?_
          refine x_iload_n (pc := 126) d85_126 rfl ?_
          refine x_iconst (pc := 127) (v := (1)) d85_127 (by decide) ?_
          refine x_iadd (pc := 128) d85_128 ?_
          refine y_laldN (pc := 129) (q := n + 1) d85_129 (shP10 p hp) (by have := (e4 ⟨c33, c59, c87⟩).2; omega) (by decide) (nI_1 n) ?_
          refine y_cS3j (pc := 130) d85_130 ml4_56 mv86 (c_joined _ _ _ _) (by decide) (Nat.le_of_ble_eq_true rfl) ⟨Nat.zero_le _, Nat.zero_le _⟩ (fun v s hq => ?_)
          obtain ⟨rfl, rfl⟩ := hq
          refine y_lastN (pc := 133) (q := n) d85_133 (shP10 p hp) (by have := (e4 ⟨c33, c59, c87⟩).2; omega) (by decide) (rfl) ?_
          refine y_inc (pc := 134) (c := (1)) d85_134 (by decide) (by decide) rfl ?_
          refine x_goto (pc := 137) (tgt := 10) d85_137 (by decide) ?_
          rw [nI_1]
          rw [show nI n = tp (n + 1) from (tp_s n).symm]
          refine wp_lv (lv' := [(4, .int (nI (k + 1))), (3, .int (tp (n + 1))), (0, .ref (PA p)), (1, .int (nI a)), (2, .ref (RW i + 4))]) ⟨rfl, rfl, rfl, rfl, rfl, trivial⟩ ?_
          have en : wkn p k (n + 2) s = n + 1 := by unfold wkn; rw [if_neg c33, if_neg c59, if_neg c87]; rfl
          rw [en] at e5 hx
          have h9 := ih (k + 1) _ (wk1 p i k (n + 2) s) (by omega) (by rw [wk1_1]; exact h72) (evOK_1 p (wk1_1 p i k (n + 2) s) m _ _ e5) hx
          unfold wk1 at h9
          rw [if_neg c33, if_neg c59, if_neg c87] at h9
          exact h9
        · skip
          obtain ⟨n, rfl⟩ : ∃ z, n = z + 1 := ⟨n - 1, by have := (e3 c87).1; omega⟩
          rw [tp_s]
          refine x_aload_n (pc := 90) d85_90 rfl ?_
          refine y_getr (pc := 91) d85_91 fk4_39 (shP p hp) rfl ?_
          refine x_iload_n (pc := 94) d85_94 rfl ?_
          refine x_aload_n (pc := 95) d85_95 rfl ?_
          refine y_getr (pc := 96) d85_96 fk4_39 (shP p hp) rfl ?_
          refine x_iload_n (pc := 99) d85_99 rfl ?_
          refine y_laldN (pc := 100) (q := n) d85_100 (shP10 p hp) (by have := (e3 c87).2; omega) (by decide) (rfl) ?_
          refine x_lneg (pc := 101) d85_101 ?_
          refine y_lastN (pc := 102) (q := n) d85_102 (shP10 p hp) (by have := (e3 c87).2; omega) (by decide) (rfl) ?_
          refine x_goto (pc := 103) (tgt := 134) d85_103 (by decide) ?_
          refine y_inc (pc := 134) (c := (1)) d85_134 (by decide) (by decide) rfl ?_
          refine x_goto (pc := 137) (tgt := 10) d85_137 (by decide) ?_
          rw [nI_1]
          rw [show nI n = tp (n + 1) from (tp_s n).symm]
          refine wp_lv (lv' := [(4, .int (nI (k + 1))), (3, .int (tp (n + 1))), (0, .ref (PA p)), (1, .int (nI a)), (2, .ref (RW i + 4))]) ⟨rfl, rfl, rfl, rfl, rfl, trivial⟩ ?_
          have en : wkn p k (n + 1) s = n + 1 := by unfold wkn; rw [if_neg c33, if_neg c59, if_pos c87]
          rw [en] at e5 hx
          have h9 := ih (k + 1) _ (wk1 p i k (n + 1) s) (by omega) (by rw [wk1_1]; exact h72) (evOK_1 p (wk1_1 p i k (n + 1) s) m _ _ e5) hx
          unfold wk1 at h9
          rw [if_neg c33, if_neg c59, if_pos c87, Nat.add_sub_cancel] at h9
          exact h9
      · skip
        refine y_inc (pc := 62) (c := (1)) d85_62 (by decide) (by decide) rfl ?_
        refine x_aload_n (pc := 65) d85_65 rfl ?_
        refine y_getr (pc := 66) d85_66 fk4_39 (shP p hp) rfl ?_
        refine x_iload_n (pc := 69) d85_69 rfl ?_
        refine x_aload_n (pc := 70) d85_70 rfl ?_
        refine x_aload_n (pc := 71) d85_71 rfl ?_
        refine y_getr (pc := 72) d85_72 fk4_36 (shP p hp) rfl ?_
        refine x_iload (pc := 75) d85_75 rfl ?_
        refine y_ialdN (pc := 77) (q := k) d85_77 (shP9 p hp) (by omega) (by decide) (rfl) ?_
        refine y_laldN (pc := 78) (q := (s.1 76 p k).toNatClampNeg) d85_78 (shR4 i hi) ((okN_c (by decide) (e2 c59)).2) (by decide) ((okN_c (by decide) (e2 c59)).1) ?_
        refine y_lastN (pc := 79) (q := n) d85_79 (shP10 p hp) (e1 (Or.inr c59)) (by decide) (tp_1 n) ?_
        refine x_goto (pc := 80) (tgt := 134) d85_80 (by decide) ?_
        refine y_inc (pc := 134) (c := (1)) d85_134 (by decide) (by decide) rfl ?_
        refine x_goto (pc := 137) (tgt := 10) d85_137 (by decide) ?_
        rw [nI_1]
        rw [tp_1, show nI n = tp (n + 1) from (tp_s n).symm]
        refine wp_lv (lv' := [(4, .int (nI (k + 1))), (3, .int (tp (n + 1))), (0, .ref (PA p)), (1, .int (nI a)), (2, .ref (RW i + 4))]) ⟨rfl, rfl, rfl, rfl, rfl, trivial⟩ ?_
        have en : wkn p k n s = n + 1 := by unfold wkn; rw [if_neg c33, if_pos c59]
        rw [en] at e5 hx
        have h9 := ih (k + 1) _ (wk1 p i k n s) (by omega) (by rw [wk1_1]; exact h72) (evOK_1 p (wk1_1 p i k n s) m _ _ e5) hx
        unfold wk1 at h9
        rw [if_neg c33, if_pos c59] at h9
        exact h9
    · skip
      refine y_inc (pc := 36) (c := (1)) d85_36 (by decide) (by decide) rfl ?_
      refine x_aload_n (pc := 39) d85_39 rfl ?_
      refine y_getr (pc := 40) d85_40 fk4_39 (shP p hp) rfl ?_
      refine x_iload_n (pc := 43) d85_43 rfl ?_
      refine x_aload_n (pc := 44) d85_44 rfl ?_
      refine y_getr (pc := 45) d85_45 fk4_36 (shP p hp) rfl ?_
      refine x_iload (pc := 48) d85_48 rfl ?_
      refine y_ialdN (pc := 50) (q := k) d85_50 (shP9 p hp) (by omega) (by decide) (rfl) ?_
      refine x_i2l (pc := 51) d85_51 ?_
      refine y_lastN (pc := 52) (q := n) d85_52 (shP10 p hp) (e1 (Or.inl c33)) (by decide) (tp_1 n) ?_
      refine x_goto (pc := 53) (tgt := 134) d85_53 (by decide) ?_
      refine y_inc (pc := 134) (c := (1)) d85_134 (by decide) (by decide) rfl ?_
      refine x_goto (pc := 137) (tgt := 10) d85_137 (by decide) ?_
      rw [nI_1]
      rw [tp_1, show nI n = tp (n + 1) from (tp_s n).symm]
      refine wp_lv (lv' := [(4, .int (nI (k + 1))), (3, .int (tp (n + 1))), (0, .ref (PA p)), (1, .int (nI a)), (2, .ref (RW i + 4))]) ⟨rfl, rfl, rfl, rfl, rfl, trivial⟩ ?_
      have en : wkn p k n s = n + 1 := by unfold wkn; rw [if_pos c33]
      rw [en] at e5 hx
      have h9 := ih (k + 1) _ (wk1 p i k n s) (by omega) (by rw [wk1_1]; exact h72) (evOK_1 p (wk1_1 p i k n s) m _ _ e5) hx
      unfold wk1 at h9
      rw [if_pos c33] at h9
      exact h9
/-- the exp of statement a of PROGRAM p can be worked -/
def XW (s : St) (p a : Nat) : Prop := ∃ f t, s.1 71 p a = nI f ∧ s.1 72 p a = nI t ∧ f ≤ t ∧ t ≤ 120 ∧ evOK s p (t - f) f 0
def wS (s : St) (i p a : Nat) : St := wkS p i ((s.1 72 p a).toNatClampNeg - (s.1 71 p a).toNatClampNeg) (s.1 71 p a).toNatClampNeg 0 s
def wV (s : St) (i p a : Nat) : Int64 := (wS s i p a).2 77 p 0
set_option maxRecDepth 100000 in
theorem c_work (p : Nat) (hp : p < 13) (i : Nat) (hi : i < 7) (s : St) (a : Nat) (ha : a < 40) (hX : XW s p a) : Rj 1 85 [.ref (PA p), .int (nI a), .ref (RW i + 4)] s (fun v s1 => v = wV s i p a ∧ s1 = wS s i p a) := by
  refine ct_of (by decide +kernel) (Nat.le_of_ble_eq_true rfl) ?_
  show Wp _ _ _ _ _ _ [(0, .ref (PA p)), (1, .int (nI a)), (2, .ref (RW i + 4))] _ _ _
  obtain ⟨f, t, h71, h72, hft, ht, hev⟩ := hX
  refine x_iconst (pc := 0) (v := (-1)) d85_0 (by decide) ?_
  refine x_istore_n (pc := 1) d85_1 (by decide) ?_
  refine x_aload_n (pc := 2) d85_2 rfl ?_
  refine y_getr (pc := 3) d85_3 fk4_21 (shP p hp) rfl ?_
  refine x_iload_n (pc := 6) d85_6 rfl ?_
  refine y_ialdN (pc := 7) (q := a) d85_7 (shP4 p hp) (ha) (by decide) (rfl) ?_
  refine x_istore (pc := 8) d85_8 (by decide) ?_
  rw [h71]
  refine wp_lv (lv' := [(4, .int (nI f)), (3, .int (tp 0)), (0, .ref (PA p)), (1, .int (nI a)), (2, .ref (RW i + 4))]) ⟨rfl, rfl, rfl, rfl, rfl, trivial⟩ ?_
  refine lp_work p hp i hi a ha t ht (t - f) f 0 s (by omega) h72 hev ?_
  unfold wV wS
  rw [h71, h72, nI_clamp (by omega), nI_clamp (by omega)]
  exact ⟨rfl, rfl⟩
