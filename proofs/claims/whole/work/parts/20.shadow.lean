/-! what a THREAD would do, by the shadow; all as at the beginning -/
def mir0 (s : St) (i i2 : Nat) : St := si (si (si (si (si (si (si s 32 i 0 (s.1 32 i2 0)) 37 i 0 (nI (pN s i2))) 38 i 0 (s.1 38 i2 0)) 39 i 0 (s.1 39 i2 0)) 41 i 0 (s.1 41 i2 0)) 42 i 0 (s.1 42 i2 0)) 44 i 0 (s.1 44 i2 0)
theorem GV_mir0 {s : St} {i i2 : Nat} (h : GV s) : GV (mir0 s i i2) := GV_si (GV_si (GV_si (GV_si (GV_si (GV_si (GV_si h trivial) (okN_of (h.P i2).2)) (h 38 i2 0 : okN 4 _)) (h 39 i2 0 : okN 3 _)) (h 41 i2 0 : okN 9 _)) trivial) (h 44 i2 0 : s.1 44 i2 0 = -1 ∨ okN 6 _)
theorem GV_rmi (i i2 : Nat) : ∀ m k s, GV s → GV (rmiS i i2 m k s)
  | 0, _, _, h => h
  | m + 1, k, s, h => GV_rmi i i2 m (k + 1) _ (GV_sl (GV_si (GV_si h trivial) (h 82 i2 k : okN 9 _)))
theorem GV_rowMir {s : St} {i i2 : Nat} (h : GV s) : GV (rowMirS s i i2) := GV_rmi i i2 _ _ _ (GV_si h (h 80 i2 0 : okN 23 _))
theorem rmi_id (i i2 : Nat) {id : Nat} (h1 : id ≠ 81) (h2 : id ≠ 82) : ∀ m k s, (rmiS i i2 m k s).1 id = s.1 id
  | 0, _, _ => rfl
  | m + 1, k, s => (rmi_id i i2 h1 h2 m (k + 1) _).trans (by funext a b; simp [rmi1, sl_1, si_r, h1, h2])
theorem rowMir_id {s : St} {i i2 id : Nat} (h0 : id ≠ 80) (h1 : id ≠ 81) (h2 : id ≠ 82) : (rowMirS s i i2).1 id = s.1 id := (rmi_id i i2 h1 h2 _ _ _).trans (si_id h0)
theorem GV_mirB {s : St} {i b i2 : Nat} (h : GV s) : GV (mirB s i b i2 b) :=
  GV_si (GV_sl (GV_si (GV_si (GV_si (GV_si (GV_si (GV_si (GV_si h (h 0 i2 b : b = 0 ∨ okN 40 _)) (h 1 i2 b : okN 3 _)) (h 2 i2 b : okN 3 _)) (val3 (by simpa [val] using h 3 i2 b))) (h 4 i2 b : okN 3 _)) trivial) (h 6 i2 b : okN 2 _))) (h 8 i2 b : okN 9 _)
theorem mirB_id {s : St} {i b i2 id : Nat} (h : 9 ≤ id) : (mirB s i b i2 b).1 id = s.1 id := by
  unfold mirB
  rw [si_id (by omega)]
  show (si _ _ _ _ _).1 id = _
  rw [si_id (by omega), si_id (by omega), si_id (by omega), si_id (by omega), si_id (by omega), si_id (by omega), si_id (by omega)]
def mbS (i i2 : Nat) : Nat → Nat → St → St
  | 0, _, s => s
  | m + 1, k, s => mbS i i2 m (k + 1) (mirB s i k i2 k)
theorem GV_mb (i i2 : Nat) : ∀ m k s, GV s → GV (mbS i i2 m k s)
  | 0, _, _, h => h
  | m + 1, k, s, h => GV_mb i i2 m (k + 1) _ (GV_mirB h)
def mirS (s : St) (i i2 : Nat) : St := mbS i i2 (dN s i2 + 1) 0 (rowMirS (mir0 s i i2) i i2)
theorem GV_mir {s : St} {i i2 : Nat} (h : GV s) : GV (mirS s i i2) := GV_mb i i2 _ _ _ (GV_rowMir (GV_mir0 h))
set_option maxRecDepth 100000 in
theorem lp_mir (i : Nat) (hi : i < 7) (i2 : Nat) (hi2 : i2 < 7) (d : Nat) (hd : d ≤ 8) {Q : St → Prop} : ∀ (m k : Nat) (s : St), k + m = d + 1 → s.1 41 i 0 = nI d → GV s → Q (mbS i i2 m k s) → Wp (rmd 1 0 0) 113 (zv Q) 0 0 69 [(2, .int (nI k)), (0, .ref (FA i)), (1, .ref (FA i2))] [] (mk s) TT := by
  intro m
  induction m with
  | zero =>
    intro k s hk h41 hG hx
    refine x_iload_n (pc := 69) d113_69 rfl ?_
    refine x_aload_n (pc := 70) d113_70 rfl ?_
    refine y_geti (pc := 71) d113_71 fk2_63 (shF i hi) rfl ?_
    refine x_icmp_gt (pc := 74) (tgt := 98) d113_74 (by decide) (fun c74 => ?_) (fun c74 => absurd (by rw [h41]; exact nI_lt (by omega) (by omega)) c74)
    exact y_vret (pc := 98) d113_98 rfl (hx)
  | succ m ih =>
    intro k s hk h41 hG hx
    refine x_iload_n (pc := 69) d113_69 rfl ?_
    refine x_aload_n (pc := 70) d113_70 rfl ?_
    refine y_geti (pc := 71) d113_71 fk2_63 (shF i hi) rfl ?_
    refine x_icmp_gt (pc := 74) (tgt := 98) d113_74 (by decide) (fun c74 => absurd c74 (by rw [h41]; exact nI_nlt (by omega) (by omega))) (fun c74 => ?_)
    refine x_aload_n (pc := 77) d113_77 rfl ?_
    refine y_getr (pc := 78) d113_78 fk2_24 (shF i hi) rfl ?_
    refine x_iload_n (pc := 81) d113_81 rfl ?_
    refine y_aaldBN (pc := 82) (q := k) (hq := hi) d113_82 (by omega) (rfl) ?_
    refine x_aload_n (pc := 83) d113_83 rfl ?_
    refine y_getr (pc := 84) d113_84 fk2_24 (shF i2 hi2) rfl ?_
    refine x_iload_n (pc := 87) d113_87 rfl ?_
    refine y_aaldBN (pc := 88) (q := k) (hq := hi2) d113_88 (by omega) (rfl) ?_
    refine y_cV1v (pc := 89) d113_89 ml2_196 mv115 (shB i hi k (by omega)) (c_Body_mirror i hi k (by omega) s i2 hi2 k (by omega) (by obtain ⟨q, hq, e⟩ := (hG 6 i2 k : okN 2 _); rw [e]; rcases (by omega : q = 0 ∨ q = 1) with rfl | rfl; exact Or.inl rfl; exact Or.inr rfl)) (by decide) (Nat.le_of_ble_eq_true rfl) ⟨Nat.zero_le _, Nat.zero_le _⟩ (fun s hq => ?_)
    subst hq
    refine y_inc (pc := 92) (c := (1)) d113_92 (by decide) (by decide) rfl ?_
    refine x_goto (pc := 95) (tgt := 69) d113_95 (by decide) ?_
    rw [nI_1]
    exact ih (k + 1) _ (by omega) (by rw [mirB_id (by decide)]; exact h41) (GV_mirB hG) hx
set_option maxRecDepth 100000 in
theorem c_mir (i : Nat) (hi : i < 7) (i2 : Nat) (hi2 : i2 < 7) (s : St) (hG : GV s) : Rv 1 113 [.ref (FA i), .ref (FA i2)] s (fun s1 => s1 = mirS s i i2) := by
  refine ct_of (by decide +kernel) (Nat.le_of_ble_eq_true rfl) ?_
  show Wp _ _ _ _ _ _ [(0, .ref (FA i)), (1, .ref (FA i2))] _ _ _
  refine x_aload_n (pc := 0) d113_0 rfl ?_
  refine x_aload_n (pc := 1) d113_1 rfl ?_
  refine y_geti (pc := 2) d113_2 fk2_28 (shF i2 hi2) rfl ?_
  refine y_puti (pc := 5) d113_5 fk2_28 (shF i hi) rfl rfl ⟨rfl, rfl⟩ ?_
  refine x_aload_n (pc := 8) d113_8 rfl ?_
  refine x_aload_n (pc := 9) d113_9 rfl ?_
  refine y_getp (pc := 10) (p := pN s i2) d113_10 fk2_36 (shF i2 hi2) rfl (by rw [si_id (by decide)]; exact (hG.P i2).1) ((hG.P i2).2) ?_
  refine y_putp (pc := 13) (p := pN s i2) d113_13 fk2_36 (shF i hi) rfl rfl rfl (((hG.P i2).2)) ?_
  refine x_aload_n (pc := 16) d113_16 rfl ?_
  refine x_aload_n (pc := 17) d113_17 rfl ?_
  refine y_geti (pc := 18) d113_18 fk2_44 (shF i2 hi2) rfl ?_
  refine y_puti (pc := 21) d113_21 fk2_44 (shF i hi) rfl rfl ⟨rfl, rfl⟩ ?_
  refine x_aload_n (pc := 24) d113_24 rfl ?_
  refine x_aload_n (pc := 25) d113_25 rfl ?_
  refine y_geti (pc := 26) d113_26 fk2_60 (shF i2 hi2) rfl ?_
  refine y_puti (pc := 29) d113_29 fk2_60 (shF i hi) rfl rfl ⟨rfl, rfl⟩ ?_
  refine x_aload_n (pc := 32) d113_32 rfl ?_
  refine x_aload_n (pc := 33) d113_33 rfl ?_
  refine y_geti (pc := 34) d113_34 fk2_63 (shF i2 hi2) rfl ?_
  refine y_puti (pc := 37) d113_37 fk2_63 (shF i hi) rfl rfl ⟨rfl, rfl⟩ ?_
  refine x_aload_n (pc := 40) d113_40 rfl ?_
  refine x_aload_n (pc := 41) d113_41 rfl ?_
  refine y_geti (pc := 42) d113_42 fk2_66 (shF i2 hi2) rfl ?_
  refine y_puti (pc := 45) d113_45 fk2_66 (shF i hi) rfl rfl ⟨rfl, rfl⟩ ?_
  refine x_aload_n (pc := 48) d113_48 rfl ?_
  refine x_aload_n (pc := 49) d113_49 rfl ?_
  refine y_geti (pc := 50) d113_50 fk2_40 (shF i2 hi2) rfl ?_
  refine y_puti (pc := 53) d113_53 fk2_40 (shF i hi) rfl rfl ⟨rfl, rfl⟩ ?_
  show Wp _ _ _ _ _ _ _ _ (mk (mir0 s i i2)) _
  refine x_aload_n (pc := 56) d113_56 rfl ?_
  refine y_getr (pc := 57) d113_57 fk2_12 (shF i hi) rfl ?_
  refine x_aload_n (pc := 60) d113_60 rfl ?_
  refine y_getr (pc := 61) d113_61 fk2_12 (shF i2 hi2) rfl ?_
  refine y_cV1v (pc := 64) d113_64 ml2_192 mv114 (shR i hi) (c_rowMir i i2 hi hi2 _ (GV_mir0 hG)) (by decide) (Nat.le_of_ble_eq_true rfl) ⟨Nat.zero_le _, Nat.zero_le _⟩ (fun s hq => ?_)
  subst hq
  refine x_iconst (pc := 67) (v := (0)) d113_67 (by decide) ?_
  refine x_istore_n (pc := 68) d113_68 (by decide) ?_
  refine wp_lv (lv' := [(2, .int (nI 0)), (0, .ref (FA i)), (1, .ref (FA i2))]) ⟨rfl, rfl, rfl, trivial⟩ ?_
  exact lp_mir i hi i2 hi2 (dN s i2) (hG.D i2).2 (dN s i2 + 1) 0 _ (by omega) (by rw [rowMir_id (by decide) (by decide) (by decide)]; simp [mir0, si_r]; exact (hG.D i2).1) (GV_rowMir (GV_mir0 hG)) rfl
