/-! rows that the walker uses -/
section ZR
variable {R : Room} {j : Nat} {Z : Zt} {k n pc : Nat} {lv : List (Nat × Value)} {st : List Value} {M : Me} {top : Nat}
theorem co_lt (i : Nat) : co i < 2 := by unfold co; split <;> omega
theorem y_inc {i : Nat} {z : Int} {v c : Int32} (hd : decode (mB j) pc = .ok (.iinc i z, 3)) (hc : Int32.ofInt z = c) (hb : i < mL j) (hg : gl lv i = some (.int v)) (kk : Wp R j Z k n (pc + 3) (st1 lv i (.int (v + c))) st M top) : Wp R j Z k n pc lv st M top :=
  x_iinc hd hb hg (by rw [hc]) kk
theorem lg0 {x y : Int64} : lg_cmp x y = 0 ↔ x = y := by
  unfold lg_cmp
  by_cases h1 : y < x
  · rw [if_pos h1]
    exact ⟨fun h => absurd h (by decide), fun h => absurd h1 (by rw [h]; exact Int64.lt_irrefl)⟩
  · rw [if_neg h1]
    by_cases h2 : x = y
    · rw [if_pos h2]; exact ⟨fun _ => h2, fun _ => rfl⟩
    · rw [if_neg h2]; exact ⟨fun h => absurd h (by decide), fun h => absurd h h2⟩
theorem lgL {x y : Int64} : lg_cmp x y < 0 ↔ x < y := by
  unfold lg_cmp
  by_cases h1 : y < x
  · rw [if_pos h1]
    exact ⟨fun h => absurd h (by decide), fun h => absurd h (Int64.not_lt.mpr (Int64.le_of_lt h1))⟩
  · rw [if_neg h1]
    by_cases h2 : x = y
    · rw [if_pos h2]; exact ⟨fun h => absurd h (by decide), fun h => absurd h (by rw [h2]; exact Int64.lt_irrefl)⟩
    · rw [if_neg h2]; exact ⟨fun _ => Int64.lt_of_le_of_ne (Int64.not_lt.mp h1) h2, fun _ => by decide⟩
theorem lgG {x y : Int64} : 0 < lg_cmp x y ↔ y < x := by
  unfold lg_cmp
  by_cases h1 : y < x
  · rw [if_pos h1]; exact ⟨fun _ => h1, fun _ => by decide⟩
  · rw [if_neg h1]
    by_cases h2 : x = y
    · rw [if_pos h2]; exact ⟨fun h => absurd h (by decide), fun h => absurd h h1⟩
    · rw [if_neg h2]; exact ⟨fun h => absurd h (by decide), fun h => absurd h h1⟩
theorem y_lif_eq {x y : Int64} {off : Int} {tgt : Nat} (hd : decode (mB j) pc = .ok (.lcmp, 1)) (hd2 : decode (mB j) (pc + 1) = .ok (.ifCond .eq off, 3)) (ht : ((pc + 1 : Nat) : Int) + off = (tgt : Int)) (kt : x = y → Wp R j Z k n tgt lv st M top) (kf : ¬ x = y → Wp R j Z k n (pc + 4) lv st M top) : Wp R j Z k n pc lv (.long y :: .long x :: st) M top := by
  refine x_lcmp hd ?_
  exact x_if_eq hd2 ht (fun h => kt (lg0.mp h)) (fun h => kf (fun q => h (lg0.mpr q)))
theorem y_lif_ne {x y : Int64} {off : Int} {tgt : Nat} (hd : decode (mB j) pc = .ok (.lcmp, 1)) (hd2 : decode (mB j) (pc + 1) = .ok (.ifCond .ne off, 3)) (ht : ((pc + 1 : Nat) : Int) + off = (tgt : Int)) (kt : ¬ x = y → Wp R j Z k n tgt lv st M top) (kf : x = y → Wp R j Z k n (pc + 4) lv st M top) : Wp R j Z k n pc lv (.long y :: .long x :: st) M top := by
  refine x_lcmp hd ?_
  exact x_if_ne hd2 ht (fun h => kt (fun q => h (lg0.mpr q))) (fun h => kf (lg0.mp h))
theorem y_lif_lt {x y : Int64} {off : Int} {tgt : Nat} (hd : decode (mB j) pc = .ok (.lcmp, 1)) (hd2 : decode (mB j) (pc + 1) = .ok (.ifCond .lt off, 3)) (ht : ((pc + 1 : Nat) : Int) + off = (tgt : Int)) (kt : x < y → Wp R j Z k n tgt lv st M top) (kf : ¬ x < y → Wp R j Z k n (pc + 4) lv st M top) : Wp R j Z k n pc lv (.long y :: .long x :: st) M top := by
  refine x_lcmp hd ?_
  exact x_if_lt hd2 ht (fun h => kt (lgL.mp h)) (fun h => kf (fun q => h (lgL.mpr q)))
theorem y_lif_ge {x y : Int64} {off : Int} {tgt : Nat} (hd : decode (mB j) pc = .ok (.lcmp, 1)) (hd2 : decode (mB j) (pc + 1) = .ok (.ifCond .ge off, 3)) (ht : ((pc + 1 : Nat) : Int) + off = (tgt : Int)) (kt : ¬ x < y → Wp R j Z k n tgt lv st M top) (kf : x < y → Wp R j Z k n (pc + 4) lv st M top) : Wp R j Z k n pc lv (.long y :: .long x :: st) M top := by
  refine x_lcmp hd ?_
  exact x_if_ge hd2 ht (fun h => kt (fun q => absurd (lgL.mpr q) (Int32.not_lt.mpr h))) (fun h => kf (lgL.mp (Int32.not_le.mp h)))
theorem y_lif_gt {x y : Int64} {off : Int} {tgt : Nat} (hd : decode (mB j) pc = .ok (.lcmp, 1)) (hd2 : decode (mB j) (pc + 1) = .ok (.ifCond .gt off, 3)) (ht : ((pc + 1 : Nat) : Int) + off = (tgt : Int)) (kt : y < x → Wp R j Z k n tgt lv st M top) (kf : ¬ y < x → Wp R j Z k n (pc + 4) lv st M top) : Wp R j Z k n pc lv (.long y :: .long x :: st) M top := by
  refine x_lcmp hd ?_
  exact x_if_gt hd2 ht (fun h => kt (lgG.mp h)) (fun h => kf (fun q => h (lgG.mpr q)))
theorem y_lif_le {x y : Int64} {off : Int} {tgt : Nat} (hd : decode (mB j) pc = .ok (.lcmp, 1)) (hd2 : decode (mB j) (pc + 1) = .ok (.ifCond .le off, 3)) (ht : ((pc + 1 : Nat) : Int) + off = (tgt : Int)) (kt : ¬ y < x → Wp R j Z k n tgt lv st M top) (kf : y < x → Wp R j Z k n (pc + 4) lv st M top) : Wp R j Z k n pc lv (.long y :: .long x :: st) M top := by
  refine x_lcmp hd ?_
  exact x_if_le hd2 ht (fun h => kt (fun q => absurd (lgG.mpr q) (Int32.not_lt.mpr h))) (fun h => kf (lgG.mp (Int32.not_le.mp h)))
end ZR
def mx (x y : Int32) : Int32 := if x < y then y else x
theorem mx_code : Cond.code Lib.Math.max.name Lib.Math.max.code 2 (some .int) ∈ gw := gw_t (i := 524) (by decide +kernel) (by decide +kernel)
section ZM
variable {R : Room} {j : Nat} {Z : Zt} {k n pc : Nat} {lv : List (Nat × Value)} {st : List Value} {M : Me} {top : Nat}
theorem y_max {idx : Nat} {x y : Int32} (hd : decode (mB j) pc = .ok (.invokestatic idx, 3)) (hw : Cond.methodLink (mY j).cls idx (mY 50) ∈ gw) (hR : 1 ≤ R.frames ∧ (st.map fun v => v.category).sum + 13 ≤ R.locals) (hf : k ≤ R.cells ∧ n ≤ R.slots) (kk : Wp R j Z k n (pc + 3) lv (.int (mx x y) :: st) M top) : Wp R j Z k n pc lv (.int y :: .int x :: st) M top := by
  intro l E p e s m args below meth c C H locs hl hH ls hv
  have hts := C.2.2.2.2.2.2.1
  exact va_mmax C.2.1 C.2.2.1 (by rw [C.2.2.2.2.1]; exact hv.1.symm) C.2.2.2.2.2.1 (hts _ hw) (hts _ mT50) (hts _ mG50) (hts _ mx_code) hR.1 (by rw [st_cat]; exact hR.2) hf.1 hf.2 hd (kk l E p e s m args below meth c C H locs hl hH ls hv)
theorem y_alen {a t N id o : Nat} {s : St} (hd : decode (mB j) pc = .ok (.arraylength, 1)) (ht : t < 4) (hs : sh a = .inr (t, N, id, o)) (kk : Wp R j Z k n (pc + 1) lv (.int (nI N) :: st) (mk s) TT) : Wp R j Z k n pc lv (.ref a :: st) (mk s) TT := by
  intro l E p e s0 m args below meth c C H locs hl hH ls hv
  have ha := sh_inA hs
  have hg := wl_get (E := E) (M := mk s) ha.1 ha.2
  have hm : ∃ x : vp_A, mk s a = .inl (t, x) ∧ x.1 = N := by
    unfold mk; rw [hs]; unfold itc
    by_cases h1 : t = 1
    · subst h1; exact ⟨_, rfl, rfl⟩
    · exact ⟨(N, .inl (s.1 id o)), by simp only [if_neg h1, if_pos ht], rfl⟩
  obtain ⟨x, hx, hN⟩ := hm
  rw [hx] at hg
  have hx1 : (tA (ea E) x).1 = N := by
    obtain ⟨n0, f | f | f | f | f⟩ := x <;> exact hN
  exact va_alen C.2.1 C.2.2.1 C.2.2.2.2.2.2.2.2.2.1.1 hH.1 (a - 3) t hg (tyl_get E (by omega)) (by rw [hx1]; rfl) hd (kk l E p e s0 m args below meth c C H locs hl hH ls hv)
end ZM
theorem si_r (s : St) (id o e a b c : Nat) (v : Int32) : (si s id o e v).1 a b c = if a = id ∧ b = o ∧ c = e then v else s.1 a b c := rfl
theorem si_2 (s : St) (id o e : Nat) (v : Int32) : (si s id o e v).2 = s.2 := rfl
theorem sl_r (s : St) (id o e a b c : Nat) (v : Int64) : (sl s id o e v).2 a b c = if a = id ∧ b = o ∧ c = e then v else s.2 a b c := rfl
theorem sl_1 (s : St) (id o e : Nat) (v : Int64) : (sl s id o e v).1 = s.1 := rfl
set_option maxRecDepth 100000 in
theorem c_Body_enterPart (i : Nat) (hi : i < 7) (b : Nat) (hb : b < 9) (s : St) (x y : Int32) : Rv 0 63 [.ref (RW i + 6 + b), .int x, .int y] s (fun s1 => s1 = si (si (si (si s 1 i b x) 3 i b y) 4 i b 0) 6 i b 0) := by
  refine ct_of (by decide +kernel) (Nat.le_of_ble_eq_true rfl) ?_
  show Wp _ _ _ _ _ _ [(0, .ref (RW i + 6 + b)), (1, .int x), (2, .int y)] _ _ _
  refine x_aload_n (pc := 0) d63_0 rfl ?_
  refine x_iload_n (pc := 1) d63_1 rfl ?_
  refine y_puti (pc := 2) d63_2 fk0_22 (shB i hi b hb) rfl rfl ⟨rfl, rfl⟩ ?_
  refine x_aload_n (pc := 5) d63_5 rfl ?_
  refine x_iload_n (pc := 6) d63_6 rfl ?_
  refine y_puti (pc := 7) d63_7 fk0_25 (shB i hi b hb) rfl rfl ⟨rfl, rfl⟩ ?_
  refine x_aload_n (pc := 10) d63_10 rfl ?_
  refine x_iconst (pc := 11) (v := (0)) d63_11 (by decide) ?_
  refine y_puti (pc := 12) d63_12 fk0_28 (shB i hi b hb) rfl rfl ⟨rfl, rfl⟩ ?_
  refine x_aload_n (pc := 15) d63_15 rfl ?_
  refine x_iconst (pc := 16) (v := (0)) d63_16 (by decide) ?_
  refine y_puti (pc := 17) d63_17 fk0_31 (shB i hi b hb) rfl rfl (by first | exact ⟨rfl, rfl⟩ | (constructor <;> simp_all)) ?_
  exact y_vret (pc := 20) d63_20 rfl (rfl)
def enterPartS (s : St) (i b : Nat) (x y : Int32) : St := si (si (si (si s 1 i b x) 3 i b y) 4 i b 0) 6 i b 0
def enterS (s : St) (i b : Nat) (x1 x2 x3 x4 : Int32) : St := enterPartS (si (si s 0 i b x1) 2 i b x3) i b x2 x4
set_option maxRecDepth 100000 in
theorem c_Body_enter (i : Nat) (hi : i < 7) (b : Nat) (hb : b < 9) (s : St) (x1 x2 x3 x4 : Int32) : Rv 1 62 [.ref (RW i + 6 + b), .int x1, .int x2, .int x3, .int x4] s (fun s1 => s1 = enterS s i b x1 x2 x3 x4) := by
  refine ct_of (by decide +kernel) (Nat.le_of_ble_eq_true rfl) ?_
  show Wp _ _ _ _ _ _ [(0, .ref (RW i + 6 + b)), (1, .int x1), (2, .int x2), (3, .int x3), (4, .int x4)] _ _ _
  refine x_aload_n (pc := 0) d62_0 rfl ?_
  refine x_iload_n (pc := 1) d62_1 rfl ?_
  refine y_puti (pc := 2) d62_2 fk0_9 (shB i hi b hb) rfl rfl ⟨rfl, rfl⟩ ?_
  refine x_aload_n (pc := 5) d62_5 rfl ?_
  refine x_iload_n (pc := 6) d62_6 rfl ?_
  refine y_puti (pc := 7) d62_7 fk0_15 (shB i hi b hb) rfl rfl ⟨rfl, rfl⟩ ?_
  refine x_aload_n (pc := 10) d62_10 rfl ?_
  refine x_iload_n (pc := 11) d62_11 rfl ?_
  refine x_iload (pc := 12) d62_12 rfl ?_
  refine y_cV2v (pc := 14) d62_14 ml0_18 mv63 (shB i hi b hb) (c_Body_enterPart i hi b hb _ _ _) (by decide) (by decide) ⟨Nat.zero_le _, Nat.zero_le _⟩ (fun s hq => ?_)
  exact y_vret (pc := 17) d62_17 rfl (hq)
def mirB (s : St) (i b i2 b2 : Nat) : St := si (sl (si (si (si (si (si (si (si s 0 i b (s.1 0 i2 b2)) 1 i b (s.1 1 i2 b2)) 2 i b (s.1 2 i2 b2)) 3 i b (s.1 3 i2 b2)) 4 i b (s.1 4 i2 b2)) 5 i b (s.1 5 i2 b2)) 6 i b (s.1 6 i2 b2)) 7 i b (s.2 7 i2 b2)) 8 i b (s.1 8 i2 b2)
set_option maxRecDepth 100000 in
theorem c_Body_mirror (i : Nat) (hi : i < 7) (b : Nat) (hb : b < 9) (s : St) (i2 : Nat) (hi2 : i2 < 7) (b2 : Nat) (hb2 : b2 < 9) (hz : s.1 6 i2 b2 = 0 ∨ s.1 6 i2 b2 = 1) : Rv 0 115 [.ref (RW i + 6 + b), .ref (RW i2 + 6 + b2)] s (fun s1 => s1 = mirB s i b i2 b2) := by
  refine ct_of (by decide +kernel) (Nat.le_of_ble_eq_true rfl) ?_
  show Wp _ _ _ _ _ _ [(0, .ref (RW i + 6 + b)), (1, .ref (RW i2 + 6 + b2))] _ _ _
  refine x_aload_n (pc := 0) d115_0 rfl ?_
  refine x_aload_n (pc := 1) d115_1 rfl ?_
  refine y_geti (pc := 2) d115_2 fk0_9 (shB i2 hi2 b2 hb2) rfl ?_
  refine y_puti (pc := 5) d115_5 fk0_9 (shB i hi b hb) rfl rfl ⟨rfl, rfl⟩ ?_
  refine x_aload_n (pc := 8) d115_8 rfl ?_
  refine x_aload_n (pc := 9) d115_9 rfl ?_
  refine y_geti (pc := 10) d115_10 fk0_22 (shB i2 hi2 b2 hb2) rfl ?_
  refine y_puti (pc := 13) d115_13 fk0_22 (shB i hi b hb) rfl rfl ⟨rfl, rfl⟩ ?_
  refine x_aload_n (pc := 16) d115_16 rfl ?_
  refine x_aload_n (pc := 17) d115_17 rfl ?_
  refine y_geti (pc := 18) d115_18 fk0_15 (shB i2 hi2 b2 hb2) rfl ?_
  refine y_puti (pc := 21) d115_21 fk0_15 (shB i hi b hb) rfl rfl ⟨rfl, rfl⟩ ?_
  refine x_aload_n (pc := 24) d115_24 rfl ?_
  refine x_aload_n (pc := 25) d115_25 rfl ?_
  refine y_geti (pc := 26) d115_26 fk0_25 (shB i2 hi2 b2 hb2) rfl ?_
  refine y_puti (pc := 29) d115_29 fk0_25 (shB i hi b hb) rfl rfl ⟨rfl, rfl⟩ ?_
  refine x_aload_n (pc := 32) d115_32 rfl ?_
  refine x_aload_n (pc := 33) d115_33 rfl ?_
  refine y_geti (pc := 34) d115_34 fk0_28 (shB i2 hi2 b2 hb2) rfl ?_
  refine y_puti (pc := 37) d115_37 fk0_28 (shB i hi b hb) rfl rfl ⟨rfl, rfl⟩ ?_
  refine x_aload_n (pc := 40) d115_40 rfl ?_
  refine x_aload_n (pc := 41) d115_41 rfl ?_
  refine y_geti (pc := 42) d115_42 fk0_35 (shB i2 hi2 b2 hb2) rfl ?_
  refine y_puti (pc := 45) d115_45 fk0_35 (shB i hi b hb) rfl rfl ⟨rfl, rfl⟩ ?_
  refine x_aload_n (pc := 48) d115_48 rfl ?_
  refine x_aload_n (pc := 49) d115_49 rfl ?_
  refine y_geti (pc := 50) d115_50 fk0_31 (shB i2 hi2 b2 hb2) rfl ?_
  refine y_puti (pc := 53) d115_53 fk0_31 (shB i hi b hb) rfl rfl (by simp only [si_r]; simp; rcases hz with h | h <;> rw [h] <;> exact ⟨rfl, rfl⟩) ?_
  refine x_aload_n (pc := 56) d115_56 rfl ?_
  refine x_aload_n (pc := 57) d115_57 rfl ?_
  refine y_getl (pc := 58) d115_58 fk0_38 (shB i2 hi2 b2 hb2) rfl ?_
  refine y_putl (pc := 61) d115_61 fk0_38 (shB i hi b hb) rfl rfl rfl ?_
  refine x_aload_n (pc := 64) d115_64 rfl ?_
  refine x_aload_n (pc := 65) d115_65 rfl ?_
  refine y_geti (pc := 66) d115_66 fk0_42 (shB i2 hi2 b2 hb2) rfl ?_
  refine y_puti (pc := 69) d115_69 fk0_42 (shB i hi b hb) rfl rfl ⟨rfl, rfl⟩ ?_
  exact y_vret (pc := 72) d115_72 rfl (by simp [mirB, si_r, si_2, sl_r, sl_1])
def cLen (o : Nat) : Nat := if o = 0 then 400 else 0
def tellS (s : St) (o : Nat) (x1 x2 : Int32) (x3 : Int64) : St := if nI (cLen o) ≤ s.1 17 o 0 then s else si (sl (si (si (si s 18 o (s.1 17 o 0).toNatClampNeg x1) 19 o (s.1 17 o 0).toNatClampNeg x2) 20 o (s.1 17 o 0).toNatClampNeg (s.1 16 o 0)) 21 o (s.1 17 o 0).toNatClampNeg x3) 17 o 0 (s.1 17 o 0 + 1)
theorem in_lt {x : Int32} {N : Nat} (hN : N < 2 ^ 31) (h0 : ¬ x < 0) (h : ¬ nI N ≤ x) : vp_in x N := by
  obtain ⟨q, hq, e, -⟩ := pk_mu h0 h hN
  rw [e]; exact vp_in_nI hq hN
theorem in_lit {x : Int32} (N : Nat) (L : Int32) (hL : L = nI N) (hN : N < 2 ^ 31) (h0 : ¬ x < 0) (h : x < L) : vp_in x N := in_lt hN h0 (by rw [← hL]; exact Int32.not_le.mpr h)
set_option maxRecDepth 100000 in
theorem c_tell (o : Nat) (ho : o < 2) (s : St) (x1 x2 : Int32) (x3 : Int64) (h0 : ¬ s.1 17 o 0 < 0) : Rv 0 73 [.ref (CA o), .int x1, .int x2, .long x3] s (fun s1 => s1 = tellS s o x1 x2 x3) := by
  refine ct_of (by decide +kernel) (Nat.le_of_ble_eq_true rfl) ?_
  show Wp _ _ _ _ _ _ [(0, .ref (CA o)), (1, .int x1), (2, .int x2), (3, .long x3)] _ _ _
  refine x_aload_n (pc := 0) d73_0 rfl ?_
  refine y_geti (pc := 1) d73_1 fk1_23 (shC o ho) rfl ?_
  refine x_aload_n (pc := 4) d73_4 rfl ?_
  refine y_getr (pc := 5) d73_5 fk1_7 (shC o ho) rfl ?_
  refine y_alen (pc := 8) d73_8 (by decide) (shC1 o ho) ?_
  refine x_icmp_lt (pc := 9) (tgt := 13) d73_9 (by decide) (fun c9 => ?_) (fun c9 => ?_)
  · skip
    refine x_aload_n (pc := 13) d73_13 rfl ?_
    refine y_getr (pc := 14) d73_14 fk1_7 (shC o ho) rfl ?_
    refine x_aload_n (pc := 17) d73_17 rfl ?_
    refine y_geti (pc := 18) d73_18 fk1_23 (shC o ho) rfl ?_
    refine x_iload_n (pc := 21) d73_21 rfl ?_
    refine y_iast (pc := 22) d73_22 (shC1 o ho) (by first | exact in_lt (by split <;> omega) h0 (Int32.not_le.mpr c9) | (simp only [si_r, sl_1]; simp; exact in_lt (by split <;> omega) h0 (Int32.not_le.mpr c9))) ?_
    refine x_aload_n (pc := 23) d73_23 rfl ?_
    refine y_getr (pc := 24) d73_24 fk1_13 (shC o ho) rfl ?_
    refine x_aload_n (pc := 27) d73_27 rfl ?_
    refine y_geti (pc := 28) d73_28 fk1_23 (shC o ho) rfl ?_
    refine x_iload_n (pc := 31) d73_31 rfl ?_
    refine y_iast (pc := 32) d73_32 (shC2 o ho) (by first | exact in_lt (by split <;> omega) h0 (Int32.not_le.mpr c9) | (simp only [si_r, sl_1]; simp; exact in_lt (by split <;> omega) h0 (Int32.not_le.mpr c9))) ?_
    refine x_aload_n (pc := 33) d73_33 rfl ?_
    refine y_getr (pc := 34) d73_34 fk1_16 (shC o ho) rfl ?_
    refine x_aload_n (pc := 37) d73_37 rfl ?_
    refine y_geti (pc := 38) d73_38 fk1_23 (shC o ho) rfl ?_
    refine x_aload_n (pc := 41) d73_41 rfl ?_
    refine y_geti (pc := 42) d73_42 fk1_27 (shC o ho) rfl ?_
    refine y_iast (pc := 45) d73_45 (shC3 o ho) (by first | exact in_lt (by split <;> omega) h0 (Int32.not_le.mpr c9) | (simp only [si_r, sl_1]; simp; exact in_lt (by split <;> omega) h0 (Int32.not_le.mpr c9))) ?_
    refine x_aload_n (pc := 46) d73_46 rfl ?_
    refine y_getr (pc := 47) d73_47 fk1_19 (shC o ho) rfl ?_
    refine x_aload_n (pc := 50) d73_50 rfl ?_
    refine y_geti (pc := 51) d73_51 fk1_23 (shC o ho) rfl ?_
    refine x_lload_n (pc := 54) d73_54 rfl ?_
    refine y_last (pc := 55) d73_55 (shC4 o ho) (by first | exact in_lt (by split <;> omega) h0 (Int32.not_le.mpr c9) | (simp only [si_r, sl_1]; simp; exact in_lt (by split <;> omega) h0 (Int32.not_le.mpr c9))) ?_
    refine x_aload_n (pc := 56) d73_56 rfl ?_
    refine x_dup (pc := 57) d73_57 rfl ?_
    refine y_geti (pc := 58) d73_58 fk1_23 (shC o ho) rfl ?_
    refine x_iconst (pc := 61) (v := (1)) d73_61 (by decide) ?_
    refine x_iadd (pc := 62) d73_62 ?_
    refine y_puti (pc := 63) d73_63 fk1_23 (shC o ho) rfl rfl ⟨rfl, rfl⟩ ?_
    exact y_vret (pc := 66) d73_66 rfl (by unfold tellS; rw [if_neg (by simpa [cLen] using c9)]; simp [si_r, si_2, sl_r, sl_1])
  · skip
    exact y_vret (pc := 12) d73_12 rfl (by unfold tellS; rw [if_pos (by simpa [cLen] using c9)])
def appS (s : St) (i : Nat) (x1 x2 : Int32) (x3 : Int64) : St := if 22 ≤ s.1 80 i 0 then s else si (sl (si (si s 81 i (s.1 80 i 0).toNatClampNeg x1) 82 i (s.1 80 i 0).toNatClampNeg x2) 83 i (s.1 80 i 0).toNatClampNeg x3) 80 i 0 (s.1 80 i 0 + 1)
set_option maxRecDepth 100000 in
theorem c_append (i : Nat) (hi : i < 7) (s : St) (x1 x2 : Int32) (x3 : Int64) (h0 : ¬ s.1 80 i 0 < 0) : Rv 0 67 [.ref (RW i), .int x1, .int x2, .long x3] s (fun s1 => s1 = appS s i x1 x2 x3) := by
  refine ct_of (by decide +kernel) (Nat.le_of_ble_eq_true rfl) ?_
  show Wp _ _ _ _ _ _ [(0, .ref (RW i)), (1, .int x1), (2, .int x2), (3, .long x3)] _ _ _
  refine x_aload_n (pc := 0) d67_0 rfl ?_
  refine y_geti (pc := 1) d67_1 fk5_22 (shR i hi) rfl ?_
  refine x_bipush (pc := 4) (v := (22)) d67_4 (by decide) ?_
  refine x_icmp_lt (pc := 6) (tgt := 10) d67_6 (by decide) (fun c6 => ?_) (fun c6 => ?_)
  · skip
    refine x_aload_n (pc := 10) d67_10 rfl ?_
    refine y_getr (pc := 11) d67_11 fk5_9 (shR i hi) rfl ?_
    refine x_aload_n (pc := 14) d67_14 rfl ?_
    refine y_geti (pc := 15) d67_15 fk5_22 (shR i hi) rfl ?_
    refine x_iload_n (pc := 18) d67_18 rfl ?_
    refine y_iast (pc := 19) d67_19 (shR1 i hi) (by first | exact in_lit 22 22 rfl (by omega) h0 c6 | (simp only [si_r, sl_1]; simp; exact in_lit 22 22 rfl (by omega) h0 c6)) ?_
    refine x_aload_n (pc := 20) d67_20 rfl ?_
    refine y_getr (pc := 21) d67_21 fk5_15 (shR i hi) rfl ?_
    refine x_aload_n (pc := 24) d67_24 rfl ?_
    refine y_geti (pc := 25) d67_25 fk5_22 (shR i hi) rfl ?_
    refine x_iload_n (pc := 28) d67_28 rfl ?_
    refine y_iast (pc := 29) d67_29 (shR2 i hi) (by first | exact in_lit 22 22 rfl (by omega) h0 c6 | (simp only [si_r, sl_1]; simp; exact in_lit 22 22 rfl (by omega) h0 c6)) ?_
    refine x_aload_n (pc := 30) d67_30 rfl ?_
    refine y_getr (pc := 31) d67_31 fk5_18 (shR i hi) rfl ?_
    refine x_aload_n (pc := 34) d67_34 rfl ?_
    refine y_geti (pc := 35) d67_35 fk5_22 (shR i hi) rfl ?_
    refine x_lload_n (pc := 38) d67_38 rfl ?_
    refine y_last (pc := 39) d67_39 (shR3 i hi) (by first | exact in_lit 22 22 rfl (by omega) h0 c6 | (simp only [si_r, sl_1]; simp; exact in_lit 22 22 rfl (by omega) h0 c6)) ?_
    refine x_aload_n (pc := 40) d67_40 rfl ?_
    refine x_dup (pc := 41) d67_41 rfl ?_
    refine y_geti (pc := 42) d67_42 fk5_22 (shR i hi) rfl ?_
    refine x_iconst (pc := 45) (v := (1)) d67_45 (by decide) ?_
    refine x_iadd (pc := 46) d67_46 ?_
    refine y_puti (pc := 47) d67_47 fk5_22 (shR i hi) rfl rfl ⟨rfl, rfl⟩ ?_
    exact y_vret (pc := 50) d67_50 rfl (by unfold appS; rw [if_neg (by simpa using c6)]; simp [si_r, si_2, sl_r, sl_1])
  · skip
    exact y_vret (pc := 9) d67_9 rfl (by unfold appS; rw [if_pos (by simpa using c6)])
