/-! the reference's machine -/
def r_note0 (a0 : Int32) (a1 : Int32) (a2 : Int64) (s : St) : Option (St) := bnd (s.1 263 0 0) fun v1 => if (400 : Int32) ≤ v1 then (some s) else (if a1 = (6 : Int32) then (some s) else (bnd (s.1 263 0 0) fun v2 => grd (ib v2 400) (si s 264 0 v2.toNatClampNeg a0) fun s3 => bnd (s3.1 263 0 0) fun v4 => grd (ib v4 400) (si s3 265 0 v4.toNatClampNeg a1) fun s5 => bnd (s5.1 263 0 0) fun v6 => bnd (s5.1 237 0 0) fun v7 => grd (ib v6 400) (si s5 266 0 v6.toNatClampNeg v7) fun s8 => bnd (s8.1 263 0 0) fun v9 => grd (ib v9 400) (sl s8 267 0 v9.toNatClampNeg a2) fun s10 => bnd (s10.1 263 0 0) fun v11 => bnd (si s10 263 0 0 (v11 + (1 : Int32))) fun s12 => some s12))
set_option maxRecDepth 100000 in
theorem t_r_note0 (a0 : Int32) (a1 : Int32) (a2 : Int64) (s : St) (r : St) (h : r_note0 a0 a1 a2 s = some r) : Rv 0 166 [.ref 280, .int a0, .int a1, .long a2] s (fun s1 => s1 = r) := by
  refine ct_of (by decide +kernel) (Nat.le_of_ble_eq_true rfl) ?_
  show Wp _ _ _ _ _ _ [(0, .ref 280), (1, .int a0), (2, .int a1), (3, .long a2)] _ _ _
  unfold r_note0 at h
  refine x_aload_n (pc := 0) d166_0 rfl ?_
  refine z_geti (pc := 1) d166_1 fk9_350 shL280 rfl h (fun v1 h => ?_)
  refine x_sipush (pc := 4) (v := (400)) d166_4 (by decide) ?_
  refine z_icmp_ge (pc := 7) (tgt := 69) d166_7 (by decide) h (fun h => ?_) (fun h => ?_)
  · skip
    exact z_vret (pc := 69) d166_69 rfl h
  · skip
    refine x_iload_n (pc := 10) d166_10 rfl ?_
    refine x_bipush (pc := 11) (v := (6)) d166_11 (by decide) ?_
    refine z_icmp_eq (pc := 13) (tgt := 69) d166_13 (by decide) h (fun h => ?_) (fun h => ?_)
    · skip
      exact z_vret (pc := 69) d166_69 rfl h
    · skip
      refine x_aload_n (pc := 16) d166_16 rfl ?_
      refine y_getr (pc := 17) d166_17 fk9_155 shL280 rfl ?_
      refine x_aload_n (pc := 20) d166_20 rfl ?_
      refine z_geti (pc := 21) d166_21 fk9_350 shL280 rfl h (fun v2 h => ?_)
      refine x_iload_n (pc := 24) d166_24 rfl ?_
      refine z_iast (pc := 25) d166_25 shL327 (by decide) h (fun s3 h => ?_)
      refine x_aload_n (pc := 26) d166_26 rfl ?_
      refine y_getr (pc := 27) d166_27 fk9_158 shL280 rfl ?_
      refine x_aload_n (pc := 30) d166_30 rfl ?_
      refine z_geti (pc := 31) d166_31 fk9_350 shL280 rfl h (fun v4 h => ?_)
      refine x_iload_n (pc := 34) d166_34 rfl ?_
      refine z_iast (pc := 35) d166_35 shL328 (by decide) h (fun s5 h => ?_)
      refine x_aload_n (pc := 36) d166_36 rfl ?_
      refine y_getr (pc := 37) d166_37 fk9_161 shL280 rfl ?_
      refine x_aload_n (pc := 40) d166_40 rfl ?_
      refine z_geti (pc := 41) d166_41 fk9_350 shL280 rfl h (fun v6 h => ?_)
      refine x_aload_n (pc := 44) d166_44 rfl ?_
      refine z_geti (pc := 45) d166_45 fk9_353 shL280 rfl h (fun v7 h => ?_)
      refine z_iast (pc := 48) d166_48 shL329 (by decide) h (fun s8 h => ?_)
      refine x_aload_n (pc := 49) d166_49 rfl ?_
      refine y_getr (pc := 50) d166_50 fk9_164 shL280 rfl ?_
      refine x_aload_n (pc := 53) d166_53 rfl ?_
      refine z_geti (pc := 54) d166_54 fk9_350 shL280 rfl h (fun v9 h => ?_)
      refine x_lload_n (pc := 57) d166_57 rfl ?_
      refine z_last (pc := 58) d166_58 shL330 (by decide) h (fun s10 h => ?_)
      refine x_aload_n (pc := 59) d166_59 rfl ?_
      refine x_dup (pc := 60) d166_60 rfl ?_
      refine z_geti (pc := 61) d166_61 fk9_350 shL280 rfl h (fun v11 h => ?_)
      refine x_iconst (pc := 64) (v := (1)) d166_64 (by decide) ?_
      refine x_iadd (pc := 65) d166_65 ?_
      refine z_puti (pc := 66) d166_66 fk9_350 shL280 rfl rfl ⟨rfl, rfl⟩ h (fun s12 h => ?_)
      exact z_vret (pc := 69) d166_69 rfl h
def r_toRow (a0 : Int32) (a1 : Int32) (a2 : Int64) (a3 : Int32) (a4 : Int32) (s : St) : Option (St) := grd (ib a0 7) (s.1 255 0 a0.toNatClampNeg) fun v1 => grd (ib (((32 : Int32) * a0) + v1) 224) (si s 256 0 (((32 : Int32) * a0) + v1).toNatClampNeg a1) fun s2 => grd (ib (((32 : Int32) * a0) + v1) 224) (sl s2 257 0 (((32 : Int32) * a0) + v1).toNatClampNeg a2) fun s3 => grd (ib (((32 : Int32) * a0) + v1) 224) (si s3 258 0 (((32 : Int32) * a0) + v1).toNatClampNeg a3) fun s4 => grd (ib (((32 : Int32) * a0) + v1) 224) (si s4 259 0 (((32 : Int32) * a0) + v1).toNatClampNeg a4) fun s5 => grd (ib a0 7) (s5.1 255 0 a0.toNatClampNeg) fun v6 => grd (ib a0 7) (si s5 255 0 a0.toNatClampNeg (v6 + (1 : Int32))) fun s7 => some s7
set_option maxRecDepth 100000 in
theorem t_r_toRow (a0 : Int32) (a1 : Int32) (a2 : Int64) (a3 : Int32) (a4 : Int32) (s : St) (r : St) (h : r_toRow a0 a1 a2 a3 a4 s = some r) : Rv 0 161 [.ref 280, .int a0, .int a1, .long a2, .int a3, .int a4] s (fun s1 => s1 = r) := by
  refine ct_of (by decide +kernel) (Nat.le_of_ble_eq_true rfl) ?_
  show Wp _ _ _ _ _ _ [(0, .ref 280), (1, .int a0), (2, .int a1), (3, .long a2), (5, .int a3), (6, .int a4)] _ _ _
  unfold r_toRow at h
  refine x_bipush (pc := 0) (v := (32)) d161_0 (by decide) ?_
  refine x_iload_n (pc := 2) d161_2 rfl ?_
  refine x_imul (pc := 3) d161_3 ?_
  refine x_aload_n (pc := 4) d161_4 rfl ?_
  refine y_getr (pc := 5) d161_5 fk9_134 shL280 rfl ?_
  refine x_iload_n (pc := 8) d161_8 rfl ?_
  refine z_iald (pc := 9) d161_9 shL320 (by decide) h (fun v1 h => ?_)
  refine x_iadd (pc := 10) d161_10 ?_
  refine x_istore (pc := 11) d161_11 (by decide) ?_
  refine x_aload_n (pc := 13) d161_13 rfl ?_
  refine y_getr (pc := 14) d161_14 fk9_137 shL280 rfl ?_
  refine x_iload (pc := 17) d161_17 rfl ?_
  refine x_iload_n (pc := 19) d161_19 rfl ?_
  refine z_iast (pc := 20) d161_20 shL321 (by decide) h (fun s2 h => ?_)
  refine x_aload_n (pc := 21) d161_21 rfl ?_
  refine y_getr (pc := 22) d161_22 fk9_140 shL280 rfl ?_
  refine x_iload (pc := 25) d161_25 rfl ?_
  refine x_lload_n (pc := 27) d161_27 rfl ?_
  refine z_last (pc := 28) d161_28 shL322 (by decide) h (fun s3 h => ?_)
  refine x_aload_n (pc := 29) d161_29 rfl ?_
  refine y_getr (pc := 30) d161_30 fk9_143 shL280 rfl ?_
  refine x_iload (pc := 33) d161_33 rfl ?_
  refine x_iload (pc := 35) d161_35 rfl ?_
  refine z_iast (pc := 37) d161_37 shL323 (by decide) h (fun s4 h => ?_)
  refine x_aload_n (pc := 38) d161_38 rfl ?_
  refine y_getr (pc := 39) d161_39 fk9_146 shL280 rfl ?_
  refine x_iload (pc := 42) d161_42 rfl ?_
  refine x_iload (pc := 44) d161_44 rfl ?_
  refine z_iast (pc := 46) d161_46 shL324 (by decide) h (fun s5 h => ?_)
  refine x_aload_n (pc := 47) d161_47 rfl ?_
  refine y_getr (pc := 48) d161_48 fk9_134 shL280 rfl ?_
  refine x_iload_n (pc := 51) d161_51 rfl ?_
  refine x_dup2 (pc := 52) d161_52 rfl rfl ?_
  refine z_iald (pc := 53) d161_53 shL320 (by decide) h (fun v6 h => ?_)
  refine x_iconst (pc := 54) (v := (1)) d161_54 (by decide) ?_
  refine x_iadd (pc := 55) d161_55 ?_
  refine z_iast (pc := 56) d161_56 shL320 (by decide) h (fun s7 h => ?_)
  exact z_vret (pc := 57) d161_57 rfl h
def r_fromRow_12 : Nat → Int32 → Int32 → St → Option (St)
  | 0, _, _, _ => none
  | n + 1, x1, x3, s => grd (ib x1 7) (s.1 255 0 x1.toNatClampNeg) fun v3 => if v3 ≤ x3 then (some s) else (grd (ib ((((32 : Int32) * x1) + x3) + (1 : Int32)) 224) (s.1 256 0 ((((32 : Int32) * x1) + x3) + (1 : Int32)).toNatClampNeg) fun v4 => grd (ib (((32 : Int32) * x1) + x3) 224) (si s 256 0 (((32 : Int32) * x1) + x3).toNatClampNeg v4) fun s5 => grd (ib ((((32 : Int32) * x1) + x3) + (1 : Int32)) 224) (s5.2 257 0 ((((32 : Int32) * x1) + x3) + (1 : Int32)).toNatClampNeg) fun v6 => grd (ib (((32 : Int32) * x1) + x3) 224) (sl s5 257 0 (((32 : Int32) * x1) + x3).toNatClampNeg v6) fun s7 => grd (ib ((((32 : Int32) * x1) + x3) + (1 : Int32)) 224) (s7.1 258 0 ((((32 : Int32) * x1) + x3) + (1 : Int32)).toNatClampNeg) fun v8 => grd (ib (((32 : Int32) * x1) + x3) 224) (si s7 258 0 (((32 : Int32) * x1) + x3).toNatClampNeg v8) fun s9 => grd (ib ((((32 : Int32) * x1) + x3) + (1 : Int32)) 224) (s9.1 259 0 ((((32 : Int32) * x1) + x3) + (1 : Int32)).toNatClampNeg) fun v10 => grd (ib (((32 : Int32) * x1) + x3) 224) (si s9 259 0 (((32 : Int32) * x1) + x3).toNatClampNeg v10) fun s11 => r_fromRow_12 n x1 (x3 + (1 : Int32)) s11)
set_option maxRecDepth 100000 in
theorem t_r_fromRow_12 {r : St} : ∀ (n : Nat) (x1 : Int32) (x3 : Int32) (s : St), r_fromRow_12 n x1 x3 s = some r → Wp (rmd 0 0 0) 165 (zv (fun s1 => s1 = r)) 0 0 12 [(0, .ref 280), (1, .int x1), (3, .int x3)] [] (mk s) TT := by
  intro n
  induction n with
  | zero =>
    intro x1 x3 s h
    rw [r_fromRow_12.eq_1] at h
    cases h
  | succ n ih =>
    intro x1 x3 s h
    rw [r_fromRow_12.eq_2] at h
    refine x_iload_n (pc := 12) d165_12 rfl ?_
    refine x_aload_n (pc := 13) d165_13 rfl ?_
    refine y_getr (pc := 14) d165_14 fk9_134 shL280 rfl ?_
    refine x_iload_n (pc := 17) d165_17 rfl ?_
    refine z_iald (pc := 18) d165_18 shL320 (by decide) h (fun v3 h => ?_)
    refine z_icmp_ge (pc := 19) (tgt := 100) d165_19 (by decide) h (fun h => ?_) (fun h => ?_)
    · skip
      exact z_vret (pc := 100) d165_100 rfl h
    · skip
      refine x_bipush (pc := 22) (v := (32)) d165_22 (by decide) ?_
      refine x_iload_n (pc := 24) d165_24 rfl ?_
      refine x_imul (pc := 25) d165_25 ?_
      refine x_iload_n (pc := 26) d165_26 rfl ?_
      refine x_iadd (pc := 27) d165_27 ?_
      refine x_istore (pc := 28) d165_28 (by decide) ?_
      refine x_aload_n (pc := 30) d165_30 rfl ?_
      refine y_getr (pc := 31) d165_31 fk9_137 shL280 rfl ?_
      refine x_iload (pc := 34) d165_34 rfl ?_
      refine x_aload_n (pc := 36) d165_36 rfl ?_
      refine y_getr (pc := 37) d165_37 fk9_137 shL280 rfl ?_
      refine x_iload (pc := 40) d165_40 rfl ?_
      refine x_iconst (pc := 42) (v := (1)) d165_42 (by decide) ?_
      refine x_iadd (pc := 43) d165_43 ?_
      refine z_iald (pc := 44) d165_44 shL321 (by decide) h (fun v4 h => ?_)
      refine z_iast (pc := 45) d165_45 shL321 (by decide) h (fun s5 h => ?_)
      refine x_aload_n (pc := 46) d165_46 rfl ?_
      refine y_getr (pc := 47) d165_47 fk9_140 shL280 rfl ?_
      refine x_iload (pc := 50) d165_50 rfl ?_
      refine x_aload_n (pc := 52) d165_52 rfl ?_
      refine y_getr (pc := 53) d165_53 fk9_140 shL280 rfl ?_
      refine x_iload (pc := 56) d165_56 rfl ?_
      refine x_iconst (pc := 58) (v := (1)) d165_58 (by decide) ?_
      refine x_iadd (pc := 59) d165_59 ?_
      refine z_lald (pc := 60) d165_60 shL322 (by decide) h (fun v6 h => ?_)
      refine z_last (pc := 61) d165_61 shL322 (by decide) h (fun s7 h => ?_)
      refine x_aload_n (pc := 62) d165_62 rfl ?_
      refine y_getr (pc := 63) d165_63 fk9_143 shL280 rfl ?_
      refine x_iload (pc := 66) d165_66 rfl ?_
      refine x_aload_n (pc := 68) d165_68 rfl ?_
      refine y_getr (pc := 69) d165_69 fk9_143 shL280 rfl ?_
      refine x_iload (pc := 72) d165_72 rfl ?_
      refine x_iconst (pc := 74) (v := (1)) d165_74 (by decide) ?_
      refine x_iadd (pc := 75) d165_75 ?_
      refine z_iald (pc := 76) d165_76 shL323 (by decide) h (fun v8 h => ?_)
      refine z_iast (pc := 77) d165_77 shL323 (by decide) h (fun s9 h => ?_)
      refine x_aload_n (pc := 78) d165_78 rfl ?_
      refine y_getr (pc := 79) d165_79 fk9_146 shL280 rfl ?_
      refine x_iload (pc := 82) d165_82 rfl ?_
      refine x_aload_n (pc := 84) d165_84 rfl ?_
      refine y_getr (pc := 85) d165_85 fk9_146 shL280 rfl ?_
      refine x_iload (pc := 88) d165_88 rfl ?_
      refine x_iconst (pc := 90) (v := (1)) d165_90 (by decide) ?_
      refine x_iadd (pc := 91) d165_91 ?_
      refine z_iald (pc := 92) d165_92 shL324 (by decide) h (fun v10 h => ?_)
      refine z_iast (pc := 93) d165_93 shL324 (by decide) h (fun s11 h => ?_)
      refine y_inc (pc := 94) (c := (1)) d165_94 (by decide) (by decide) rfl ?_
      refine x_goto (pc := 97) (tgt := 12) d165_97 (by decide) ?_
      refine wp_lv (lv' := [(0, .ref 280), (1, .int x1), (3, .int (x3 + (1 : Int32)))]) ⟨rfl, rfl, rfl, trivial⟩ ?_
      exact ih x1 (x3 + (1 : Int32)) s11 h
def r_fromRow (a0 : Int32) (a1 : Int32) (s : St) : Option (St) := grd (ib a0 7) (s.1 255 0 a0.toNatClampNeg) fun v1 => grd (ib a0 7) (si s 255 0 a0.toNatClampNeg (v1 - (1 : Int32))) fun s2 => r_fromRow_12 40 a0 a1 s2
set_option maxRecDepth 100000 in
theorem t_r_fromRow (a0 : Int32) (a1 : Int32) (s : St) (r : St) (h : r_fromRow a0 a1 s = some r) : Rv 0 165 [.ref 280, .int a0, .int a1] s (fun s1 => s1 = r) := by
  refine ct_of (by decide +kernel) (Nat.le_of_ble_eq_true rfl) ?_
  show Wp _ _ _ _ _ _ [(0, .ref 280), (1, .int a0), (2, .int a1)] _ _ _
  unfold r_fromRow at h
  refine x_aload_n (pc := 0) d165_0 rfl ?_
  refine y_getr (pc := 1) d165_1 fk9_134 shL280 rfl ?_
  refine x_iload_n (pc := 4) d165_4 rfl ?_
  refine x_dup2 (pc := 5) d165_5 rfl rfl ?_
  refine z_iald (pc := 6) d165_6 shL320 (by decide) h (fun v1 h => ?_)
  refine x_iconst (pc := 7) (v := (1)) d165_7 (by decide) ?_
  refine x_isub (pc := 8) d165_8 ?_
  refine z_iast (pc := 9) d165_9 shL320 (by decide) h (fun s2 h => ?_)
  refine x_iload_n (pc := 10) d165_10 rfl ?_
  refine x_istore_n (pc := 11) d165_11 (by decide) ?_
  refine wp_lv (lv' := [(0, .ref 280), (1, .int a0), (3, .int a1)]) ⟨rfl, rfl, rfl, trivial⟩ ?_
  exact t_r_fromRow_12 40 a0 a1 s2 h
def r_stands_41 (K5 : Int32 → Int32 → Int32 → Int32 → St → Option (Int32 × St)) (x1 : Int32) (x2 : Int32) (x4 : Int32) (y0 : Int32) (s : St) : Option (Int32 × St) := K5 x1 x2 y0 (x4 + (1 : Int32)) s
set_option maxRecDepth 100000 in
theorem t_r_stands_41 {r : Int32 × St} (K5 : Int32 → Int32 → Int32 → Int32 → St → Option (Int32 × St)) (hK5 : ∀ (x1 : Int32) (x2 : Int32) (x3 : Int32) (x4 : Int32) (s : St), K5 x1 x2 x3 x4 s = some r → Wp (rmd 0 0 0) 176 (zi (fun v s1 => (v, s1) = r)) 0 0 5 [(0, .ref 280), (1, .int x1), (2, .int x2), (3, .int x3), (4, .int x4)] [] (mk s) TT) : ∀ (x1 : Int32) (x2 : Int32) (x4 : Int32) (y0 : Int32) (s : St), r_stands_41 K5 x1 x2 x4 y0 s = some r → Wp (rmd 0 0 0) 176 (zi (fun v s1 => (v, s1) = r)) 0 0 41 [(0, .ref 280), (1, .int x1), (2, .int x2), (4, .int x4)] [.int y0] (mk s) TT := by
  intro x1 x2 x4 y0 s h
  unfold r_stands_41 at h
  refine x_istore_n (pc := 41) d176_41 (by decide) ?_
  refine y_inc (pc := 42) (c := (1)) d176_42 (by decide) (by decide) rfl ?_
  refine x_goto (pc := 45) (tgt := 5) d176_45 (by decide) ?_
  refine wp_lv (lv' := [(0, .ref 280), (1, .int x1), (2, .int x2), (3, .int y0), (4, .int (x4 + (1 : Int32)))]) ⟨rfl, rfl, rfl, rfl, rfl, trivial⟩ ?_
  exact hK5 x1 x2 y0 (x4 + (1 : Int32)) s h
def r_stands_36 (K5 : Int32 → Int32 → Int32 → Int32 → St → Option (Int32 × St)) (x1 : Int32) (x2 : Int32) (x4 : Int32) (s : St) : Option (Int32 × St) := r_stands_41 K5 x1 x2 x4 (1 : Int32) s
set_option maxRecDepth 100000 in
theorem t_r_stands_36 {r : Int32 × St} (K5 : Int32 → Int32 → Int32 → Int32 → St → Option (Int32 × St)) (hK5 : ∀ (x1 : Int32) (x2 : Int32) (x3 : Int32) (x4 : Int32) (s : St), K5 x1 x2 x3 x4 s = some r → Wp (rmd 0 0 0) 176 (zi (fun v s1 => (v, s1) = r)) 0 0 5 [(0, .ref 280), (1, .int x1), (2, .int x2), (3, .int x3), (4, .int x4)] [] (mk s) TT) : ∀ (x1 : Int32) (x2 : Int32) (x4 : Int32) (s : St), r_stands_36 K5 x1 x2 x4 s = some r → Wp (rmd 0 0 0) 176 (zi (fun v s1 => (v, s1) = r)) 0 0 36 [(0, .ref 280), (1, .int x1), (2, .int x2), (4, .int x4)] [] (mk s) TT := by
  intro x1 x2 x4 s h
  unfold r_stands_36 at h
  refine x_iconst (pc := 36) (v := (1)) d176_36 (by decide) ?_
  refine x_goto (pc := 37) (tgt := 41) d176_37 (by decide) ?_
  refine wp_lv (lv' := [(0, .ref 280), (1, .int x1), (2, .int x2), (4, .int x4)]) ⟨rfl, rfl, rfl, rfl, trivial⟩ ?_
  exact t_r_stands_41 K5 hK5 x1 x2 x4 (1 : Int32) s h
def r_stands_5 : Nat → Int32 → Int32 → Int32 → Int32 → St → Option (Int32 × St)
  | 0, _, _, _, _, _ => none
  | n + 1, x1, x2, x3, x4, s => grd (ib x1 7) (s.1 255 0 x1.toNatClampNeg) fun v1 => if v1 ≤ x4 then (grd (zo x3) (x3, s) some) else (if x3 = 0 then (grd (ib (((32 : Int32) * x1) + x4) 224) (s.1 259 0 (((32 : Int32) * x1) + x4).toNatClampNeg) fun v2 => if v2 = x2 then (r_stands_36 (r_stands_5 n) x1 x2 x4 s) else (r_stands_41 (r_stands_5 n) x1 x2 x4 (0 : Int32) s)) else (r_stands_36 (r_stands_5 n) x1 x2 x4 s))
set_option maxRecDepth 100000 in
theorem t_r_stands_5 {r : Int32 × St} : ∀ (n : Nat) (x1 : Int32) (x2 : Int32) (x3 : Int32) (x4 : Int32) (s : St), r_stands_5 n x1 x2 x3 x4 s = some r → Wp (rmd 0 0 0) 176 (zi (fun v s1 => (v, s1) = r)) 0 0 5 [(0, .ref 280), (1, .int x1), (2, .int x2), (3, .int x3), (4, .int x4)] [] (mk s) TT := by
  intro n
  induction n with
  | zero =>
    intro x1 x2 x3 x4 s h
    rw [r_stands_5.eq_1] at h
    cases h
  | succ n ih =>
    intro x1 x2 x3 x4 s h
    rw [r_stands_5.eq_2] at h
    refine x_iload (pc := 5) d176_5 rfl ?_
    refine x_aload_n (pc := 7) d176_7 rfl ?_
    refine y_getr (pc := 8) d176_8 fk9_134 shL280 rfl ?_
    refine x_iload_n (pc := 11) d176_11 rfl ?_
    refine z_iald (pc := 12) d176_12 shL320 (by decide) h (fun v1 h => ?_)
    refine z_icmp_ge (pc := 13) (tgt := 48) d176_13 (by decide) h (fun h => ?_) (fun h => ?_)
    · skip
      refine x_iload_n (pc := 48) d176_48 rfl ?_
      exact z_zret (pc := 49) d176_49 rfl h
    · skip
      refine x_iload_n (pc := 16) d176_16 rfl ?_
      refine z_if_ne (pc := 17) (tgt := 36) d176_17 (by decide) h (fun h => ?_) (fun h => ?_)
      · skip
        refine wp_lv (lv' := [(0, .ref 280), (1, .int x1), (2, .int x2), (4, .int x4)]) ⟨rfl, rfl, rfl, rfl, trivial⟩ ?_
        exact t_r_stands_36 (r_stands_5 n) ih x1 x2 x4 s h
      · skip
        refine x_aload_n (pc := 20) d176_20 rfl ?_
        refine y_getr (pc := 21) d176_21 fk9_146 shL280 rfl ?_
        refine x_bipush (pc := 24) (v := (32)) d176_24 (by decide) ?_
        refine x_iload_n (pc := 26) d176_26 rfl ?_
        refine x_imul (pc := 27) d176_27 ?_
        refine x_iload (pc := 28) d176_28 rfl ?_
        refine x_iadd (pc := 30) d176_30 ?_
        refine z_iald (pc := 31) d176_31 shL324 (by decide) h (fun v2 h => ?_)
        refine x_iload_n (pc := 32) d176_32 rfl ?_
        refine z_icmp_ne (pc := 33) (tgt := 40) d176_33 (by decide) h (fun h => ?_) (fun h => ?_)
        · skip
          refine x_iconst (pc := 40) (v := (0)) d176_40 (by decide) ?_
          refine wp_lv (lv' := [(0, .ref 280), (1, .int x1), (2, .int x2), (4, .int x4)]) ⟨rfl, rfl, rfl, rfl, trivial⟩ ?_
          exact t_r_stands_41 (r_stands_5 n) ih x1 x2 x4 (0 : Int32) s h
        · skip
          refine wp_lv (lv' := [(0, .ref 280), (1, .int x1), (2, .int x2), (4, .int x4)]) ⟨rfl, rfl, rfl, rfl, trivial⟩ ?_
          exact t_r_stands_36 (r_stands_5 n) ih x1 x2 x4 s h
def r_stands (a0 : Int32) (a1 : Int32) (s : St) : Option (Int32 × St) := r_stands_5 40 a0 a1 (0 : Int32) (0 : Int32) s
set_option maxRecDepth 100000 in
theorem t_r_stands (a0 : Int32) (a1 : Int32) (s : St) (r : Int32 × St) (h : r_stands a0 a1 s = some r) : Ri 0 176 [.ref 280, .int a0, .int a1] s (fun v s1 => (v, s1) = r) := by
  refine ct_of (by decide +kernel) (Nat.le_of_ble_eq_true rfl) ?_
  show Wp _ _ _ _ _ _ [(0, .ref 280), (1, .int a0), (2, .int a1)] _ _ _
  unfold r_stands at h
  refine x_iconst (pc := 0) (v := (0)) d176_0 (by decide) ?_
  refine x_istore_n (pc := 1) d176_1 (by decide) ?_
  refine x_iconst (pc := 2) (v := (0)) d176_2 (by decide) ?_
  refine x_istore (pc := 3) d176_3 (by decide) ?_
  refine wp_lv (lv' := [(0, .ref 280), (1, .int a0), (2, .int a1), (3, .int (0 : Int32)), (4, .int (0 : Int32))]) ⟨rfl, rfl, rfl, rfl, rfl, trivial⟩ ?_
  exact t_r_stands_5 40 a0 a1 (0 : Int32) (0 : Int32) s h
def r_dropSerial_34 (K9 : Int32 → Int32 → Int32 → St → Option (St)) (x1 : Int32) (x2 : Int32) (x3 : Int32) (s : St) : Option (St) := K9 x1 x2 (x3 + (-1 : Int32)) s
set_option maxRecDepth 100000 in
theorem t_r_dropSerial_34 {r : St} (K9 : Int32 → Int32 → Int32 → St → Option (St)) (hK9 : ∀ (x1 : Int32) (x2 : Int32) (x3 : Int32) (s : St), K9 x1 x2 x3 s = some r → Wp (rmd 1 0 0) 170 (zv (fun s1 => s1 = r)) 0 0 9 [(0, .ref 280), (1, .int x1), (2, .int x2), (3, .int x3)] [] (mk s) TT) : ∀ (x1 : Int32) (x2 : Int32) (x3 : Int32) (s : St), r_dropSerial_34 K9 x1 x2 x3 s = some r → Wp (rmd 1 0 0) 170 (zv (fun s1 => s1 = r)) 0 0 34 [(0, .ref 280), (1, .int x1), (2, .int x2), (3, .int x3)] [] (mk s) TT := by
  intro x1 x2 x3 s h
  unfold r_dropSerial_34 at h
  refine y_inc (pc := 34) (c := (-1)) d170_34 (by decide) (by decide) rfl ?_
  refine x_goto (pc := 37) (tgt := 9) d170_37 (by decide) ?_
  refine wp_lv (lv' := [(0, .ref 280), (1, .int x1), (2, .int x2), (3, .int (x3 + (-1 : Int32)))]) ⟨rfl, rfl, rfl, rfl, trivial⟩ ?_
  exact hK9 x1 x2 (x3 + (-1 : Int32)) s h
def r_dropSerial_9 : Nat → Int32 → Int32 → Int32 → St → Option (St)
  | 0, _, _, _, _ => none
  | n + 1, x1, x2, x3, s => if x3 < 0 then (some s) else (grd (ib (((32 : Int32) * x1) + x3) 224) (s.1 259 0 (((32 : Int32) * x1) + x3).toNatClampNeg) fun v2 => if v2 = x2 then (cal (r_fromRow x1 x3 s) fun s3 => r_dropSerial_34 (r_dropSerial_9 n) x1 x2 x3 s3) else (r_dropSerial_34 (r_dropSerial_9 n) x1 x2 x3 s))
set_option maxRecDepth 100000 in
theorem t_r_dropSerial_9 {r : St} : ∀ (n : Nat) (x1 : Int32) (x2 : Int32) (x3 : Int32) (s : St), r_dropSerial_9 n x1 x2 x3 s = some r → Wp (rmd 1 0 0) 170 (zv (fun s1 => s1 = r)) 0 0 9 [(0, .ref 280), (1, .int x1), (2, .int x2), (3, .int x3)] [] (mk s) TT := by
  intro n
  induction n with
  | zero =>
    intro x1 x2 x3 s h
    rw [r_dropSerial_9.eq_1] at h
    cases h
  | succ n ih =>
    intro x1 x2 x3 s h
    rw [r_dropSerial_9.eq_2] at h
    refine x_iload_n (pc := 9) d170_9 rfl ?_
    refine z_if_lt (pc := 10) (tgt := 40) d170_10 (by decide) h (fun h => ?_) (fun h => ?_)
    · skip
      exact z_vret (pc := 40) d170_40 rfl h
    · skip
      refine x_aload_n (pc := 13) d170_13 rfl ?_
      refine y_getr (pc := 14) d170_14 fk9_146 shL280 rfl ?_
      refine x_bipush (pc := 17) (v := (32)) d170_17 (by decide) ?_
      refine x_iload_n (pc := 19) d170_19 rfl ?_
      refine x_imul (pc := 20) d170_20 ?_
      refine x_iload_n (pc := 21) d170_21 rfl ?_
      refine x_iadd (pc := 22) d170_22 ?_
      refine z_iald (pc := 23) d170_23 shL324 (by decide) h (fun v2 h => ?_)
      refine x_iload_n (pc := 24) d170_24 rfl ?_
      refine z_icmp_ne (pc := 25) (tgt := 34) d170_25 (by decide) h (fun h => ?_) (fun h => ?_)
      · skip
        refine wp_lv (lv' := [(0, .ref 280), (1, .int x1), (2, .int x2), (3, .int x3)]) ⟨rfl, rfl, rfl, rfl, trivial⟩ ?_
        exact t_r_dropSerial_34 (r_dropSerial_9 n) ih x1 x2 x3 s h
      · skip
        refine x_aload_n (pc := 28) d170_28 rfl ?_
        refine x_iload_n (pc := 29) d170_29 rfl ?_
        refine x_iload_n (pc := 30) d170_30 rfl ?_
        refine z_cV2v (pc := 31) d170_31 ml9_356 mv165 shL280 (t_r_fromRow x1 x3 s) (by decide) (Nat.le_of_ble_eq_true rfl) ⟨Nat.zero_le _, Nat.zero_le _⟩ h (fun s3 h => ?_)
        refine wp_lv (lv' := [(0, .ref 280), (1, .int x1), (2, .int x2), (3, .int x3)]) ⟨rfl, rfl, rfl, rfl, trivial⟩ ?_
        exact t_r_dropSerial_34 (r_dropSerial_9 n) ih x1 x2 x3 s3 h
def r_dropSerial (a0 : Int32) (a1 : Int32) (s : St) : Option (St) := grd (ib a0 7) (s.1 255 0 a0.toNatClampNeg) fun v1 => r_dropSerial_9 40 a0 a1 (v1 - (1 : Int32)) s
set_option maxRecDepth 100000 in
theorem t_r_dropSerial (a0 : Int32) (a1 : Int32) (s : St) (r : St) (h : r_dropSerial a0 a1 s = some r) : Rv 1 170 [.ref 280, .int a0, .int a1] s (fun s1 => s1 = r) := by
  refine ct_of (by decide +kernel) (Nat.le_of_ble_eq_true rfl) ?_
  show Wp _ _ _ _ _ _ [(0, .ref 280), (1, .int a0), (2, .int a1)] _ _ _
  unfold r_dropSerial at h
  refine x_aload_n (pc := 0) d170_0 rfl ?_
  refine y_getr (pc := 1) d170_1 fk9_134 shL280 rfl ?_
  refine x_iload_n (pc := 4) d170_4 rfl ?_
  refine z_iald (pc := 5) d170_5 shL320 (by decide) h (fun v1 h => ?_)
  refine x_iconst (pc := 6) (v := (1)) d170_6 (by decide) ?_
  refine x_isub (pc := 7) d170_7 ?_
  refine x_istore_n (pc := 8) d170_8 (by decide) ?_
  refine wp_lv (lv' := [(0, .ref 280), (1, .int a0), (2, .int a1), (3, .int (v1 - (1 : Int32)))]) ⟨rfl, rfl, rfl, rfl, trivial⟩ ?_
  exact t_r_dropSerial_9 40 a0 a1 (v1 - (1 : Int32)) s h
def r_goIn_92 (x1 : Int32) (x2 : Int32) (x3 : Int32) (x4 : Int32) (x5 : Int32) (y0 : Int64) (y1 : Int32) (s : St) : Option (St) := grd (ib y1 63) (sl s 250 0 y1.toNatClampNeg y0) fun s9 => grd (ib x5 63 ∧ zo (0 : Int32)) (si s9 251 0 x5.toNatClampNeg (0 : Int32)) fun s10 => grd (ib x5 63) (si s10 252 0 x5.toNatClampNeg (0 : Int32)) fun s11 => grd (ib x1 7) (si s11 242 0 x1.toNatClampNeg x4) fun s12 => grd (ib (((3 : Int32) * x2) + x3) 1440) (s12.1 219 0 (((3 : Int32) * x2) + x3).toNatClampNeg) fun v13 => grd (ib x1 7) (si s12 241 0 x1.toNatClampNeg v13) fun s14 => some s14
set_option maxRecDepth 100000 in
theorem t_r_goIn_92 {r : St} : ∀ (x1 : Int32) (x2 : Int32) (x3 : Int32) (x4 : Int32) (x5 : Int32) (y0 : Int64) (y1 : Int32) (s : St), r_goIn_92 x1 x2 x3 x4 x5 y0 y1 s = some r → Wp (rmd 0 0 0) 167 (zv (fun s1 => s1 = r)) 0 0 92 [(0, .ref 280), (1, .int x1), (2, .int x2), (3, .int x3), (4, .int x4), (5, .int x5)] [.long y0, .int y1, .ref 315] (mk s) TT := by
  intro x1 x2 x3 x4 x5 y0 y1 s h
  unfold r_goIn_92 at h
  refine z_last (pc := 92) d167_92 shL315 (by decide) h (fun s9 h => ?_)
  refine x_aload_n (pc := 93) d167_93 rfl ?_
  refine y_getr (pc := 94) d167_94 fk9_122 shL280 rfl ?_
  refine x_iload (pc := 97) d167_97 rfl ?_
  refine x_iconst (pc := 99) (v := (0)) d167_99 (by decide) ?_
  refine z_zast (pc := 100) d167_100 shL316 (by decide) h (fun s10 h => ?_)
  refine x_aload_n (pc := 101) d167_101 rfl ?_
  refine y_getr (pc := 102) d167_102 fk9_125 shL280 rfl ?_
  refine x_iload (pc := 105) d167_105 rfl ?_
  refine x_iconst (pc := 107) (v := (0)) d167_107 (by decide) ?_
  refine z_iast (pc := 108) d167_108 shL317 (by decide) h (fun s11 h => ?_)
  refine x_aload_n (pc := 109) d167_109 rfl ?_
  refine y_getr (pc := 110) d167_110 fk9_95 shL280 rfl ?_
  refine x_iload_n (pc := 113) d167_113 rfl ?_
  refine x_iload (pc := 114) d167_114 rfl ?_
  refine z_iast (pc := 116) d167_116 shL307 (by decide) h (fun s12 h => ?_)
  refine x_aload_n (pc := 117) d167_117 rfl ?_
  refine y_getr (pc := 118) d167_118 fk9_92 shL280 rfl ?_
  refine x_iload_n (pc := 121) d167_121 rfl ?_
  refine x_aload_n (pc := 122) d167_122 rfl ?_
  refine y_getr (pc := 123) d167_123 fk9_42 shL280 rfl ?_
  refine x_iconst (pc := 126) (v := (3)) d167_126 (by decide) ?_
  refine x_iload_n (pc := 127) d167_127 rfl ?_
  refine x_imul (pc := 128) d167_128 ?_
  refine x_iload_n (pc := 129) d167_129 rfl ?_
  refine x_iadd (pc := 130) d167_130 ?_
  refine z_iald (pc := 131) d167_131 shL290 (by decide) h (fun v13 h => ?_)
  refine z_iast (pc := 132) d167_132 shL306 (by decide) h (fun s14 h => ?_)
  exact z_vret (pc := 133) d167_133 rfl h
def r_goIn_89 (x1 : Int32) (x2 : Int32) (x3 : Int32) (x4 : Int32) (x5 : Int32) (y0 : Int32) (s : St) : Option (St) := r_goIn_92 x1 x2 x3 x4 x5 (-1 : Int64) y0 s
set_option maxRecDepth 100000 in
theorem t_r_goIn_89 {r : St} : ∀ (x1 : Int32) (x2 : Int32) (x3 : Int32) (x4 : Int32) (x5 : Int32) (y0 : Int32) (s : St), r_goIn_89 x1 x2 x3 x4 x5 y0 s = some r → Wp (rmd 0 0 0) 167 (zv (fun s1 => s1 = r)) 0 0 89 [(0, .ref 280), (1, .int x1), (2, .int x2), (3, .int x3), (4, .int x4), (5, .int x5)] [.int y0, .ref 315] (mk s) TT := by
  intro x1 x2 x3 x4 x5 y0 s h
  unfold r_goIn_89 at h
  refine x_ldc2 (pc := 89) (v := (-1)) (gw_t (i := 1230) (by decide +kernel) (by decide +kernel)) d167_89 ?_
  refine wp_lv (lv' := [(0, .ref 280), (1, .int x1), (2, .int x2), (3, .int x3), (4, .int x4), (5, .int x5)]) ⟨rfl, rfl, rfl, rfl, rfl, rfl, trivial⟩ ?_
  exact t_r_goIn_92 x1 x2 x3 x4 x5 (-1 : Int64) y0 s h
def r_goIn (a0 : Int32) (a1 : Int32) (a2 : Int32) (a3 : Int32) (s : St) : Option (St) := grd (ib a0 7) (s.1 246 0 a0.toNatClampNeg) fun v1 => grd (ib a0 7) (s.1 246 0 a0.toNatClampNeg) fun v2 => grd (ib a0 7) (si s 246 0 a0.toNatClampNeg (v2 + (1 : Int32))) fun s3 => grd (ib (((9 : Int32) * a0) + v1) 63) (si s3 247 0 (((9 : Int32) * a0) + v1).toNatClampNeg a1) fun s4 => grd (ib (((9 : Int32) * a0) + v1) 63) (si s4 248 0 (((9 : Int32) * a0) + v1).toNatClampNeg a2) fun s5 => grd (ib a0 7) (s5.1 242 0 a0.toNatClampNeg) fun v6 => grd (ib (((9 : Int32) * a0) + v1) 63) (si s5 249 0 (((9 : Int32) * a0) + v1).toNatClampNeg v6) fun s7 => grd (ib a1 480) (s7.1 216 0 a1.toNatClampNeg) fun v8 => if v8 = (18 : Int32) then (if a2 = 0 then (bnd (s7.1 237 0 0) fun v15 => grd (ib a1 480) (s7.1 223 0 a1.toNatClampNeg) fun v16 => r_goIn_92 a0 a1 a2 a3 (((9 : Int32) * a0) + v1) (v15.toInt64 + v16.toInt64) (((9 : Int32) * a0) + v1) s7) else (r_goIn_89 a0 a1 a2 a3 (((9 : Int32) * a0) + v1) (((9 : Int32) * a0) + v1) s7)) else (r_goIn_89 a0 a1 a2 a3 (((9 : Int32) * a0) + v1) (((9 : Int32) * a0) + v1) s7)
set_option maxRecDepth 100000 in
theorem t_r_goIn (a0 : Int32) (a1 : Int32) (a2 : Int32) (a3 : Int32) (s : St) (r : St) (h : r_goIn a0 a1 a2 a3 s = some r) : Rv 0 167 [.ref 280, .int a0, .int a1, .int a2, .int a3] s (fun s1 => s1 = r) := by
  refine ct_of (by decide +kernel) (Nat.le_of_ble_eq_true rfl) ?_
  show Wp _ _ _ _ _ _ [(0, .ref 280), (1, .int a0), (2, .int a1), (3, .int a2), (4, .int a3)] _ _ _
  unfold r_goIn at h
  refine x_bipush (pc := 0) (v := (9)) d167_0 (by decide) ?_
  refine x_iload_n (pc := 2) d167_2 rfl ?_
  refine x_imul (pc := 3) d167_3 ?_
  refine x_aload_n (pc := 4) d167_4 rfl ?_
  refine y_getr (pc := 5) d167_5 fk9_107 shL280 rfl ?_
  refine x_iload_n (pc := 8) d167_8 rfl ?_
  refine z_iald (pc := 9) d167_9 shL311 (by decide) h (fun v1 h => ?_)
  refine x_iadd (pc := 10) d167_10 ?_
  refine x_istore (pc := 11) d167_11 (by decide) ?_
  refine x_aload_n (pc := 13) d167_13 rfl ?_
  refine y_getr (pc := 14) d167_14 fk9_107 shL280 rfl ?_
  refine x_iload_n (pc := 17) d167_17 rfl ?_
  refine x_dup2 (pc := 18) d167_18 rfl rfl ?_
  refine z_iald (pc := 19) d167_19 shL311 (by decide) h (fun v2 h => ?_)
  refine x_iconst (pc := 20) (v := (1)) d167_20 (by decide) ?_
  refine x_iadd (pc := 21) d167_21 ?_
  refine z_iast (pc := 22) d167_22 shL311 (by decide) h (fun s3 h => ?_)
  refine x_aload_n (pc := 23) d167_23 rfl ?_
  refine y_getr (pc := 24) d167_24 fk9_110 shL280 rfl ?_
  refine x_iload (pc := 27) d167_27 rfl ?_
  refine x_iload_n (pc := 29) d167_29 rfl ?_
  refine z_iast (pc := 30) d167_30 shL312 (by decide) h (fun s4 h => ?_)
  refine x_aload_n (pc := 31) d167_31 rfl ?_
  refine y_getr (pc := 32) d167_32 fk9_113 shL280 rfl ?_
  refine x_iload (pc := 35) d167_35 rfl ?_
  refine x_iload_n (pc := 37) d167_37 rfl ?_
  refine z_iast (pc := 38) d167_38 shL313 (by decide) h (fun s5 h => ?_)
  refine x_aload_n (pc := 39) d167_39 rfl ?_
  refine y_getr (pc := 40) d167_40 fk9_116 shL280 rfl ?_
  refine x_iload (pc := 43) d167_43 rfl ?_
  refine x_aload_n (pc := 45) d167_45 rfl ?_
  refine y_getr (pc := 46) d167_46 fk9_95 shL280 rfl ?_
  refine x_iload_n (pc := 49) d167_49 rfl ?_
  refine z_iald (pc := 50) d167_50 shL307 (by decide) h (fun v6 h => ?_)
  refine z_iast (pc := 51) d167_51 shL314 (by decide) h (fun s7 h => ?_)
  refine x_aload_n (pc := 52) d167_52 rfl ?_
  refine y_getr (pc := 53) d167_53 fk9_119 shL280 rfl ?_
  refine x_iload (pc := 56) d167_56 rfl ?_
  refine x_aload_n (pc := 58) d167_58 rfl ?_
  refine y_getr (pc := 59) d167_59 fk9_33 shL280 rfl ?_
  refine x_iload_n (pc := 62) d167_62 rfl ?_
  refine z_iald (pc := 63) d167_63 shL287 (by decide) h (fun v8 h => ?_)
  refine x_bipush (pc := 64) (v := (18)) d167_64 (by decide) ?_
  refine z_icmp_ne (pc := 66) (tgt := 89) d167_66 (by decide) h (fun h => ?_) (fun h => ?_)
  · skip
    refine wp_lv (lv' := [(0, .ref 280), (1, .int a0), (2, .int a1), (3, .int a2), (4, .int a3), (5, .int (((9 : Int32) * a0) + v1))]) ⟨rfl, rfl, rfl, rfl, rfl, rfl, trivial⟩ ?_
    exact t_r_goIn_89 a0 a1 a2 a3 (((9 : Int32) * a0) + v1) (((9 : Int32) * a0) + v1) s7 h
  · skip
    refine x_iload_n (pc := 69) d167_69 rfl ?_
    refine z_if_ne (pc := 70) (tgt := 89) d167_70 (by decide) h (fun h => ?_) (fun h => ?_)
    · skip
      refine wp_lv (lv' := [(0, .ref 280), (1, .int a0), (2, .int a1), (3, .int a2), (4, .int a3), (5, .int (((9 : Int32) * a0) + v1))]) ⟨rfl, rfl, rfl, rfl, rfl, rfl, trivial⟩ ?_
      exact t_r_goIn_89 a0 a1 a2 a3 (((9 : Int32) * a0) + v1) (((9 : Int32) * a0) + v1) s7 h
    · skip
      refine x_aload_n (pc := 73) d167_73 rfl ?_
      refine z_geti (pc := 74) d167_74 fk9_353 shL280 rfl h (fun v15 h => ?_)
      refine x_i2l (pc := 77) d167_77 ?_
      refine x_aload_n (pc := 78) d167_78 rfl ?_
      refine y_getr (pc := 79) d167_79 fk9_55 shL280 rfl ?_
      refine x_iload_n (pc := 82) d167_82 rfl ?_
      refine z_iald (pc := 83) d167_83 shL294 (by decide) h (fun v16 h => ?_)
      refine x_i2l (pc := 84) d167_84 ?_
      refine x_ladd (pc := 85) d167_85 ?_
      refine x_goto (pc := 86) (tgt := 92) d167_86 (by decide) ?_
      refine wp_lv (lv' := [(0, .ref 280), (1, .int a0), (2, .int a1), (3, .int a2), (4, .int a3), (5, .int (((9 : Int32) * a0) + v1))]) ⟨rfl, rfl, rfl, rfl, rfl, rfl, trivial⟩ ?_
      exact t_r_goIn_92 a0 a1 a2 a3 (((9 : Int32) * a0) + v1) (v15.toInt64 + v16.toInt64) (((9 : Int32) * a0) + v1) s7 h
def r_leave_114 (K68 : Int32 → Int32 → St → Option (St)) (x1 : Int32) (x3 : Int32) (s : St) : Option (St) := K68 x1 (x3 + (-1 : Int32)) s
set_option maxRecDepth 100000 in
theorem t_r_leave_114 {r : St} (K68 : Int32 → Int32 → St → Option (St)) (hK68 : ∀ (x1 : Int32) (x3 : Int32) (s : St), K68 x1 x3 s = some r → Wp (rmd 1 0 0) 164 (zv (fun s1 => s1 = r)) 0 0 68 [(0, .ref 280), (1, .int x1), (3, .int x3)] [] (mk s) TT) : ∀ (x1 : Int32) (x3 : Int32) (s : St), r_leave_114 K68 x1 x3 s = some r → Wp (rmd 1 0 0) 164 (zv (fun s1 => s1 = r)) 0 0 114 [(0, .ref 280), (1, .int x1), (3, .int x3)] [] (mk s) TT := by
  intro x1 x3 s h
  unfold r_leave_114 at h
  refine y_inc (pc := 114) (c := (-1)) d164_114 (by decide) (by decide) rfl ?_
  refine x_goto (pc := 117) (tgt := 68) d164_117 (by decide) ?_
  refine wp_lv (lv' := [(0, .ref 280), (1, .int x1), (3, .int (x3 + (-1 : Int32)))]) ⟨rfl, rfl, rfl, trivial⟩ ?_
  exact hK68 x1 (x3 + (-1 : Int32)) s h
def r_leave_68 : Nat → Int32 → Int32 → St → Option (St)
  | 0, _, _, _ => none
  | n + 1, x1, x3, s => if x3 < 0 then (some s) else (grd (ib (((32 : Int32) * x1) + x3) 224) (s.1 256 0 (((32 : Int32) * x1) + x3).toNatClampNeg) fun v10 => if v10 = (7 : Int32) then (grd (ib (((32 : Int32) * x1) + x3) 224) (s.1 258 0 (((32 : Int32) * x1) + x3).toNatClampNeg) fun v11 => grd (ib x1 7) (s.1 246 0 x1.toNatClampNeg) fun v12 => if v11 = v12 then (cal (r_fromRow x1 x3 s) fun s13 => r_leave_114 (r_leave_68 n) x1 x3 s13) else (r_leave_114 (r_leave_68 n) x1 x3 s)) else (r_leave_114 (r_leave_68 n) x1 x3 s))
set_option maxRecDepth 100000 in
theorem t_r_leave_68 {r : St} : ∀ (n : Nat) (x1 : Int32) (x3 : Int32) (s : St), r_leave_68 n x1 x3 s = some r → Wp (rmd 1 0 0) 164 (zv (fun s1 => s1 = r)) 0 0 68 [(0, .ref 280), (1, .int x1), (3, .int x3)] [] (mk s) TT := by
  intro n
  induction n with
  | zero =>
    intro x1 x3 s h
    rw [r_leave_68.eq_1] at h
    cases h
  | succ n ih =>
    intro x1 x3 s h
    rw [r_leave_68.eq_2] at h
    refine x_iload_n (pc := 68) d164_68 rfl ?_
    refine z_if_lt (pc := 69) (tgt := 120) d164_69 (by decide) h (fun h => ?_) (fun h => ?_)
    · skip
      exact z_vret (pc := 120) d164_120 rfl h
    · skip
      refine x_aload_n (pc := 72) d164_72 rfl ?_
      refine y_getr (pc := 73) d164_73 fk9_137 shL280 rfl ?_
      refine x_bipush (pc := 76) (v := (32)) d164_76 (by decide) ?_
      refine x_iload_n (pc := 78) d164_78 rfl ?_
      refine x_imul (pc := 79) d164_79 ?_
      refine x_iload_n (pc := 80) d164_80 rfl ?_
      refine x_iadd (pc := 81) d164_81 ?_
      refine z_iald (pc := 82) d164_82 shL321 (by decide) h (fun v10 h => ?_)
      refine x_bipush (pc := 83) (v := (7)) d164_83 (by decide) ?_
      refine z_icmp_ne (pc := 85) (tgt := 114) d164_85 (by decide) h (fun h => ?_) (fun h => ?_)
      · skip
        refine wp_lv (lv' := [(0, .ref 280), (1, .int x1), (3, .int x3)]) ⟨rfl, rfl, rfl, trivial⟩ ?_
        exact t_r_leave_114 (r_leave_68 n) ih x1 x3 s h
      · skip
        refine x_aload_n (pc := 88) d164_88 rfl ?_
        refine y_getr (pc := 89) d164_89 fk9_143 shL280 rfl ?_
        refine x_bipush (pc := 92) (v := (32)) d164_92 (by decide) ?_
        refine x_iload_n (pc := 94) d164_94 rfl ?_
        refine x_imul (pc := 95) d164_95 ?_
        refine x_iload_n (pc := 96) d164_96 rfl ?_
        refine x_iadd (pc := 97) d164_97 ?_
        refine z_iald (pc := 98) d164_98 shL323 (by decide) h (fun v11 h => ?_)
        refine x_aload_n (pc := 99) d164_99 rfl ?_
        refine y_getr (pc := 100) d164_100 fk9_107 shL280 rfl ?_
        refine x_iload_n (pc := 103) d164_103 rfl ?_
        refine z_iald (pc := 104) d164_104 shL311 (by decide) h (fun v12 h => ?_)
        refine z_icmp_ne (pc := 105) (tgt := 114) d164_105 (by decide) h (fun h => ?_) (fun h => ?_)
        · skip
          refine wp_lv (lv' := [(0, .ref 280), (1, .int x1), (3, .int x3)]) ⟨rfl, rfl, rfl, trivial⟩ ?_
          exact t_r_leave_114 (r_leave_68 n) ih x1 x3 s h
        · skip
          refine x_aload_n (pc := 108) d164_108 rfl ?_
          refine x_iload_n (pc := 109) d164_109 rfl ?_
          refine x_iload_n (pc := 110) d164_110 rfl ?_
          refine z_cV2v (pc := 111) d164_111 ml9_356 mv165 shL280 (t_r_fromRow x1 x3 s) (by decide) (Nat.le_of_ble_eq_true rfl) ⟨Nat.zero_le _, Nat.zero_le _⟩ h (fun s13 h => ?_)
          refine wp_lv (lv' := [(0, .ref 280), (1, .int x1), (3, .int x3)]) ⟨rfl, rfl, rfl, trivial⟩ ?_
          exact t_r_leave_114 (r_leave_68 n) ih x1 x3 s13 h
def r_leave (a0 : Int32) (s : St) : Option (St) := grd (ib a0 7) (s.1 246 0 a0.toNatClampNeg) fun v1 => grd (ib a0 7) (si s 246 0 a0.toNatClampNeg (v1 - (1 : Int32))) fun s2 => grd (ib a0 7) (s2.1 246 0 a0.toNatClampNeg) fun v3 => grd (ib (((9 : Int32) * a0) + v3) 63) (s2.1 249 0 (((9 : Int32) * a0) + v3).toNatClampNeg) fun v4 => grd (ib a0 7) (si s2 242 0 a0.toNatClampNeg v4) fun s5 => grd (ib (((9 : Int32) * a0) + v3) 63) (s5.1 247 0 (((9 : Int32) * a0) + v3).toNatClampNeg) fun v6 => grd (ib v6 480) (s5.1 216 0 v6.toNatClampNeg) fun v7 => if v7 = (18 : Int32) then (grd (ib (((9 : Int32) * a0) + v3) 63) (s5.1 248 0 (((9 : Int32) * a0) + v3).toNatClampNeg) fun v8 => if v8 = 0 then (grd (ib a0 7) (s5.1 255 0 a0.toNatClampNeg) fun v9 => r_leave_68 40 a0 (v9 - (1 : Int32)) s5) else (some s5)) else (some s5)
set_option maxRecDepth 100000 in
theorem t_r_leave (a0 : Int32) (s : St) (r : St) (h : r_leave a0 s = some r) : Rv 1 164 [.ref 280, .int a0] s (fun s1 => s1 = r) := by
  refine ct_of (by decide +kernel) (Nat.le_of_ble_eq_true rfl) ?_
  show Wp _ _ _ _ _ _ [(0, .ref 280), (1, .int a0)] _ _ _
  unfold r_leave at h
  refine x_aload_n (pc := 0) d164_0 rfl ?_
  refine y_getr (pc := 1) d164_1 fk9_107 shL280 rfl ?_
  refine x_iload_n (pc := 4) d164_4 rfl ?_
  refine x_dup2 (pc := 5) d164_5 rfl rfl ?_
  refine z_iald (pc := 6) d164_6 shL311 (by decide) h (fun v1 h => ?_)
  refine x_iconst (pc := 7) (v := (1)) d164_7 (by decide) ?_
  refine x_isub (pc := 8) d164_8 ?_
  refine z_iast (pc := 9) d164_9 shL311 (by decide) h (fun s2 h => ?_)
  refine x_bipush (pc := 10) (v := (9)) d164_10 (by decide) ?_
  refine x_iload_n (pc := 12) d164_12 rfl ?_
  refine x_imul (pc := 13) d164_13 ?_
  refine x_aload_n (pc := 14) d164_14 rfl ?_
  refine y_getr (pc := 15) d164_15 fk9_107 shL280 rfl ?_
  refine x_iload_n (pc := 18) d164_18 rfl ?_
  refine z_iald (pc := 19) d164_19 shL311 (by decide) h (fun v3 h => ?_)
  refine x_iadd (pc := 20) d164_20 ?_
  refine x_istore_n (pc := 21) d164_21 (by decide) ?_
  refine x_aload_n (pc := 22) d164_22 rfl ?_
  refine y_getr (pc := 23) d164_23 fk9_95 shL280 rfl ?_
  refine x_iload_n (pc := 26) d164_26 rfl ?_
  refine x_aload_n (pc := 27) d164_27 rfl ?_
  refine y_getr (pc := 28) d164_28 fk9_116 shL280 rfl ?_
  refine x_iload_n (pc := 31) d164_31 rfl ?_
  refine z_iald (pc := 32) d164_32 shL314 (by decide) h (fun v4 h => ?_)
  refine z_iast (pc := 33) d164_33 shL307 (by decide) h (fun s5 h => ?_)
  refine x_aload_n (pc := 34) d164_34 rfl ?_
  refine y_getr (pc := 35) d164_35 fk9_33 shL280 rfl ?_
  refine x_aload_n (pc := 38) d164_38 rfl ?_
  refine y_getr (pc := 39) d164_39 fk9_110 shL280 rfl ?_
  refine x_iload_n (pc := 42) d164_42 rfl ?_
  refine z_iald (pc := 43) d164_43 shL312 (by decide) h (fun v6 h => ?_)
  refine z_iald (pc := 44) d164_44 shL287 (by decide) h (fun v7 h => ?_)
  refine x_bipush (pc := 45) (v := (18)) d164_45 (by decide) ?_
  refine z_icmp_ne (pc := 47) (tgt := 120) d164_47 (by decide) h (fun h => ?_) (fun h => ?_)
  · skip
    exact z_vret (pc := 120) d164_120 rfl h
  · skip
    refine x_aload_n (pc := 50) d164_50 rfl ?_
    refine y_getr (pc := 51) d164_51 fk9_113 shL280 rfl ?_
    refine x_iload_n (pc := 54) d164_54 rfl ?_
    refine z_iald (pc := 55) d164_55 shL313 (by decide) h (fun v8 h => ?_)
    refine z_if_ne (pc := 56) (tgt := 120) d164_56 (by decide) h (fun h => ?_) (fun h => ?_)
    · skip
      exact z_vret (pc := 120) d164_120 rfl h
    · skip
      refine x_aload_n (pc := 59) d164_59 rfl ?_
      refine y_getr (pc := 60) d164_60 fk9_134 shL280 rfl ?_
      refine x_iload_n (pc := 63) d164_63 rfl ?_
      refine z_iald (pc := 64) d164_64 shL320 (by decide) h (fun v9 h => ?_)
      refine x_iconst (pc := 65) (v := (1)) d164_65 (by decide) ?_
      refine x_isub (pc := 66) d164_66 ?_
      refine x_istore_n (pc := 67) d164_67 (by decide) ?_
      refine wp_lv (lv' := [(0, .ref 280), (1, .int a0), (3, .int (v9 - (1 : Int32)))]) ⟨rfl, rfl, rfl, trivial⟩ ?_
      exact t_r_leave_68 40 a0 (v9 - (1 : Int32)) s5 h
def r_atLeast (a0 : Int32) (a1 : Int32) (s : St) : Option (Int32 × St) := if a0 ≤ a1 then (some (a1, s)) else (some (a0, s))
set_option maxRecDepth 100000 in
theorem t_r_atLeast (a0 : Int32) (a1 : Int32) (s : St) (r : Int32 × St) (h : r_atLeast a0 a1 s = some r) : Ri 0 168 [.int a0, .int a1] s (fun v s1 => (v, s1) = r) := by
  refine ct_of (by decide +kernel) (Nat.le_of_ble_eq_true rfl) ?_
  show Wp _ _ _ _ _ _ [(0, .int a0), (1, .int a1)] _ _ _
  unfold r_atLeast at h
  refine x_iload_n (pc := 0) d168_0 rfl ?_
  refine x_iload_n (pc := 1) d168_1 rfl ?_
  refine z_icmp_le (pc := 2) (tgt := 9) d168_2 (by decide) h (fun h => ?_) (fun h => ?_)
  · skip
    refine x_iload_n (pc := 9) d168_9 rfl ?_
    exact z_iret (pc := 10) d168_10 rfl h
  · skip
    refine x_iload_n (pc := 5) d168_5 rfl ?_
    refine x_goto (pc := 6) (tgt := 10) d168_6 (by decide) ?_
    exact z_iret (pc := 10) d168_10 rfl h
def r_settle_189 (K0 : Int32 → St → Option (Int32 × St)) (x1 : Int32) (s : St) : Option (Int32 × St) := K0 x1 s
set_option maxRecDepth 100000 in
theorem t_r_settle_189 {r : Int32 × St} (K0 : Int32 → St → Option (Int32 × St)) (hK0 : ∀ (x1 : Int32) (s : St), K0 x1 s = some r → Wp (rmd 2 0 0) 163 (zi (fun v s1 => (v, s1) = r)) 0 0 0 [(0, .ref 280), (1, .int x1)] [] (mk s) TT) : ∀ (x1 : Int32) (s : St), r_settle_189 K0 x1 s = some r → Wp (rmd 2 0 0) 163 (zi (fun v s1 => (v, s1) = r)) 0 0 189 [(0, .ref 280), (1, .int x1)] [] (mk s) TT := by
  intro x1 s h
  unfold r_settle_189 at h
  refine x_goto (pc := 189) (tgt := 0) d163_189 (by decide) ?_
  refine wp_lv (lv' := [(0, .ref 280), (1, .int x1)]) ⟨rfl, rfl, trivial⟩ ?_
  exact hK0 x1 s h
def r_settle_177 (K0 : Int32 → St → Option (Int32 × St)) (x1 : Int32) (x3 : Int32) (s : St) : Option (Int32 × St) := grd (ib x3 480) (s.1 217 0 x3.toNatClampNeg) fun v12 => grd (ib x1 7) (si s 241 0 x1.toNatClampNeg v12) fun s13 => r_settle_189 K0 x1 s13
set_option maxRecDepth 100000 in
theorem t_r_settle_177 {r : Int32 × St} (K0 : Int32 → St → Option (Int32 × St)) (hK0 : ∀ (x1 : Int32) (s : St), K0 x1 s = some r → Wp (rmd 2 0 0) 163 (zi (fun v s1 => (v, s1) = r)) 0 0 0 [(0, .ref 280), (1, .int x1)] [] (mk s) TT) : ∀ (x1 : Int32) (x3 : Int32) (s : St), r_settle_177 K0 x1 x3 s = some r → Wp (rmd 2 0 0) 163 (zi (fun v s1 => (v, s1) = r)) 0 0 177 [(0, .ref 280), (1, .int x1), (3, .int x3)] [] (mk s) TT := by
  intro x1 x3 s h
  unfold r_settle_177 at h
  refine x_aload_n (pc := 177) d163_177 rfl ?_
  refine y_getr (pc := 178) d163_178 fk9_92 shL280 rfl ?_
  refine x_iload_n (pc := 181) d163_181 rfl ?_
  refine x_aload_n (pc := 182) d163_182 rfl ?_
  refine y_getr (pc := 183) d163_183 fk9_36 shL280 rfl ?_
  refine x_iload_n (pc := 186) d163_186 rfl ?_
  refine z_iald (pc := 187) d163_187 shL288 (by decide) h (fun v12 h => ?_)
  refine z_iast (pc := 188) d163_188 shL306 (by decide) h (fun s13 h => ?_)
  refine wp_lv (lv' := [(0, .ref 280), (1, .int x1)]) ⟨rfl, rfl, trivial⟩ ?_
  exact t_r_settle_189 K0 hK0 x1 s13 h
def r_settle_155 (K0 : Int32 → St → Option (Int32 × St)) (x1 : Int32) (x2 : Int32) (x3 : Int32) (s : St) : Option (Int32 × St) := grd (ib x3 480) (s.1 216 0 x3.toNatClampNeg) fun v11 => if v11 = (15 : Int32) then (grd (ib x2 63) (s.1 252 0 x2.toNatClampNeg) fun v14 => if v14 ≤ 0 then (r_settle_177 K0 x1 x3 s) else (some ((1 : Int32), s))) else (r_settle_177 K0 x1 x3 s)
set_option maxRecDepth 100000 in
theorem t_r_settle_155 {r : Int32 × St} (K0 : Int32 → St → Option (Int32 × St)) (hK0 : ∀ (x1 : Int32) (s : St), K0 x1 s = some r → Wp (rmd 2 0 0) 163 (zi (fun v s1 => (v, s1) = r)) 0 0 0 [(0, .ref 280), (1, .int x1)] [] (mk s) TT) : ∀ (x1 : Int32) (x2 : Int32) (x3 : Int32) (s : St), r_settle_155 K0 x1 x2 x3 s = some r → Wp (rmd 2 0 0) 163 (zi (fun v s1 => (v, s1) = r)) 0 0 155 [(0, .ref 280), (1, .int x1), (2, .int x2), (3, .int x3)] [] (mk s) TT := by
  intro x1 x2 x3 s h
  unfold r_settle_155 at h
  refine x_aload_n (pc := 155) d163_155 rfl ?_
  refine y_getr (pc := 156) d163_156 fk9_33 shL280 rfl ?_
  refine x_iload_n (pc := 159) d163_159 rfl ?_
  refine z_iald (pc := 160) d163_160 shL287 (by decide) h (fun v11 h => ?_)
  refine x_bipush (pc := 161) (v := (15)) d163_161 (by decide) ?_
  refine z_icmp_ne (pc := 163) (tgt := 177) d163_163 (by decide) h (fun h => ?_) (fun h => ?_)
  · skip
    refine wp_lv (lv' := [(0, .ref 280), (1, .int x1), (3, .int x3)]) ⟨rfl, rfl, rfl, trivial⟩ ?_
    exact t_r_settle_177 K0 hK0 x1 x3 s h
  · skip
    refine x_aload_n (pc := 166) d163_166 rfl ?_
    refine y_getr (pc := 167) d163_167 fk9_125 shL280 rfl ?_
    refine x_iload_n (pc := 170) d163_170 rfl ?_
    refine z_iald (pc := 171) d163_171 shL317 (by decide) h (fun v14 h => ?_)
    refine z_if_le (pc := 172) (tgt := 177) d163_172 (by decide) h (fun h => ?_) (fun h => ?_)
    · skip
      refine wp_lv (lv' := [(0, .ref 280), (1, .int x1), (3, .int x3)]) ⟨rfl, rfl, rfl, trivial⟩ ?_
      exact t_r_settle_177 K0 hK0 x1 x3 s h
    · skip
      refine x_iconst (pc := 175) (v := (1)) d163_175 (by decide) ?_
      exact z_zretc (pc := 176) d163_176 rfl (Or.inr rfl) h
def r_settle_111 (K0 : Int32 → St → Option (Int32 × St)) (x1 : Int32) (x2 : Int32) (x3 : Int32) (x4 : Int32) (s : St) : Option (Int32 × St) := grd (ib x3 480) (s.1 216 0 x3.toNatClampNeg) fun v10 => if v10 = (15 : Int32) then (if x4 = (1 : Int32) then (cal (r_note0 (3 : Int32) x1 (0 : Int64) s) fun s15 => grd (ib x1 7) (s15.1 242 0 x1.toNatClampNeg) fun v17 => cal2 (r_atLeast v17 (1 : Int32) s15) fun v19 s18 => cal (r_goIn x1 x3 (2 : Int32) v19 s18) fun s20 => r_settle_189 K0 x1 s20) else (r_settle_155 K0 x1 x2 x3 s)) else (r_settle_155 K0 x1 x2 x3 s)
set_option maxRecDepth 100000 in
theorem t_r_settle_111 {r : Int32 × St} (K0 : Int32 → St → Option (Int32 × St)) (hK0 : ∀ (x1 : Int32) (s : St), K0 x1 s = some r → Wp (rmd 2 0 0) 163 (zi (fun v s1 => (v, s1) = r)) 0 0 0 [(0, .ref 280), (1, .int x1)] [] (mk s) TT) : ∀ (x1 : Int32) (x2 : Int32) (x3 : Int32) (x4 : Int32) (s : St), r_settle_111 K0 x1 x2 x3 x4 s = some r → Wp (rmd 2 0 0) 163 (zi (fun v s1 => (v, s1) = r)) 0 0 111 [(0, .ref 280), (1, .int x1), (2, .int x2), (3, .int x3), (4, .int x4)] [] (mk s) TT := by
  intro x1 x2 x3 x4 s h
  unfold r_settle_111 at h
  refine x_aload_n (pc := 111) d163_111 rfl ?_
  refine y_getr (pc := 112) d163_112 fk9_33 shL280 rfl ?_
  refine x_iload_n (pc := 115) d163_115 rfl ?_
  refine z_iald (pc := 116) d163_116 shL287 (by decide) h (fun v10 h => ?_)
  refine x_bipush (pc := 117) (v := (15)) d163_117 (by decide) ?_
  refine z_icmp_ne (pc := 119) (tgt := 155) d163_119 (by decide) h (fun h => ?_) (fun h => ?_)
  · skip
    refine wp_lv (lv' := [(0, .ref 280), (1, .int x1), (2, .int x2), (3, .int x3)]) ⟨rfl, rfl, rfl, rfl, trivial⟩ ?_
    exact t_r_settle_155 K0 hK0 x1 x2 x3 s h
  · skip
    refine x_iload (pc := 122) d163_122 rfl ?_
    refine x_iconst (pc := 124) (v := (1)) d163_124 (by decide) ?_
    refine z_icmp_ne (pc := 125) (tgt := 155) d163_125 (by decide) h (fun h => ?_) (fun h => ?_)
    · skip
      refine wp_lv (lv' := [(0, .ref 280), (1, .int x1), (2, .int x2), (3, .int x3)]) ⟨rfl, rfl, rfl, rfl, trivial⟩ ?_
      exact t_r_settle_155 K0 hK0 x1 x2 x3 s h
    · skip
      refine x_aload_n (pc := 128) d163_128 rfl ?_
      refine x_iconst (pc := 129) (v := (3)) d163_129 (by decide) ?_
      refine x_iload_n (pc := 130) d163_130 rfl ?_
      refine x_lconst (pc := 131) (v := (0)) d163_131 (by decide) ?_
      refine z_cV3v (pc := 132) d163_132 ml9_364 mv166 shL280 (t_r_note0 (3 : Int32) x1 (0 : Int64) s) (by decide) (Nat.le_of_ble_eq_true rfl) ⟨Nat.zero_le _, Nat.zero_le _⟩ h (fun s15 h => ?_)
      refine x_aload_n (pc := 135) d163_135 rfl ?_
      refine x_iload_n (pc := 136) d163_136 rfl ?_
      refine x_iload_n (pc := 137) d163_137 rfl ?_
      refine x_iconst (pc := 138) (v := (2)) d163_138 (by decide) ?_
      refine x_aload_n (pc := 139) d163_139 rfl ?_
      refine y_getr (pc := 140) d163_140 fk9_95 shL280 rfl ?_
      refine x_iload_n (pc := 143) d163_143 rfl ?_
      refine z_iald (pc := 144) d163_144 shL307 (by decide) h (fun v17 h => ?_)
      refine x_iconst (pc := 145) (v := (1)) d163_145 (by decide) ?_
      refine z_cS2i (pc := 146) d163_146 ml9_371 mv168 (t_r_atLeast v17 (1 : Int32) s15) (by decide) (Nat.le_of_ble_eq_true rfl) ⟨Nat.zero_le _, Nat.zero_le _⟩ h (fun v19 s18 h => ?_)
      refine z_cV4v (pc := 149) d163_149 ml9_367 mv167 shL280 (t_r_goIn x1 x3 (2 : Int32) v19 s18) (by decide) (Nat.le_of_ble_eq_true rfl) ⟨Nat.zero_le _, Nat.zero_le _⟩ h (fun s20 h => ?_)
      refine x_goto (pc := 152) (tgt := 189) d163_152 (by decide) ?_
      refine wp_lv (lv' := [(0, .ref 280), (1, .int x1)]) ⟨rfl, rfl, trivial⟩ ?_
      exact t_r_settle_189 K0 hK0 x1 s20 h
def r_settle_0 : Nat → Int32 → St → Option (Int32 × St)
  | 0, _, _ => none
  | n + 1, x1, s => grd (ib x1 7) (s.1 241 0 x1.toNatClampNeg) fun v1 => if 0 ≤ v1 then (some ((0 : Int32), s)) else (grd (ib x1 7) (s.1 246 0 x1.toNatClampNeg) fun v2 => if v2 ≤ 0 then (some ((0 : Int32), s)) else (grd (ib x1 7) (s.1 246 0 x1.toNatClampNeg) fun v3 => grd (ib ((((9 : Int32) * x1) + v3) - (1 : Int32)) 63) (s.1 247 0 ((((9 : Int32) * x1) + v3) - (1 : Int32)).toNatClampNeg) fun v4 => grd (ib ((((9 : Int32) * x1) + v3) - (1 : Int32)) 63) (s.1 248 0 ((((9 : Int32) * x1) + v3) - (1 : Int32)).toNatClampNeg) fun v5 => cal (r_leave x1 s) fun s6 => grd (ib v4 480) (s6.1 216 0 v4.toNatClampNeg) fun v8 => if v8 = (3 : Int32) then (grd (ib x1 7) (si s6 241 0 x1.toNatClampNeg v4) fun s27 => r_settle_189 (r_settle_0 n) x1 s27) else (grd (ib v4 480) (s6.1 216 0 v4.toNatClampNeg) fun v9 => if v9 = (15 : Int32) then (if v5 = 0 then (cal (r_note0 (2 : Int32) x1 (0 : Int64) s6) fun s22 => grd (ib x1 7) (s22.1 242 0 x1.toNatClampNeg) fun v24 => cal (r_goIn x1 v4 (1 : Int32) v24 s22) fun s25 => r_settle_189 (r_settle_0 n) x1 s25) else (r_settle_111 (r_settle_0 n) x1 ((((9 : Int32) * x1) + v3) - (1 : Int32)) v4 v5 s6)) else (r_settle_111 (r_settle_0 n) x1 ((((9 : Int32) * x1) + v3) - (1 : Int32)) v4 v5 s6))))
set_option maxRecDepth 100000 in
theorem t_r_settle_0 {r : Int32 × St} : ∀ (n : Nat) (x1 : Int32) (s : St), r_settle_0 n x1 s = some r → Wp (rmd 2 0 0) 163 (zi (fun v s1 => (v, s1) = r)) 0 0 0 [(0, .ref 280), (1, .int x1)] [] (mk s) TT := by
  intro n
  induction n with
  | zero =>
    intro x1 s h
    rw [r_settle_0.eq_1] at h
    cases h
  | succ n ih =>
    intro x1 s h
    rw [r_settle_0.eq_2] at h
    refine x_aload_n (pc := 0) d163_0 rfl ?_
    refine y_getr (pc := 1) d163_1 fk9_92 shL280 rfl ?_
    refine x_iload_n (pc := 4) d163_4 rfl ?_
    refine z_iald (pc := 5) d163_5 shL306 (by decide) h (fun v1 h => ?_)
    refine z_if_ge (pc := 6) (tgt := 192) d163_6 (by decide) h (fun h => ?_) (fun h => ?_)
    · skip
      refine x_iconst (pc := 192) (v := (0)) d163_192 (by decide) ?_
      exact z_zretc (pc := 193) d163_193 rfl (Or.inl rfl) h
    · skip
      refine x_aload_n (pc := 9) d163_9 rfl ?_
      refine y_getr (pc := 10) d163_10 fk9_107 shL280 rfl ?_
      refine x_iload_n (pc := 13) d163_13 rfl ?_
      refine z_iald (pc := 14) d163_14 shL311 (by decide) h (fun v2 h => ?_)
      refine z_if_le (pc := 15) (tgt := 192) d163_15 (by decide) h (fun h => ?_) (fun h => ?_)
      · skip
        refine x_iconst (pc := 192) (v := (0)) d163_192 (by decide) ?_
        exact z_zretc (pc := 193) d163_193 rfl (Or.inl rfl) h
      · skip
        refine x_bipush (pc := 18) (v := (9)) d163_18 (by decide) ?_
        refine x_iload_n (pc := 20) d163_20 rfl ?_
        refine x_imul (pc := 21) d163_21 ?_
        refine x_aload_n (pc := 22) d163_22 rfl ?_
        refine y_getr (pc := 23) d163_23 fk9_107 shL280 rfl ?_
        refine x_iload_n (pc := 26) d163_26 rfl ?_
        refine z_iald (pc := 27) d163_27 shL311 (by decide) h (fun v3 h => ?_)
        refine x_iadd (pc := 28) d163_28 ?_
        refine x_iconst (pc := 29) (v := (1)) d163_29 (by decide) ?_
        refine x_isub (pc := 30) d163_30 ?_
        refine x_istore_n (pc := 31) d163_31 (by decide) ?_
        refine x_aload_n (pc := 32) d163_32 rfl ?_
        refine y_getr (pc := 33) d163_33 fk9_110 shL280 rfl ?_
        refine x_iload_n (pc := 36) d163_36 rfl ?_
        refine z_iald (pc := 37) d163_37 shL312 (by decide) h (fun v4 h => ?_)
        refine x_istore_n (pc := 38) d163_38 (by decide) ?_
        refine x_aload_n (pc := 39) d163_39 rfl ?_
        refine y_getr (pc := 40) d163_40 fk9_113 shL280 rfl ?_
        refine x_iload_n (pc := 43) d163_43 rfl ?_
        refine z_iald (pc := 44) d163_44 shL313 (by decide) h (fun v5 h => ?_)
        refine x_istore (pc := 45) d163_45 (by decide) ?_
        refine x_aload_n (pc := 47) d163_47 rfl ?_
        refine x_iload_n (pc := 48) d163_48 rfl ?_
        refine z_cV1v (pc := 49) d163_49 ml9_361 mv164 shL280 (t_r_leave x1 s) (by decide) (Nat.le_of_ble_eq_true rfl) ⟨Nat.zero_le _, Nat.zero_le _⟩ h (fun s6 h => ?_)
        refine x_aload_n (pc := 52) d163_52 rfl ?_
        refine y_getr (pc := 53) d163_53 fk9_33 shL280 rfl ?_
        refine x_iload_n (pc := 56) d163_56 rfl ?_
        refine z_iald (pc := 57) d163_57 shL287 (by decide) h (fun v8 h => ?_)
        refine x_iconst (pc := 58) (v := (3)) d163_58 (by decide) ?_
        refine z_icmp_ne (pc := 59) (tgt := 72) d163_59 (by decide) h (fun h => ?_) (fun h => ?_)
        · skip
          refine x_aload_n (pc := 72) d163_72 rfl ?_
          refine y_getr (pc := 73) d163_73 fk9_33 shL280 rfl ?_
          refine x_iload_n (pc := 76) d163_76 rfl ?_
          refine z_iald (pc := 77) d163_77 shL287 (by decide) h (fun v9 h => ?_)
          refine x_bipush (pc := 78) (v := (15)) d163_78 (by decide) ?_
          refine z_icmp_ne (pc := 80) (tgt := 111) d163_80 (by decide) h (fun h => ?_) (fun h => ?_)
          · skip
            refine wp_lv (lv' := [(0, .ref 280), (1, .int x1), (2, .int ((((9 : Int32) * x1) + v3) - (1 : Int32))), (3, .int v4), (4, .int v5)]) ⟨rfl, rfl, rfl, rfl, rfl, trivial⟩ ?_
            exact t_r_settle_111 (r_settle_0 n) ih x1 ((((9 : Int32) * x1) + v3) - (1 : Int32)) v4 v5 s6 h
          · skip
            refine x_iload (pc := 83) d163_83 rfl ?_
            refine z_if_ne (pc := 85) (tgt := 111) d163_85 (by decide) h (fun h => ?_) (fun h => ?_)
            · skip
              refine wp_lv (lv' := [(0, .ref 280), (1, .int x1), (2, .int ((((9 : Int32) * x1) + v3) - (1 : Int32))), (3, .int v4), (4, .int v5)]) ⟨rfl, rfl, rfl, rfl, rfl, trivial⟩ ?_
              exact t_r_settle_111 (r_settle_0 n) ih x1 ((((9 : Int32) * x1) + v3) - (1 : Int32)) v4 v5 s6 h
            · skip
              refine x_aload_n (pc := 88) d163_88 rfl ?_
              refine x_iconst (pc := 89) (v := (2)) d163_89 (by decide) ?_
              refine x_iload_n (pc := 90) d163_90 rfl ?_
              refine x_lconst (pc := 91) (v := (0)) d163_91 (by decide) ?_
              refine z_cV3v (pc := 92) d163_92 ml9_364 mv166 shL280 (t_r_note0 (2 : Int32) x1 (0 : Int64) s6) (by decide) (Nat.le_of_ble_eq_true rfl) ⟨Nat.zero_le _, Nat.zero_le _⟩ h (fun s22 h => ?_)
              refine x_aload_n (pc := 95) d163_95 rfl ?_
              refine x_iload_n (pc := 96) d163_96 rfl ?_
              refine x_iload_n (pc := 97) d163_97 rfl ?_
              refine x_iconst (pc := 98) (v := (1)) d163_98 (by decide) ?_
              refine x_aload_n (pc := 99) d163_99 rfl ?_
              refine y_getr (pc := 100) d163_100 fk9_95 shL280 rfl ?_
              refine x_iload_n (pc := 103) d163_103 rfl ?_
              refine z_iald (pc := 104) d163_104 shL307 (by decide) h (fun v24 h => ?_)
              refine z_cV4v (pc := 105) d163_105 ml9_367 mv167 shL280 (t_r_goIn x1 v4 (1 : Int32) v24 s22) (by decide) (Nat.le_of_ble_eq_true rfl) ⟨Nat.zero_le _, Nat.zero_le _⟩ h (fun s25 h => ?_)
              refine x_goto (pc := 108) (tgt := 189) d163_108 (by decide) ?_
              refine wp_lv (lv' := [(0, .ref 280), (1, .int x1)]) ⟨rfl, rfl, trivial⟩ ?_
              exact t_r_settle_189 (r_settle_0 n) ih x1 s25 h
        · skip
          refine x_aload_n (pc := 62) d163_62 rfl ?_
          refine y_getr (pc := 63) d163_63 fk9_92 shL280 rfl ?_
          refine x_iload_n (pc := 66) d163_66 rfl ?_
          refine x_iload_n (pc := 67) d163_67 rfl ?_
          refine z_iast (pc := 68) d163_68 shL306 (by decide) h (fun s27 h => ?_)
          refine x_goto (pc := 69) (tgt := 189) d163_69 (by decide) ?_
          refine wp_lv (lv' := [(0, .ref 280), (1, .int x1)]) ⟨rfl, rfl, trivial⟩ ?_
          exact t_r_settle_189 (r_settle_0 n) ih x1 s27 h
def r_settle (a0 : Int32) (s : St) : Option (Int32 × St) := r_settle_0 40 a0 s
set_option maxRecDepth 100000 in
theorem t_r_settle (a0 : Int32) (s : St) (r : Int32 × St) (h : r_settle a0 s = some r) : Ri 2 163 [.ref 280, .int a0] s (fun v s1 => (v, s1) = r) := by
  refine ct_of (by decide +kernel) (Nat.le_of_ble_eq_true rfl) ?_
  show Wp _ _ _ _ _ _ [(0, .ref 280), (1, .int a0)] _ _ _
  unfold r_settle at h
  refine wp_lv (lv' := [(0, .ref 280), (1, .int a0)]) ⟨rfl, rfl, trivial⟩ ?_
  exact t_r_settle_0 40 a0 s h
def r_thrown (a0 : Int32) (s : St) : Option (Int32 × St) := if a0 = 0 then (some ((3 : Int32), s)) else (some ((1 : Int32), s))
set_option maxRecDepth 100000 in
theorem t_r_thrown (a0 : Int32) (s : St) (r : Int32 × St) (h : r_thrown a0 s = some r) : Ri 0 171 [.ref 280, .int a0] s (fun v s1 => (v, s1) = r) := by
  refine ct_of (by decide +kernel) (Nat.le_of_ble_eq_true rfl) ?_
  show Wp _ _ _ _ _ _ [(0, .ref 280), (1, .int a0)] _ _ _
  unfold r_thrown at h
  refine x_iload_n (pc := 0) d171_0 rfl ?_
  refine z_if_eq (pc := 1) (tgt := 8) d171_1 (by decide) h (fun h => ?_) (fun h => ?_)
  · skip
    refine x_iconst (pc := 8) (v := (3)) d171_8 (by decide) ?_
    exact z_iret (pc := 9) d171_9 rfl h
  · skip
    refine x_iconst (pc := 4) (v := (1)) d171_4 (by decide) ?_
    refine x_goto (pc := 5) (tgt := 9) d171_5 (by decide) ?_
    exact z_iret (pc := 9) d171_9 rfl h
def r_throwOut_297 (K32 : Int32 → Int32 → Int64 → Int32 → St → Option (Int32 × St)) (x1 : Int32) (x2 : Int32) (x3 : Int64) (x5 : Int32) (s : St) : Option (Int32 × St) := K32 x1 x2 x3 x5 s
set_option maxRecDepth 100000 in
theorem t_r_throwOut_297 {r : Int32 × St} (K32 : Int32 → Int32 → Int64 → Int32 → St → Option (Int32 × St)) (hK32 : ∀ (x1 : Int32) (x2 : Int32) (x3 : Int64) (x5 : Int32) (s : St), K32 x1 x2 x3 x5 s = some r → Wp (rmd 2 0 0) 169 (zi (fun v s1 => (v, s1) = r)) 0 0 32 [(0, .ref 280), (1, .int x1), (2, .int x2), (3, .long x3), (5, .int x5)] [] (mk s) TT) : ∀ (x1 : Int32) (x2 : Int32) (x3 : Int64) (x5 : Int32) (s : St), r_throwOut_297 K32 x1 x2 x3 x5 s = some r → Wp (rmd 2 0 0) 169 (zi (fun v s1 => (v, s1) = r)) 0 0 297 [(0, .ref 280), (1, .int x1), (2, .int x2), (3, .long x3), (5, .int x5)] [] (mk s) TT := by
  intro x1 x2 x3 x5 s h
  unfold r_throwOut_297 at h
  refine x_goto (pc := 297) (tgt := 32) d169_297 (by decide) ?_
  refine wp_lv (lv' := [(0, .ref 280), (1, .int x1), (2, .int x2), (3, .long x3), (5, .int x5)]) ⟨rfl, rfl, rfl, rfl, rfl, trivial⟩ ?_
  exact hK32 x1 x2 x3 x5 s h
def r_throwOut_223 (K32 : Int32 → Int32 → Int64 → Int32 → St → Option (Int32 × St)) (x1 : Int32) (x2 : Int32) (x3 : Int64) (x5 : Int32) (x6 : Int32) (x8 : Int32) (x9 : Int32) (s : St) : Option (Int32 × St) := grd (ib x8 480) (s.1 216 0 x8.toNatClampNeg) fun v15 => if v15 = (18 : Int32) then (if x9 = 0 then (if x2 = 0 then (r_throwOut_297 K32 x1 x2 x3 x5 s) else (if x5 = x6 then (grd (ib (((3 : Int32) * x8) + (1 : Int32)) 1440) (s.1 220 0 (((3 : Int32) * x8) + (1 : Int32)).toNatClampNeg) fun v16 => if v16 = 0 then (grd (ib x8 480) (s.1 217 0 x8.toNatClampNeg) fun v17 => grd (ib x1 7) (si s 241 0 x1.toNatClampNeg v17) fun s18 => some ((1 : Int32), s18)) else (grd (ib x1 7) (s.1 242 0 x1.toNatClampNeg) fun v19 => cal (r_goIn x1 x8 (1 : Int32) v19 s) fun s20 => some ((1 : Int32), s20))) else (r_throwOut_297 K32 x1 x2 x3 x5 s))) else (r_throwOut_297 K32 x1 x2 x3 x5 s)) else (r_throwOut_297 K32 x1 x2 x3 x5 s)
set_option maxRecDepth 100000 in
theorem t_r_throwOut_223 {r : Int32 × St} (K32 : Int32 → Int32 → Int64 → Int32 → St → Option (Int32 × St)) (hK32 : ∀ (x1 : Int32) (x2 : Int32) (x3 : Int64) (x5 : Int32) (s : St), K32 x1 x2 x3 x5 s = some r → Wp (rmd 2 0 0) 169 (zi (fun v s1 => (v, s1) = r)) 0 0 32 [(0, .ref 280), (1, .int x1), (2, .int x2), (3, .long x3), (5, .int x5)] [] (mk s) TT) : ∀ (x1 : Int32) (x2 : Int32) (x3 : Int64) (x5 : Int32) (x6 : Int32) (x8 : Int32) (x9 : Int32) (s : St), r_throwOut_223 K32 x1 x2 x3 x5 x6 x8 x9 s = some r → Wp (rmd 2 0 0) 169 (zi (fun v s1 => (v, s1) = r)) 0 0 223 [(0, .ref 280), (1, .int x1), (2, .int x2), (3, .long x3), (5, .int x5), (6, .int x6), (8, .int x8), (9, .int x9)] [] (mk s) TT := by
  intro x1 x2 x3 x5 x6 x8 x9 s h
  unfold r_throwOut_223 at h
  refine x_aload_n (pc := 223) d169_223 rfl ?_
  refine y_getr (pc := 224) d169_224 fk9_33 shL280 rfl ?_
  refine x_iload (pc := 227) d169_227 rfl ?_
  refine z_iald (pc := 229) d169_229 shL287 (by decide) h (fun v15 h => ?_)
  refine x_bipush (pc := 230) (v := (18)) d169_230 (by decide) ?_
  refine z_icmp_ne (pc := 232) (tgt := 297) d169_232 (by decide) h (fun h => ?_) (fun h => ?_)
  · skip
    refine wp_lv (lv' := [(0, .ref 280), (1, .int x1), (2, .int x2), (3, .long x3), (5, .int x5)]) ⟨rfl, rfl, rfl, rfl, rfl, trivial⟩ ?_
    exact t_r_throwOut_297 K32 hK32 x1 x2 x3 x5 s h
  · skip
    refine x_iload (pc := 235) d169_235 rfl ?_
    refine z_if_ne (pc := 237) (tgt := 297) d169_237 (by decide) h (fun h => ?_) (fun h => ?_)
    · skip
      refine wp_lv (lv' := [(0, .ref 280), (1, .int x1), (2, .int x2), (3, .long x3), (5, .int x5)]) ⟨rfl, rfl, rfl, rfl, rfl, trivial⟩ ?_
      exact t_r_throwOut_297 K32 hK32 x1 x2 x3 x5 s h
    · skip
      refine x_iload_n (pc := 240) d169_240 rfl ?_
      refine z_if_eq (pc := 241) (tgt := 297) d169_241 (by decide) h (fun h => ?_) (fun h => ?_)
      · skip
        refine wp_lv (lv' := [(0, .ref 280), (1, .int x1), (2, .int x2), (3, .long x3), (5, .int x5)]) ⟨rfl, rfl, rfl, rfl, rfl, trivial⟩ ?_
        exact t_r_throwOut_297 K32 hK32 x1 x2 x3 x5 s h
      · skip
        refine x_iload (pc := 244) d169_244 rfl ?_
        refine x_iload (pc := 246) d169_246 rfl ?_
        refine z_icmp_ne (pc := 248) (tgt := 297) d169_248 (by decide) h (fun h => ?_) (fun h => ?_)
        · skip
          refine wp_lv (lv' := [(0, .ref 280), (1, .int x1), (2, .int x2), (3, .long x3), (5, .int x5)]) ⟨rfl, rfl, rfl, rfl, rfl, trivial⟩ ?_
          exact t_r_throwOut_297 K32 hK32 x1 x2 x3 x5 s h
        · skip
          refine x_aload_n (pc := 251) d169_251 rfl ?_
          refine y_getr (pc := 252) d169_252 fk9_45 shL280 rfl ?_
          refine x_iconst (pc := 255) (v := (3)) d169_255 (by decide) ?_
          refine x_iload (pc := 256) d169_256 rfl ?_
          refine x_imul (pc := 258) d169_258 ?_
          refine x_iconst (pc := 259) (v := (1)) d169_259 (by decide) ?_
          refine x_iadd (pc := 260) d169_260 ?_
          refine z_zald (pc := 261) d169_261 shL291 (by decide) h (fun v16 h => ?_)
          refine z_if_eq (pc := 262) (tgt := 282) d169_262 (by decide) h (fun h => ?_) (fun h => ?_)
          · skip
            refine x_aload_n (pc := 282) d169_282 rfl ?_
            refine y_getr (pc := 283) d169_283 fk9_92 shL280 rfl ?_
            refine x_iload_n (pc := 286) d169_286 rfl ?_
            refine x_aload_n (pc := 287) d169_287 rfl ?_
            refine y_getr (pc := 288) d169_288 fk9_36 shL280 rfl ?_
            refine x_iload (pc := 291) d169_291 rfl ?_
            refine z_iald (pc := 293) d169_293 shL288 (by decide) h (fun v17 h => ?_)
            refine z_iast (pc := 294) d169_294 shL306 (by decide) h (fun s18 h => ?_)
            refine x_iconst (pc := 295) (v := (1)) d169_295 (by decide) ?_
            exact z_zretc (pc := 296) d169_296 rfl (Or.inr rfl) h
          · skip
            refine x_aload_n (pc := 265) d169_265 rfl ?_
            refine x_iload_n (pc := 266) d169_266 rfl ?_
            refine x_iload (pc := 267) d169_267 rfl ?_
            refine x_iconst (pc := 269) (v := (1)) d169_269 (by decide) ?_
            refine x_aload_n (pc := 270) d169_270 rfl ?_
            refine y_getr (pc := 271) d169_271 fk9_95 shL280 rfl ?_
            refine x_iload_n (pc := 274) d169_274 rfl ?_
            refine z_iald (pc := 275) d169_275 shL307 (by decide) h (fun v19 h => ?_)
            refine z_cV4v (pc := 276) d169_276 ml9_367 mv167 shL280 (t_r_goIn x1 x8 (1 : Int32) v19 s) (by decide) (Nat.le_of_ble_eq_true rfl) ⟨Nat.zero_le _, Nat.zero_le _⟩ h (fun s20 h => ?_)
            refine x_goto (pc := 279) (tgt := 295) d169_279 (by decide) ?_
            refine x_iconst (pc := 295) (v := (1)) d169_295 (by decide) ?_
            exact z_zretc (pc := 296) d169_296 rfl (Or.inr rfl) h
def r_throwOut_203 (x3 : Int64) (x5 : Int32) (x7 : Int32) (y0 : Int32) (y1 : Int32) (s : St) : Option (Int32 × St) := grd (ib y1 63) (si s 252 0 y1.toNatClampNeg y0) fun s29 => grd (ib x7 63) (sl s29 253 0 x7.toNatClampNeg x3) fun s30 => grd (ib x7 63) (si s30 254 0 x7.toNatClampNeg x5) fun s31 => some ((1 : Int32), s31)
set_option maxRecDepth 100000 in
theorem t_r_throwOut_203 {r : Int32 × St} : ∀ (x3 : Int64) (x5 : Int32) (x7 : Int32) (y0 : Int32) (y1 : Int32) (s : St), r_throwOut_203 x3 x5 x7 y0 y1 s = some r → Wp (rmd 2 0 0) 169 (zi (fun v s1 => (v, s1) = r)) 0 0 203 [(0, .ref 280), (3, .long x3), (5, .int x5), (7, .int x7)] [.int y0, .int y1, .ref 317] (mk s) TT := by
  intro x3 x5 x7 y0 y1 s h
  unfold r_throwOut_203 at h
  refine z_iast (pc := 203) d169_203 shL317 (by decide) h (fun s29 h => ?_)
  refine x_aload_n (pc := 204) d169_204 rfl ?_
  refine y_getr (pc := 205) d169_205 fk9_128 shL280 rfl ?_
  refine x_iload (pc := 208) d169_208 rfl ?_
  refine x_lload_n (pc := 210) d169_210 rfl ?_
  refine z_last (pc := 211) d169_211 shL318 (by decide) h (fun s30 h => ?_)
  refine x_aload_n (pc := 212) d169_212 rfl ?_
  refine y_getr (pc := 213) d169_213 fk9_131 shL280 rfl ?_
  refine x_iload (pc := 216) d169_216 rfl ?_
  refine x_iload (pc := 218) d169_218 rfl ?_
  refine z_iast (pc := 220) d169_220 shL319 (by decide) h (fun s31 h => ?_)
  refine x_iconst (pc := 221) (v := (1)) d169_221 (by decide) ?_
  exact z_zretc (pc := 222) d169_222 rfl (Or.inr rfl) h
def r_throwOut_145 (K32 : Int32 → Int32 → Int64 → Int32 → St → Option (Int32 × St)) (x1 : Int32) (x2 : Int32) (x3 : Int64) (x5 : Int32) (x6 : Int32) (x7 : Int32) (x8 : Int32) (x9 : Int32) (s : St) : Option (Int32 × St) := grd (ib x8 480) (s.1 216 0 x8.toNatClampNeg) fun v14 => if v14 = (15 : Int32) then (if x9 = (1 : Int32) then (cal (r_note0 (3 : Int32) x1 (0 : Int64) s) fun s22 => grd (ib x1 7) (s22.1 242 0 x1.toNatClampNeg) fun v24 => cal2 (r_atLeast v24 (1 : Int32) s22) fun v26 s25 => cal (r_goIn x1 x8 (2 : Int32) v26 s25) fun s27 => if x2 = 0 then (r_throwOut_203 x3 x5 x7 (1 : Int32) x7 s27) else (r_throwOut_203 x3 x5 x7 (2 : Int32) x7 s27)) else (r_throwOut_223 K32 x1 x2 x3 x5 x6 x8 x9 s)) else (r_throwOut_223 K32 x1 x2 x3 x5 x6 x8 x9 s)
set_option maxRecDepth 100000 in
theorem t_r_throwOut_145 {r : Int32 × St} (K32 : Int32 → Int32 → Int64 → Int32 → St → Option (Int32 × St)) (hK32 : ∀ (x1 : Int32) (x2 : Int32) (x3 : Int64) (x5 : Int32) (s : St), K32 x1 x2 x3 x5 s = some r → Wp (rmd 2 0 0) 169 (zi (fun v s1 => (v, s1) = r)) 0 0 32 [(0, .ref 280), (1, .int x1), (2, .int x2), (3, .long x3), (5, .int x5)] [] (mk s) TT) : ∀ (x1 : Int32) (x2 : Int32) (x3 : Int64) (x5 : Int32) (x6 : Int32) (x7 : Int32) (x8 : Int32) (x9 : Int32) (s : St), r_throwOut_145 K32 x1 x2 x3 x5 x6 x7 x8 x9 s = some r → Wp (rmd 2 0 0) 169 (zi (fun v s1 => (v, s1) = r)) 0 0 145 [(0, .ref 280), (1, .int x1), (2, .int x2), (3, .long x3), (5, .int x5), (6, .int x6), (7, .int x7), (8, .int x8), (9, .int x9)] [] (mk s) TT := by
  intro x1 x2 x3 x5 x6 x7 x8 x9 s h
  unfold r_throwOut_145 at h
  refine x_aload_n (pc := 145) d169_145 rfl ?_
  refine y_getr (pc := 146) d169_146 fk9_33 shL280 rfl ?_
  refine x_iload (pc := 149) d169_149 rfl ?_
  refine z_iald (pc := 151) d169_151 shL287 (by decide) h (fun v14 h => ?_)
  refine x_bipush (pc := 152) (v := (15)) d169_152 (by decide) ?_
  refine z_icmp_ne (pc := 154) (tgt := 223) d169_154 (by decide) h (fun h => ?_) (fun h => ?_)
  · skip
    refine wp_lv (lv' := [(0, .ref 280), (1, .int x1), (2, .int x2), (3, .long x3), (5, .int x5), (6, .int x6), (8, .int x8), (9, .int x9)]) ⟨rfl, rfl, rfl, rfl, rfl, rfl, rfl, rfl, trivial⟩ ?_
    exact t_r_throwOut_223 K32 hK32 x1 x2 x3 x5 x6 x8 x9 s h
  · skip
    refine x_iload (pc := 157) d169_157 rfl ?_
    refine x_iconst (pc := 159) (v := (1)) d169_159 (by decide) ?_
    refine z_icmp_ne (pc := 160) (tgt := 223) d169_160 (by decide) h (fun h => ?_) (fun h => ?_)
    · skip
      refine wp_lv (lv' := [(0, .ref 280), (1, .int x1), (2, .int x2), (3, .long x3), (5, .int x5), (6, .int x6), (8, .int x8), (9, .int x9)]) ⟨rfl, rfl, rfl, rfl, rfl, rfl, rfl, rfl, trivial⟩ ?_
      exact t_r_throwOut_223 K32 hK32 x1 x2 x3 x5 x6 x8 x9 s h
    · skip
      refine x_aload_n (pc := 163) d169_163 rfl ?_
      refine x_iconst (pc := 164) (v := (3)) d169_164 (by decide) ?_
      refine x_iload_n (pc := 165) d169_165 rfl ?_
      refine x_lconst (pc := 166) (v := (0)) d169_166 (by decide) ?_
      refine z_cV3v (pc := 167) d169_167 ml9_364 mv166 shL280 (t_r_note0 (3 : Int32) x1 (0 : Int64) s) (by decide) (Nat.le_of_ble_eq_true rfl) ⟨Nat.zero_le _, Nat.zero_le _⟩ h (fun s22 h => ?_)
      refine x_aload_n (pc := 170) d169_170 rfl ?_
      refine x_iload_n (pc := 171) d169_171 rfl ?_
      refine x_iload (pc := 172) d169_172 rfl ?_
      refine x_iconst (pc := 174) (v := (2)) d169_174 (by decide) ?_
      refine x_aload_n (pc := 175) d169_175 rfl ?_
      refine y_getr (pc := 176) d169_176 fk9_95 shL280 rfl ?_
      refine x_iload_n (pc := 179) d169_179 rfl ?_
      refine z_iald (pc := 180) d169_180 shL307 (by decide) h (fun v24 h => ?_)
      refine x_iconst (pc := 181) (v := (1)) d169_181 (by decide) ?_
      refine z_cS2i (pc := 182) d169_182 ml9_371 mv168 (t_r_atLeast v24 (1 : Int32) s22) (by decide) (Nat.le_of_ble_eq_true rfl) ⟨Nat.zero_le _, Nat.zero_le _⟩ h (fun v26 s25 h => ?_)
      refine z_cV4v (pc := 185) d169_185 ml9_367 mv167 shL280 (t_r_goIn x1 x8 (2 : Int32) v26 s25) (by decide) (Nat.le_of_ble_eq_true rfl) ⟨Nat.zero_le _, Nat.zero_le _⟩ h (fun s27 h => ?_)
      refine x_aload_n (pc := 188) d169_188 rfl ?_
      refine y_getr (pc := 189) d169_189 fk9_125 shL280 rfl ?_
      refine x_iload (pc := 192) d169_192 rfl ?_
      refine x_iload_n (pc := 194) d169_194 rfl ?_
      refine z_if_eq (pc := 195) (tgt := 202) d169_195 (by decide) h (fun h => ?_) (fun h => ?_)
      · skip
        refine x_iconst (pc := 202) (v := (1)) d169_202 (by decide) ?_
        refine wp_lv (lv' := [(0, .ref 280), (3, .long x3), (5, .int x5), (7, .int x7)]) ⟨rfl, rfl, rfl, rfl, trivial⟩ ?_
        exact t_r_throwOut_203 x3 x5 x7 (1 : Int32) x7 s27 h
      · skip
        refine x_iconst (pc := 198) (v := (2)) d169_198 (by decide) ?_
        refine x_goto (pc := 199) (tgt := 203) d169_199 (by decide) ?_
        refine wp_lv (lv' := [(0, .ref 280), (3, .long x3), (5, .int x5), (7, .int x7)]) ⟨rfl, rfl, rfl, rfl, trivial⟩ ?_
        exact t_r_throwOut_203 x3 x5 x7 (2 : Int32) x7 s27 h
def r_throwOut_32 : Nat → Int32 → Int32 → Int64 → Int32 → St → Option (Int32 × St)
  | 0, _, _, _, _, _ => none
  | n + 1, x1, x2, x3, x5, s => grd (ib x1 7) (s.1 246 0 x1.toNatClampNeg) fun v2 => if v2 ≤ 0 then (grd (ib x1 7) (si s 240 0 x1.toNatClampNeg (3 : Int32)) fun s3 => grd (ib x1 7) (si s3 255 0 x1.toNatClampNeg (0 : Int32)) fun s4 => grd (ib x1 7) (sl s4 244 0 x1.toNatClampNeg x3) fun s5 => cal (r_note0 (5 : Int32) x1 x3 s5) fun s6 => some ((0 : Int32), s6)) else (grd (ib x1 7) (s.1 246 0 x1.toNatClampNeg) fun v8 => grd (ib (((9 : Int32) * x1) + (v8 - (1 : Int32))) 63) (s.1 247 0 (((9 : Int32) * x1) + (v8 - (1 : Int32))).toNatClampNeg) fun v9 => grd (ib (((9 : Int32) * x1) + (v8 - (1 : Int32))) 63) (s.1 248 0 (((9 : Int32) * x1) + (v8 - (1 : Int32))).toNatClampNeg) fun v10 => cal (r_leave x1 s) fun s11 => grd (ib v9 480) (s11.1 216 0 v9.toNatClampNeg) fun v13 => if v13 = (13 : Int32) then (if v10 = 0 then (if x2 = 0 then (grd (ib v9 480) (s11.1 221 0 v9.toNatClampNeg) fun v32 => grd (ib ((((10 : Int32) * x1) + v32) - (16 : Int32)) 70) (sl s11 245 0 ((((10 : Int32) * x1) + v32) - (16 : Int32)).toNatClampNeg x3) fun s33 => grd (ib x1 7) (s33.1 242 0 x1.toNatClampNeg) fun v34 => cal2 (r_atLeast v34 (1 : Int32) s33) fun v36 s35 => cal (r_goIn x1 v9 (1 : Int32) v36 s35) fun s37 => some ((1 : Int32), s37)) else (r_throwOut_145 (r_throwOut_32 n) x1 x2 x3 x5 (v8 - (1 : Int32)) (((9 : Int32) * x1) + (v8 - (1 : Int32))) v9 v10 s11)) else (r_throwOut_145 (r_throwOut_32 n) x1 x2 x3 x5 (v8 - (1 : Int32)) (((9 : Int32) * x1) + (v8 - (1 : Int32))) v9 v10 s11)) else (r_throwOut_145 (r_throwOut_32 n) x1 x2 x3 x5 (v8 - (1 : Int32)) (((9 : Int32) * x1) + (v8 - (1 : Int32))) v9 v10 s11))
set_option maxRecDepth 100000 in
theorem t_r_throwOut_32 {r : Int32 × St} : ∀ (n : Nat) (x1 : Int32) (x2 : Int32) (x3 : Int64) (x5 : Int32) (s : St), r_throwOut_32 n x1 x2 x3 x5 s = some r → Wp (rmd 2 0 0) 169 (zi (fun v s1 => (v, s1) = r)) 0 0 32 [(0, .ref 280), (1, .int x1), (2, .int x2), (3, .long x3), (5, .int x5)] [] (mk s) TT := by
  intro n
  induction n with
  | zero =>
    intro x1 x2 x3 x5 s h
    rw [r_throwOut_32.eq_1] at h
    cases h
  | succ n ih =>
    intro x1 x2 x3 x5 s h
    rw [r_throwOut_32.eq_2] at h
    refine x_aload_n (pc := 32) d169_32 rfl ?_
    refine y_getr (pc := 33) d169_33 fk9_107 shL280 rfl ?_
    refine x_iload_n (pc := 36) d169_36 rfl ?_
    refine z_iald (pc := 37) d169_37 shL311 (by decide) h (fun v2 h => ?_)
    refine z_if_le (pc := 38) (tgt := 300) d169_38 (by decide) h (fun h => ?_) (fun h => ?_)
    · skip
      refine x_aload_n (pc := 300) d169_300 rfl ?_
      refine y_getr (pc := 301) d169_301 fk9_89 shL280 rfl ?_
      refine x_iload_n (pc := 304) d169_304 rfl ?_
      refine x_iconst (pc := 305) (v := (3)) d169_305 (by decide) ?_
      refine z_iast (pc := 306) d169_306 shL305 (by decide) h (fun s3 h => ?_)
      refine x_aload_n (pc := 307) d169_307 rfl ?_
      refine y_getr (pc := 308) d169_308 fk9_134 shL280 rfl ?_
      refine x_iload_n (pc := 311) d169_311 rfl ?_
      refine x_iconst (pc := 312) (v := (0)) d169_312 (by decide) ?_
      refine z_iast (pc := 313) d169_313 shL320 (by decide) h (fun s4 h => ?_)
      refine x_aload_n (pc := 314) d169_314 rfl ?_
      refine y_getr (pc := 315) d169_315 fk9_101 shL280 rfl ?_
      refine x_iload_n (pc := 318) d169_318 rfl ?_
      refine x_lload_n (pc := 319) d169_319 rfl ?_
      refine z_last (pc := 320) d169_320 shL309 (by decide) h (fun s5 h => ?_)
      refine x_aload_n (pc := 321) d169_321 rfl ?_
      refine x_iconst (pc := 322) (v := (5)) d169_322 (by decide) ?_
      refine x_iload_n (pc := 323) d169_323 rfl ?_
      refine x_lload_n (pc := 324) d169_324 rfl ?_
      refine z_cV3v (pc := 325) d169_325 ml9_364 mv166 shL280 (t_r_note0 (5 : Int32) x1 x3 s5) (by decide) (Nat.le_of_ble_eq_true rfl) ⟨Nat.zero_le _, Nat.zero_le _⟩ h (fun s6 h => ?_)
      refine x_iconst (pc := 328) (v := (0)) d169_328 (by decide) ?_
      exact z_zretc (pc := 329) d169_329 rfl (Or.inl rfl) h
    · skip
      refine x_aload_n (pc := 41) d169_41 rfl ?_
      refine y_getr (pc := 42) d169_42 fk9_107 shL280 rfl ?_
      refine x_iload_n (pc := 45) d169_45 rfl ?_
      refine z_iald (pc := 46) d169_46 shL311 (by decide) h (fun v8 h => ?_)
      refine x_iconst (pc := 47) (v := (1)) d169_47 (by decide) ?_
      refine x_isub (pc := 48) d169_48 ?_
      refine x_istore (pc := 49) d169_49 (by decide) ?_
      refine x_bipush (pc := 51) (v := (9)) d169_51 (by decide) ?_
      refine x_iload_n (pc := 53) d169_53 rfl ?_
      refine x_imul (pc := 54) d169_54 ?_
      refine x_iload (pc := 55) d169_55 rfl ?_
      refine x_iadd (pc := 57) d169_57 ?_
      refine x_istore (pc := 58) d169_58 (by decide) ?_
      refine x_aload_n (pc := 60) d169_60 rfl ?_
      refine y_getr (pc := 61) d169_61 fk9_110 shL280 rfl ?_
      refine x_iload (pc := 64) d169_64 rfl ?_
      refine z_iald (pc := 66) d169_66 shL312 (by decide) h (fun v9 h => ?_)
      refine x_istore (pc := 67) d169_67 (by decide) ?_
      refine x_aload_n (pc := 69) d169_69 rfl ?_
      refine y_getr (pc := 70) d169_70 fk9_113 shL280 rfl ?_
      refine x_iload (pc := 73) d169_73 rfl ?_
      refine z_iald (pc := 75) d169_75 shL313 (by decide) h (fun v10 h => ?_)
      refine x_istore (pc := 76) d169_76 (by decide) ?_
      refine x_aload_n (pc := 78) d169_78 rfl ?_
      refine x_iload_n (pc := 79) d169_79 rfl ?_
      refine z_cV1v (pc := 80) d169_80 ml9_361 mv164 shL280 (t_r_leave x1 s) (by decide) (Nat.le_of_ble_eq_true rfl) ⟨Nat.zero_le _, Nat.zero_le _⟩ h (fun s11 h => ?_)
      refine x_aload_n (pc := 83) d169_83 rfl ?_
      refine y_getr (pc := 84) d169_84 fk9_33 shL280 rfl ?_
      refine x_iload (pc := 87) d169_87 rfl ?_
      refine z_iald (pc := 89) d169_89 shL287 (by decide) h (fun v13 h => ?_)
      refine x_bipush (pc := 90) (v := (13)) d169_90 (by decide) ?_
      refine z_icmp_ne (pc := 92) (tgt := 145) d169_92 (by decide) h (fun h => ?_) (fun h => ?_)
      · skip
        refine wp_lv (lv' := [(0, .ref 280), (1, .int x1), (2, .int x2), (3, .long x3), (5, .int x5), (6, .int (v8 - (1 : Int32))), (7, .int (((9 : Int32) * x1) + (v8 - (1 : Int32)))), (8, .int v9), (9, .int v10)]) ⟨rfl, rfl, rfl, rfl, rfl, rfl, rfl, rfl, rfl, trivial⟩ ?_
        exact t_r_throwOut_145 (r_throwOut_32 n) ih x1 x2 x3 x5 (v8 - (1 : Int32)) (((9 : Int32) * x1) + (v8 - (1 : Int32))) v9 v10 s11 h
      · skip
        refine x_iload (pc := 95) d169_95 rfl ?_
        refine z_if_ne (pc := 97) (tgt := 145) d169_97 (by decide) h (fun h => ?_) (fun h => ?_)
        · skip
          refine wp_lv (lv' := [(0, .ref 280), (1, .int x1), (2, .int x2), (3, .long x3), (5, .int x5), (6, .int (v8 - (1 : Int32))), (7, .int (((9 : Int32) * x1) + (v8 - (1 : Int32)))), (8, .int v9), (9, .int v10)]) ⟨rfl, rfl, rfl, rfl, rfl, rfl, rfl, rfl, rfl, trivial⟩ ?_
          exact t_r_throwOut_145 (r_throwOut_32 n) ih x1 x2 x3 x5 (v8 - (1 : Int32)) (((9 : Int32) * x1) + (v8 - (1 : Int32))) v9 v10 s11 h
        · skip
          refine x_iload_n (pc := 100) d169_100 rfl ?_
          refine z_if_ne (pc := 101) (tgt := 145) d169_101 (by decide) h (fun h => ?_) (fun h => ?_)
          · skip
            refine wp_lv (lv' := [(0, .ref 280), (1, .int x1), (2, .int x2), (3, .long x3), (5, .int x5), (6, .int (v8 - (1 : Int32))), (7, .int (((9 : Int32) * x1) + (v8 - (1 : Int32)))), (8, .int v9), (9, .int v10)]) ⟨rfl, rfl, rfl, rfl, rfl, rfl, rfl, rfl, rfl, trivial⟩ ?_
            exact t_r_throwOut_145 (r_throwOut_32 n) ih x1 x2 x3 x5 (v8 - (1 : Int32)) (((9 : Int32) * x1) + (v8 - (1 : Int32))) v9 v10 s11 h
          · skip
            refine x_aload_n (pc := 104) d169_104 rfl ?_
            refine y_getr (pc := 105) d169_105 fk9_104 shL280 rfl ?_
            refine x_bipush (pc := 108) (v := (10)) d169_108 (by decide) ?_
            refine x_iload_n (pc := 110) d169_110 rfl ?_
            refine x_imul (pc := 111) d169_111 ?_
            refine x_aload_n (pc := 112) d169_112 rfl ?_
            refine y_getr (pc := 113) d169_113 fk9_49 shL280 rfl ?_
            refine x_iload (pc := 116) d169_116 rfl ?_
            refine z_iald (pc := 118) d169_118 shL292 (by decide) h (fun v32 h => ?_)
            refine x_iadd (pc := 119) d169_119 ?_
            refine x_bipush (pc := 120) (v := (16)) d169_120 (by decide) ?_
            refine x_isub (pc := 122) d169_122 ?_
            refine x_lload_n (pc := 123) d169_123 rfl ?_
            refine z_last (pc := 124) d169_124 shL310 (by decide) h (fun s33 h => ?_)
            refine x_aload_n (pc := 125) d169_125 rfl ?_
            refine x_iload_n (pc := 126) d169_126 rfl ?_
            refine x_iload (pc := 127) d169_127 rfl ?_
            refine x_iconst (pc := 129) (v := (1)) d169_129 (by decide) ?_
            refine x_aload_n (pc := 130) d169_130 rfl ?_
            refine y_getr (pc := 131) d169_131 fk9_95 shL280 rfl ?_
            refine x_iload_n (pc := 134) d169_134 rfl ?_
            refine z_iald (pc := 135) d169_135 shL307 (by decide) h (fun v34 h => ?_)
            refine x_iconst (pc := 136) (v := (1)) d169_136 (by decide) ?_
            refine z_cS2i (pc := 137) d169_137 ml9_371 mv168 (t_r_atLeast v34 (1 : Int32) s33) (by decide) (Nat.le_of_ble_eq_true rfl) ⟨Nat.zero_le _, Nat.zero_le _⟩ h (fun v36 s35 h => ?_)
            refine z_cV4v (pc := 140) d169_140 ml9_367 mv167 shL280 (t_r_goIn x1 v9 (1 : Int32) v36 s35) (by decide) (Nat.le_of_ble_eq_true rfl) ⟨Nat.zero_le _, Nat.zero_le _⟩ h (fun s37 h => ?_)
            refine x_iconst (pc := 143) (v := (1)) d169_143 (by decide) ?_
            exact z_zretc (pc := 144) d169_144 rfl (Or.inr rfl) h
def r_throwOut (a0 : Int32) (a1 : Int32) (a2 : Int64) (a3 : Int32) (s : St) : Option (Int32 × St) := grd (ib a0 7) (s.1 261 0 a0.toNatClampNeg) fun v1 => if v1 ≤ 0 then (r_throwOut_32 40 a0 a1 a2 a3 s) else (grd (ib a0 7) (s.1 262 0 a0.toNatClampNeg) fun v39 => grd (ib a0 7) (s.1 261 0 a0.toNatClampNeg) fun v40 => cal (r_dropSerial v39 v40 s) fun s41 => grd (ib a0 7) (si s41 261 0 a0.toNatClampNeg (0 : Int32)) fun s43 => r_throwOut_32 40 a0 a1 a2 a3 s43)
set_option maxRecDepth 100000 in
theorem t_r_throwOut (a0 : Int32) (a1 : Int32) (a2 : Int64) (a3 : Int32) (s : St) (r : Int32 × St) (h : r_throwOut a0 a1 a2 a3 s = some r) : Ri 2 169 [.ref 280, .int a0, .int a1, .long a2, .int a3] s (fun v s1 => (v, s1) = r) := by
  refine ct_of (by decide +kernel) (Nat.le_of_ble_eq_true rfl) ?_
  show Wp _ _ _ _ _ _ [(0, .ref 280), (1, .int a0), (2, .int a1), (3, .long a2), (5, .int a3)] _ _ _
  unfold r_throwOut at h
  refine x_aload_n (pc := 0) d169_0 rfl ?_
  refine y_getr (pc := 1) d169_1 fk9_149 shL280 rfl ?_
  refine x_iload_n (pc := 4) d169_4 rfl ?_
  refine z_iald (pc := 5) d169_5 shL325 (by decide) h (fun v1 h => ?_)
  refine z_if_le (pc := 6) (tgt := 32) d169_6 (by decide) h (fun h => ?_) (fun h => ?_)
  · skip
    refine wp_lv (lv' := [(0, .ref 280), (1, .int a0), (2, .int a1), (3, .long a2), (5, .int a3)]) ⟨rfl, rfl, rfl, rfl, rfl, trivial⟩ ?_
    exact t_r_throwOut_32 40 a0 a1 a2 a3 s h
  · skip
    refine x_aload_n (pc := 9) d169_9 rfl ?_
    refine x_aload_n (pc := 10) d169_10 rfl ?_
    refine y_getr (pc := 11) d169_11 fk9_152 shL280 rfl ?_
    refine x_iload_n (pc := 14) d169_14 rfl ?_
    refine z_iald (pc := 15) d169_15 shL326 (by decide) h (fun v39 h => ?_)
    refine x_aload_n (pc := 16) d169_16 rfl ?_
    refine y_getr (pc := 17) d169_17 fk9_149 shL280 rfl ?_
    refine x_iload_n (pc := 20) d169_20 rfl ?_
    refine z_iald (pc := 21) d169_21 shL325 (by decide) h (fun v40 h => ?_)
    refine z_cV2v (pc := 22) d169_22 ml9_375 mv170 shL280 (t_r_dropSerial v39 v40 s) (by decide) (Nat.le_of_ble_eq_true rfl) ⟨Nat.zero_le _, Nat.zero_le _⟩ h (fun s41 h => ?_)
    refine x_aload_n (pc := 25) d169_25 rfl ?_
    refine y_getr (pc := 26) d169_26 fk9_149 shL280 rfl ?_
    refine x_iload_n (pc := 29) d169_29 rfl ?_
    refine x_iconst (pc := 30) (v := (0)) d169_30 (by decide) ?_
    refine z_iast (pc := 31) d169_31 shL325 (by decide) h (fun s43 h => ?_)
    refine wp_lv (lv' := [(0, .ref 280), (1, .int a0), (2, .int a1), (3, .long a2), (5, .int a3)]) ⟨rfl, rfl, rfl, rfl, rfl, trivial⟩ ?_
    exact t_r_throwOut_32 40 a0 a1 a2 a3 s43 h
def r_throwFirst_21 (x1 : Int32) (x2 : Int32) (y0 : Int32) (s : St) : Option (Int32 × St) := grd (ib x2 224) (s.2 257 0 x2.toNatClampNeg) fun v2 => grd (ib x2 224) (s.1 258 0 x2.toNatClampNeg) fun v3 => cal (r_fromRow x1 (0 : Int32) s) fun s4 => cal (r_note0 (1 : Int32) x1 v2 s4) fun s6 => cal2 (r_throwOut x1 y0 v2 v3 s6) fun v9 s8 => cal2 (r_thrown v9 s8) fun v11 s10 => some (v11, s10)
set_option maxRecDepth 100000 in
theorem t_r_throwFirst_21 {r : Int32 × St} : ∀ (x1 : Int32) (x2 : Int32) (y0 : Int32) (s : St), r_throwFirst_21 x1 x2 y0 s = some r → Wp (rmd 3 0 0) 172 (zi (fun v s1 => (v, s1) = r)) 0 0 21 [(0, .ref 280), (1, .int x1), (2, .int x2)] [.int y0] (mk s) TT := by
  intro x1 x2 y0 s h
  unfold r_throwFirst_21 at h
  refine x_istore_n (pc := 21) d172_21 (by decide) ?_
  refine x_aload_n (pc := 22) d172_22 rfl ?_
  refine y_getr (pc := 23) d172_23 fk9_140 shL280 rfl ?_
  refine x_iload_n (pc := 26) d172_26 rfl ?_
  refine z_lald (pc := 27) d172_27 shL322 (by decide) h (fun v2 h => ?_)
  refine x_lstore (pc := 28) d172_28 (by decide) ?_
  refine x_aload_n (pc := 30) d172_30 rfl ?_
  refine y_getr (pc := 31) d172_31 fk9_143 shL280 rfl ?_
  refine x_iload_n (pc := 34) d172_34 rfl ?_
  refine z_iald (pc := 35) d172_35 shL323 (by decide) h (fun v3 h => ?_)
  refine x_istore (pc := 36) d172_36 (by decide) ?_
  refine x_aload_n (pc := 38) d172_38 rfl ?_
  refine x_iload_n (pc := 39) d172_39 rfl ?_
  refine x_iconst (pc := 40) (v := (0)) d172_40 (by decide) ?_
  refine z_cV2v (pc := 41) d172_41 ml9_356 mv165 shL280 (t_r_fromRow x1 (0 : Int32) s) (by decide) (Nat.le_of_ble_eq_true rfl) ⟨Nat.zero_le _, Nat.zero_le _⟩ h (fun s4 h => ?_)
  refine x_aload_n (pc := 44) d172_44 rfl ?_
  refine x_iconst (pc := 45) (v := (1)) d172_45 (by decide) ?_
  refine x_iload_n (pc := 46) d172_46 rfl ?_
  refine x_lload (pc := 47) d172_47 rfl ?_
  refine z_cV3v (pc := 49) d172_49 ml9_364 mv166 shL280 (t_r_note0 (1 : Int32) x1 v2 s4) (by decide) (Nat.le_of_ble_eq_true rfl) ⟨Nat.zero_le _, Nat.zero_le _⟩ h (fun s6 h => ?_)
  refine x_aload_n (pc := 52) d172_52 rfl ?_
  refine x_aload_n (pc := 53) d172_53 rfl ?_
  refine x_iload_n (pc := 54) d172_54 rfl ?_
  refine x_iload_n (pc := 55) d172_55 rfl ?_
  refine x_lload (pc := 56) d172_56 rfl ?_
  refine x_iload (pc := 58) d172_58 rfl ?_
  refine z_cV4i (pc := 60) d172_60 ml9_378 mv169 shL280 (t_r_throwOut x1 y0 v2 v3 s6) (by decide) (Nat.le_of_ble_eq_true rfl) ⟨Nat.zero_le _, Nat.zero_le _⟩ h (fun v9 s8 h => ?_)
  refine z_cV1i (pc := 63) d172_63 ml9_382 mv171 shL280 (t_r_thrown v9 s8) (by decide) (Nat.le_of_ble_eq_true rfl) ⟨Nat.zero_le _, Nat.zero_le _⟩ h (fun v11 s10 h => ?_)
  exact z_iret (pc := 66) d172_66 rfl h
def r_throwFirst (a0 : Int32) (s : St) : Option (Int32 × St) := grd (ib ((32 : Int32) * a0) 224) (s.1 256 0 ((32 : Int32) * a0).toNatClampNeg) fun v1 => if v1 = (7 : Int32) then (r_throwFirst_21 a0 ((32 : Int32) * a0) (1 : Int32) s) else (r_throwFirst_21 a0 ((32 : Int32) * a0) (0 : Int32) s)
set_option maxRecDepth 100000 in
theorem t_r_throwFirst (a0 : Int32) (s : St) (r : Int32 × St) (h : r_throwFirst a0 s = some r) : Ri 3 172 [.ref 280, .int a0] s (fun v s1 => (v, s1) = r) := by
  refine ct_of (by decide +kernel) (Nat.le_of_ble_eq_true rfl) ?_
  show Wp _ _ _ _ _ _ [(0, .ref 280), (1, .int a0)] _ _ _
  unfold r_throwFirst at h
  refine x_bipush (pc := 0) (v := (32)) d172_0 (by decide) ?_
  refine x_iload_n (pc := 2) d172_2 rfl ?_
  refine x_imul (pc := 3) d172_3 ?_
  refine x_istore_n (pc := 4) d172_4 (by decide) ?_
  refine x_aload_n (pc := 5) d172_5 rfl ?_
  refine y_getr (pc := 6) d172_6 fk9_137 shL280 rfl ?_
  refine x_iload_n (pc := 9) d172_9 rfl ?_
  refine z_iald (pc := 10) d172_10 shL321 (by decide) h (fun v1 h => ?_)
  refine x_bipush (pc := 11) (v := (7)) d172_11 (by decide) ?_
  refine z_icmp_ne (pc := 13) (tgt := 20) d172_13 (by decide) h (fun h => ?_) (fun h => ?_)
  · skip
    refine x_iconst (pc := 20) (v := (0)) d172_20 (by decide) ?_
    refine wp_lv (lv' := [(0, .ref 280), (1, .int a0), (2, .int ((32 : Int32) * a0))]) ⟨rfl, rfl, rfl, trivial⟩ ?_
    exact t_r_throwFirst_21 a0 ((32 : Int32) * a0) (0 : Int32) s h
  · skip
    refine x_iconst (pc := 16) (v := (1)) d172_16 (by decide) ?_
    refine x_goto (pc := 17) (tgt := 21) d172_17 (by decide) ?_
    refine wp_lv (lv' := [(0, .ref 280), (1, .int a0), (2, .int ((32 : Int32) * a0))]) ⟨rfl, rfl, rfl, trivial⟩ ?_
    exact t_r_throwFirst_21 a0 ((32 : Int32) * a0) (1 : Int32) s h
def r_timeouts_95 (K2 : Int32 → St → Option (St)) (x1 : Int32) (s : St) : Option (St) := K2 (x1 + (1 : Int32)) s
set_option maxRecDepth 100000 in
theorem t_r_timeouts_95 {r : St} (K2 : Int32 → St → Option (St)) (hK2 : ∀ (x1 : Int32) (s : St), K2 x1 s = some r → Wp (rmd 1 0 0) 160 (zv (fun s1 => s1 = r)) 0 0 2 [(0, .ref 280), (1, .int x1)] [] (mk s) TT) : ∀ (x1 : Int32) (s : St), r_timeouts_95 K2 x1 s = some r → Wp (rmd 1 0 0) 160 (zv (fun s1 => s1 = r)) 0 0 95 [(0, .ref 280), (1, .int x1)] [] (mk s) TT := by
  intro x1 s h
  unfold r_timeouts_95 at h
  refine y_inc (pc := 95) (c := (1)) d160_95 (by decide) (by decide) rfl ?_
  refine x_goto (pc := 98) (tgt := 2) d160_98 (by decide) ?_
  refine wp_lv (lv' := [(0, .ref 280), (1, .int (x1 + (1 : Int32)))]) ⟨rfl, rfl, trivial⟩ ?_
  exact hK2 (x1 + (1 : Int32)) s h
def r_timeouts_89 (K2 : Int32 → St → Option (St)) (K10 : Int32 → Int32 → St → Option (St)) (x1 : Int32) (x2 : Int32) (s : St) : Option (St) := K10 x1 (x2 + (1 : Int32)) s
set_option maxRecDepth 100000 in
theorem t_r_timeouts_89 {r : St} (K2 : Int32 → St → Option (St)) (hK2 : ∀ (x1 : Int32) (s : St), K2 x1 s = some r → Wp (rmd 1 0 0) 160 (zv (fun s1 => s1 = r)) 0 0 2 [(0, .ref 280), (1, .int x1)] [] (mk s) TT) (K10 : Int32 → Int32 → St → Option (St)) (hK10 : ∀ (x1 : Int32) (x2 : Int32) (s : St), K10 x1 x2 s = some r → Wp (rmd 1 0 0) 160 (zv (fun s1 => s1 = r)) 0 0 10 [(0, .ref 280), (1, .int x1), (2, .int x2)] [] (mk s) TT) : ∀ (x1 : Int32) (x2 : Int32) (s : St), r_timeouts_89 K2 K10 x1 x2 s = some r → Wp (rmd 1 0 0) 160 (zv (fun s1 => s1 = r)) 0 0 89 [(0, .ref 280), (1, .int x1), (2, .int x2)] [] (mk s) TT := by
  intro x1 x2 s h
  unfold r_timeouts_89 at h
  refine y_inc (pc := 89) (c := (1)) d160_89 (by decide) (by decide) rfl ?_
  refine x_goto (pc := 92) (tgt := 10) d160_92 (by decide) ?_
  refine wp_lv (lv' := [(0, .ref 280), (1, .int x1), (2, .int (x2 + (1 : Int32)))]) ⟨rfl, rfl, rfl, trivial⟩ ?_
  exact hK10 x1 (x2 + (1 : Int32)) s h
def r_timeouts_10 (K2 : Int32 → St → Option (St)) : Nat → Int32 → Int32 → St → Option (St)
  | 0, _, _, _ => none
  | n + 1, x1, x2, s => grd (ib x1 7) (s.1 246 0 x1.toNatClampNeg) fun v1 => if v1 ≤ x2 then (r_timeouts_95 K2 x1 s) else (grd (ib x1 7) (s.1 240 0 x1.toNatClampNeg) fun v2 => if v2 = (1 : Int32) then (grd (ib (((9 : Int32) * x1) + x2) 63) (s.2 250 0 (((9 : Int32) * x1) + x2).toNatClampNeg) fun v3 => if v3 < (0 : Int64) then (r_timeouts_89 K2 (r_timeouts_10 K2 n) x1 x2 s) else (grd (ib (((9 : Int32) * x1) + x2) 63) (s.1 251 0 (((9 : Int32) * x1) + x2).toNatClampNeg) fun v4 => if v4 = 0 then (bnd (s.1 237 0 0) fun v5 => grd (ib (((9 : Int32) * x1) + x2) 63) (s.2 250 0 (((9 : Int32) * x1) + x2).toNatClampNeg) fun v6 => if v5.toInt64 < v6 then (r_timeouts_89 K2 (r_timeouts_10 K2 n) x1 x2 s) else (grd (ib (((9 : Int32) * x1) + x2) 63 ∧ zo (1 : Int32)) (si s 251 0 (((9 : Int32) * x1) + x2).toNatClampNeg (1 : Int32)) fun s7 => cal (r_toRow x1 (7 : Int32) (0 : Int64) x2 (0 : Int32) s7) fun s8 => r_timeouts_89 K2 (r_timeouts_10 K2 n) x1 x2 s8)) else (r_timeouts_89 K2 (r_timeouts_10 K2 n) x1 x2 s))) else (r_timeouts_95 K2 x1 s))
set_option maxRecDepth 100000 in
theorem t_r_timeouts_10 {r : St} (K2 : Int32 → St → Option (St)) (hK2 : ∀ (x1 : Int32) (s : St), K2 x1 s = some r → Wp (rmd 1 0 0) 160 (zv (fun s1 => s1 = r)) 0 0 2 [(0, .ref 280), (1, .int x1)] [] (mk s) TT) : ∀ (n : Nat) (x1 : Int32) (x2 : Int32) (s : St), r_timeouts_10 K2 n x1 x2 s = some r → Wp (rmd 1 0 0) 160 (zv (fun s1 => s1 = r)) 0 0 10 [(0, .ref 280), (1, .int x1), (2, .int x2)] [] (mk s) TT := by
  intro n
  induction n with
  | zero =>
    intro x1 x2 s h
    rw [r_timeouts_10.eq_1] at h
    cases h
  | succ n ih =>
    intro x1 x2 s h
    rw [r_timeouts_10.eq_2] at h
    refine x_iload_n (pc := 10) d160_10 rfl ?_
    refine x_aload_n (pc := 11) d160_11 rfl ?_
    refine y_getr (pc := 12) d160_12 fk9_107 shL280 rfl ?_
    refine x_iload_n (pc := 15) d160_15 rfl ?_
    refine z_iald (pc := 16) d160_16 shL311 (by decide) h (fun v1 h => ?_)
    refine z_icmp_ge (pc := 17) (tgt := 95) d160_17 (by decide) h (fun h => ?_) (fun h => ?_)
    · skip
      refine wp_lv (lv' := [(0, .ref 280), (1, .int x1)]) ⟨rfl, rfl, trivial⟩ ?_
      exact t_r_timeouts_95 K2 hK2 x1 s h
    · skip
      refine x_aload_n (pc := 20) d160_20 rfl ?_
      refine y_getr (pc := 21) d160_21 fk9_89 shL280 rfl ?_
      refine x_iload_n (pc := 24) d160_24 rfl ?_
      refine z_iald (pc := 25) d160_25 shL305 (by decide) h (fun v2 h => ?_)
      refine x_iconst (pc := 26) (v := (1)) d160_26 (by decide) ?_
      refine z_icmp_ne (pc := 27) (tgt := 95) d160_27 (by decide) h (fun h => ?_) (fun h => ?_)
      · skip
        refine wp_lv (lv' := [(0, .ref 280), (1, .int x1)]) ⟨rfl, rfl, trivial⟩ ?_
        exact t_r_timeouts_95 K2 hK2 x1 s h
      · skip
        refine x_bipush (pc := 30) (v := (9)) d160_30 (by decide) ?_
        refine x_iload_n (pc := 32) d160_32 rfl ?_
        refine x_imul (pc := 33) d160_33 ?_
        refine x_iload_n (pc := 34) d160_34 rfl ?_
        refine x_iadd (pc := 35) d160_35 ?_
        refine x_istore_n (pc := 36) d160_36 (by decide) ?_
        refine x_aload_n (pc := 37) d160_37 rfl ?_
        refine y_getr (pc := 38) d160_38 fk9_119 shL280 rfl ?_
        refine x_iload_n (pc := 41) d160_41 rfl ?_
        refine z_lald (pc := 42) d160_42 shL315 (by decide) h (fun v3 h => ?_)
        refine x_lconst (pc := 43) (v := (0)) d160_43 (by decide) ?_
        refine z_lif_lt (pc := 44) (tgt := 89) d160_44 d160_45 (by decide) h (fun h => ?_) (fun h => ?_)
        · skip
          refine wp_lv (lv' := [(0, .ref 280), (1, .int x1), (2, .int x2)]) ⟨rfl, rfl, rfl, trivial⟩ ?_
          exact t_r_timeouts_89 K2 hK2 (r_timeouts_10 K2 n) ih x1 x2 s h
        · skip
          refine x_aload_n (pc := 48) d160_48 rfl ?_
          refine y_getr (pc := 49) d160_49 fk9_122 shL280 rfl ?_
          refine x_iload_n (pc := 52) d160_52 rfl ?_
          refine z_zald (pc := 53) d160_53 shL316 (by decide) h (fun v4 h => ?_)
          refine z_if_ne (pc := 54) (tgt := 89) d160_54 (by decide) h (fun h => ?_) (fun h => ?_)
          · skip
            refine wp_lv (lv' := [(0, .ref 280), (1, .int x1), (2, .int x2)]) ⟨rfl, rfl, rfl, trivial⟩ ?_
            exact t_r_timeouts_89 K2 hK2 (r_timeouts_10 K2 n) ih x1 x2 s h
          · skip
            refine x_aload_n (pc := 57) d160_57 rfl ?_
            refine z_geti (pc := 58) d160_58 fk9_353 shL280 rfl h (fun v5 h => ?_)
            refine x_i2l (pc := 61) d160_61 ?_
            refine x_aload_n (pc := 62) d160_62 rfl ?_
            refine y_getr (pc := 63) d160_63 fk9_119 shL280 rfl ?_
            refine x_iload_n (pc := 66) d160_66 rfl ?_
            refine z_lald (pc := 67) d160_67 shL315 (by decide) h (fun v6 h => ?_)
            refine z_lif_lt (pc := 68) (tgt := 89) d160_68 d160_69 (by decide) h (fun h => ?_) (fun h => ?_)
            · skip
              refine wp_lv (lv' := [(0, .ref 280), (1, .int x1), (2, .int x2)]) ⟨rfl, rfl, rfl, trivial⟩ ?_
              exact t_r_timeouts_89 K2 hK2 (r_timeouts_10 K2 n) ih x1 x2 s h
            · skip
              refine x_aload_n (pc := 72) d160_72 rfl ?_
              refine y_getr (pc := 73) d160_73 fk9_122 shL280 rfl ?_
              refine x_iload_n (pc := 76) d160_76 rfl ?_
              refine x_iconst (pc := 77) (v := (1)) d160_77 (by decide) ?_
              refine z_zast (pc := 78) d160_78 shL316 (by decide) h (fun s7 h => ?_)
              refine x_aload_n (pc := 79) d160_79 rfl ?_
              refine x_iload_n (pc := 80) d160_80 rfl ?_
              refine x_bipush (pc := 81) (v := (7)) d160_81 (by decide) ?_
              refine x_lconst (pc := 83) (v := (0)) d160_83 (by decide) ?_
              refine x_iload_n (pc := 84) d160_84 rfl ?_
              refine x_iconst (pc := 85) (v := (0)) d160_85 (by decide) ?_
              refine z_cV5v (pc := 86) d160_86 ml9_386 mv161 shL280 (t_r_toRow x1 (7 : Int32) (0 : Int64) x2 (0 : Int32) s7) (by decide) (Nat.le_of_ble_eq_true rfl) ⟨Nat.zero_le _, Nat.zero_le _⟩ h (fun s8 h => ?_)
              refine wp_lv (lv' := [(0, .ref 280), (1, .int x1), (2, .int x2)]) ⟨rfl, rfl, rfl, trivial⟩ ?_
              exact t_r_timeouts_89 K2 hK2 (r_timeouts_10 K2 n) ih x1 x2 s8 h
def r_timeouts_2 : Nat → Int32 → St → Option (St)
  | 0, _, _ => none
  | n + 1, x1, s => if (6 : Int32) ≤ x1 then (some s) else (r_timeouts_10 (r_timeouts_2 n) 40 x1 (0 : Int32) s)
set_option maxRecDepth 100000 in
theorem t_r_timeouts_2 {r : St} : ∀ (n : Nat) (x1 : Int32) (s : St), r_timeouts_2 n x1 s = some r → Wp (rmd 1 0 0) 160 (zv (fun s1 => s1 = r)) 0 0 2 [(0, .ref 280), (1, .int x1)] [] (mk s) TT := by
  intro n
  induction n with
  | zero =>
    intro x1 s h
    rw [r_timeouts_2.eq_1] at h
    cases h
  | succ n ih =>
    intro x1 s h
    rw [r_timeouts_2.eq_2] at h
    refine x_iload_n (pc := 2) d160_2 rfl ?_
    refine x_bipush (pc := 3) (v := (6)) d160_3 (by decide) ?_
    refine z_icmp_ge (pc := 5) (tgt := 101) d160_5 (by decide) h (fun h => ?_) (fun h => ?_)
    · skip
      exact z_vret (pc := 101) d160_101 rfl h
    · skip
      refine x_iconst (pc := 8) (v := (0)) d160_8 (by decide) ?_
      refine x_istore_n (pc := 9) d160_9 (by decide) ?_
      refine wp_lv (lv' := [(0, .ref 280), (1, .int x1), (2, .int (0 : Int32))]) ⟨rfl, rfl, rfl, trivial⟩ ?_
      exact t_r_timeouts_10 (r_timeouts_2 n) ih 40 x1 (0 : Int32) s h
def r_timeouts (s : St) : Option (St) := r_timeouts_2 40 (0 : Int32) s
set_option maxRecDepth 100000 in
theorem t_r_timeouts (s : St) (r : St) (h : r_timeouts s = some r) : Rv 1 160 [.ref 280] s (fun s1 => s1 = r) := by
  refine ct_of (by decide +kernel) (Nat.le_of_ble_eq_true rfl) ?_
  show Wp _ _ _ _ _ _ [(0, .ref 280)] _ _ _
  unfold r_timeouts at h
  refine x_iconst (pc := 0) (v := (0)) d160_0 (by decide) ?_
  refine x_istore_n (pc := 1) d160_1 (by decide) ?_
  refine wp_lv (lv' := [(0, .ref 280), (1, .int (0 : Int32))]) ⟨rfl, rfl, trivial⟩ ?_
  exact t_r_timeouts_2 40 (0 : Int32) s h
def r_waits_27 (s : St) : Option (Int32 × St) := some ((4 : Int32), s)
set_option maxRecDepth 100000 in
theorem t_r_waits_27 {r : Int32 × St} : ∀ (s : St), r_waits_27 s = some r → Wp (rmd 4 0 0) 174 (zi (fun v s1 => (v, s1) = r)) 0 0 27 [] [] (mk s) TT := by
  intro s h
  unfold r_waits_27 at h
  refine x_iconst (pc := 27) (v := (4)) d174_27 (by decide) ?_
  exact z_iret (pc := 28) d174_28 rfl h
def r_waits (a0 : Int32) (s : St) : Option (Int32 × St) := grd (ib a0 7) (s.1 242 0 a0.toNatClampNeg) fun v1 => if v1 = (1 : Int32) then (grd (ib a0 7) (s.1 255 0 a0.toNatClampNeg) fun v2 => if v2 ≤ 0 then (r_waits_27 s) else (cal2 (r_throwFirst a0 s) fun v4 s3 => some (v4, s3))) else (r_waits_27 s)
set_option maxRecDepth 100000 in
theorem t_r_waits (a0 : Int32) (s : St) (r : Int32 × St) (h : r_waits a0 s = some r) : Ri 4 174 [.ref 280, .int a0] s (fun v s1 => (v, s1) = r) := by
  refine ct_of (by decide +kernel) (Nat.le_of_ble_eq_true rfl) ?_
  show Wp _ _ _ _ _ _ [(0, .ref 280), (1, .int a0)] _ _ _
  unfold r_waits at h
  refine x_aload_n (pc := 0) d174_0 rfl ?_
  refine y_getr (pc := 1) d174_1 fk9_95 shL280 rfl ?_
  refine x_iload_n (pc := 4) d174_4 rfl ?_
  refine z_iald (pc := 5) d174_5 shL307 (by decide) h (fun v1 h => ?_)
  refine x_iconst (pc := 6) (v := (1)) d174_6 (by decide) ?_
  refine z_icmp_ne (pc := 7) (tgt := 27) d174_7 (by decide) h (fun h => ?_) (fun h => ?_)
  · skip
    refine wp_lv (lv' := []) trivial ?_
    exact t_r_waits_27 s h
  · skip
    refine x_aload_n (pc := 10) d174_10 rfl ?_
    refine y_getr (pc := 11) d174_11 fk9_134 shL280 rfl ?_
    refine x_iload_n (pc := 14) d174_14 rfl ?_
    refine z_iald (pc := 15) d174_15 shL320 (by decide) h (fun v2 h => ?_)
    refine z_if_le (pc := 16) (tgt := 27) d174_16 (by decide) h (fun h => ?_) (fun h => ?_)
    · skip
      refine wp_lv (lv' := []) trivial ?_
      exact t_r_waits_27 s h
    · skip
      refine x_aload_n (pc := 19) d174_19 rfl ?_
      refine x_iload_n (pc := 20) d174_20 rfl ?_
      refine z_cV1i (pc := 21) d174_21 ml9_390 mv172 shL280 (t_r_throwFirst a0 s) (by decide) (Nat.le_of_ble_eq_true rfl) ⟨Nat.zero_le _, Nat.zero_le _⟩ h (fun v4 s3 h => ?_)
      refine x_goto (pc := 24) (tgt := 28) d174_24 (by decide) ?_
      exact z_iret (pc := 28) d174_28 rfl h
def r_work_247 (K5 : Int32 → Int32 → Int32 → St → Option (Int64 × St)) (x1 : Int32) (x3 : Int32) (x4 : Int32) (s : St) : Option (Int64 × St) := K5 x1 x3 (x4 + (1 : Int32)) s
set_option maxRecDepth 100000 in
theorem t_r_work_247 {r : Int64 × St} (K5 : Int32 → Int32 → Int32 → St → Option (Int64 × St)) (hK5 : ∀ (x1 : Int32) (x3 : Int32) (x4 : Int32) (s : St), K5 x1 x3 x4 s = some r → Wp (rmd 0 0 0) 173 (zj (fun v s1 => (v, s1) = r)) 0 0 5 [(0, .ref 280), (1, .int x1), (3, .int x3), (4, .int x4)] [] (mk s) TT) : ∀ (x1 : Int32) (x3 : Int32) (x4 : Int32) (s : St), r_work_247 K5 x1 x3 x4 s = some r → Wp (rmd 0 0 0) 173 (zj (fun v s1 => (v, s1) = r)) 0 0 247 [(0, .ref 280), (1, .int x1), (3, .int x3), (4, .int x4)] [] (mk s) TT := by
  intro x1 x3 x4 s h
  unfold r_work_247 at h
  refine y_inc (pc := 247) (c := (1)) d173_247 (by decide) (by decide) rfl ?_
  refine x_goto (pc := 250) (tgt := 5) d173_250 (by decide) ?_
  refine wp_lv (lv' := [(0, .ref 280), (1, .int x1), (3, .int x3), (4, .int (x4 + (1 : Int32)))]) ⟨rfl, rfl, rfl, rfl, trivial⟩ ?_
  exact hK5 x1 x3 (x4 + (1 : Int32)) s h
def r_work_246 (K5 : Int32 → Int32 → Int32 → St → Option (Int64 × St)) (x1 : Int32) (x3 : Int32) (x4 : Int32) (y0 : Int64) (y1 : Int32) (s : St) : Option (Int64 × St) := grd (ib y1 64) (sl s 268 0 y1.toNatClampNeg y0) fun s6 => r_work_247 K5 x1 x3 x4 s6
set_option maxRecDepth 100000 in
theorem t_r_work_246 {r : Int64 × St} (K5 : Int32 → Int32 → Int32 → St → Option (Int64 × St)) (hK5 : ∀ (x1 : Int32) (x3 : Int32) (x4 : Int32) (s : St), K5 x1 x3 x4 s = some r → Wp (rmd 0 0 0) 173 (zj (fun v s1 => (v, s1) = r)) 0 0 5 [(0, .ref 280), (1, .int x1), (3, .int x3), (4, .int x4)] [] (mk s) TT) : ∀ (x1 : Int32) (x3 : Int32) (x4 : Int32) (y0 : Int64) (y1 : Int32) (s : St), r_work_246 K5 x1 x3 x4 y0 y1 s = some r → Wp (rmd 0 0 0) 173 (zj (fun v s1 => (v, s1) = r)) 0 0 246 [(0, .ref 280), (1, .int x1), (3, .int x3), (4, .int x4)] [.long y0, .int y1, .ref 331] (mk s) TT := by
  intro x1 x3 x4 y0 y1 s h
  unfold r_work_246 at h
  refine z_last (pc := 246) d173_246 shL331 (by decide) h (fun s6 h => ?_)
  refine wp_lv (lv' := [(0, .ref 280), (1, .int x1), (3, .int x3), (4, .int x4)]) ⟨rfl, rfl, rfl, rfl, trivial⟩ ?_
  exact t_r_work_247 K5 hK5 x1 x3 x4 s6 h
def r_work_5 : Nat → Int32 → Int32 → Int32 → St → Option (Int64 × St)
  | 0, _, _, _, _ => none
  | n + 1, x1, x3, x4, s => grd (ib x4 2400) (s.1 224 0 x4.toNatClampNeg) fun v1 => if v1 = (4 : Int32) then (grd (ib (0 : Int32) 64) (s.2 268 0 (0 : Int32).toNatClampNeg) fun v2 => some (v2, s)) else (grd (ib x4 2400) (s.1 224 0 x4.toNatClampNeg) fun v3 => if v3 = (1 : Int32) then (grd (ib x4 2400) (s.2 226 0 x4.toNatClampNeg) fun v12 => grd (ib x3 64) (sl s 268 0 x3.toNatClampNeg v12) fun s13 => r_work_247 (r_work_5 n) x1 (x3 + (1 : Int32)) x4 s13) else (if v3 = (2 : Int32) then (grd (ib x4 2400) (s.1 225 0 x4.toNatClampNeg) fun v9 => grd (ib ((((10 : Int32) * x1) + v9) - (16 : Int32)) 70) (s.2 245 0 ((((10 : Int32) * x1) + v9) - (16 : Int32)).toNatClampNeg) fun v10 => grd (ib x3 64) (sl s 268 0 x3.toNatClampNeg v10) fun s11 => r_work_247 (r_work_5 n) x1 (x3 + (1 : Int32)) x4 s11) else (if v3 = (3 : Int32) then (grd (ib (x3 - (1 : Int32)) 64) (s.2 268 0 (x3 - (1 : Int32)).toNatClampNeg) fun v7 => grd (ib (x3 - (1 : Int32)) 64) (sl s 268 0 (x3 - (1 : Int32)).toNatClampNeg (-v7)) fun s8 => r_work_247 (r_work_5 n) x1 x3 x4 s8) else (grd (ib ((x3 + (-1 : Int32)) - (1 : Int32)) 64) (s.2 268 0 ((x3 + (-1 : Int32)) - (1 : Int32)).toNatClampNeg) fun v4 => grd (ib (x3 + (-1 : Int32)) 64) (s.2 268 0 (x3 + (-1 : Int32)).toNatClampNeg) fun v5 => if v3 = (60 : Int32) then (if v4 < v5 then (r_work_246 (r_work_5 n) x1 (x3 + (-1 : Int32)) x4 (1 : Int64) ((x3 + (-1 : Int32)) - (1 : Int32)) s) else (r_work_246 (r_work_5 n) x1 (x3 + (-1 : Int32)) x4 (0 : Int64) ((x3 + (-1 : Int32)) - (1 : Int32)) s)) else (if v3 = (61 : Int32) then (if v4 = v5 then (r_work_246 (r_work_5 n) x1 (x3 + (-1 : Int32)) x4 (1 : Int64) ((x3 + (-1 : Int32)) - (1 : Int32)) s) else (r_work_246 (r_work_5 n) x1 (x3 + (-1 : Int32)) x4 (0 : Int64) ((x3 + (-1 : Int32)) - (1 : Int32)) s)) else (if v3 = (35 : Int32) then (if v4 = v5 then (r_work_246 (r_work_5 n) x1 (x3 + (-1 : Int32)) x4 (0 : Int64) ((x3 + (-1 : Int32)) - (1 : Int32)) s) else (r_work_246 (r_work_5 n) x1 (x3 + (-1 : Int32)) x4 (1 : Int64) ((x3 + (-1 : Int32)) - (1 : Int32)) s)) else (if v3 = (43 : Int32) then (r_work_246 (r_work_5 n) x1 (x3 + (-1 : Int32)) x4 (v4 + v5) ((x3 + (-1 : Int32)) - (1 : Int32)) s) else (if v3 = (45 : Int32) then (r_work_246 (r_work_5 n) x1 (x3 + (-1 : Int32)) x4 (v4 - v5) ((x3 + (-1 : Int32)) - (1 : Int32)) s) else (r_work_246 (r_work_5 n) x1 (x3 + (-1 : Int32)) x4 (v4 * v5) ((x3 + (-1 : Int32)) - (1 : Int32)) s)))))))))
set_option maxRecDepth 100000 in
theorem t_r_work_5 {r : Int64 × St} : ∀ (n : Nat) (x1 : Int32) (x3 : Int32) (x4 : Int32) (s : St), r_work_5 n x1 x3 x4 s = some r → Wp (rmd 0 0 0) 173 (zj (fun v s1 => (v, s1) = r)) 0 0 5 [(0, .ref 280), (1, .int x1), (3, .int x3), (4, .int x4)] [] (mk s) TT := by
  intro n
  induction n with
  | zero =>
    intro x1 x3 x4 s h
    rw [r_work_5.eq_1] at h
    cases h
  | succ n ih =>
    intro x1 x3 x4 s h
    rw [r_work_5.eq_2] at h
    refine x_aload_n (pc := 5) d173_5 rfl ?_
    refine y_getr (pc := 6) d173_6 fk9_58 shL280 rfl ?_
    refine x_iload (pc := 9) d173_9 rfl ?_
    refine z_iald (pc := 11) d173_11 shL295 (by decide) h (fun v1 h => ?_)
    refine x_iconst (pc := 12) (v := (4)) d173_12 (by decide) ?_
    refine z_icmp_eq (pc := 13) (tgt := 253) d173_13 (by decide) h (fun h => ?_) (fun h => ?_)
    · skip
      refine x_aload_n (pc := 253) d173_253 rfl ?_
      refine y_getr (pc := 254) d173_254 fk9_167 shL280 rfl ?_
      refine x_iconst (pc := 257) (v := (0)) d173_257 (by decide) ?_
      refine z_lald (pc := 258) d173_258 shL331 (by decide) h (fun v2 h => ?_)
      exact z_lret (pc := 259) d173_259 rfl h
    · skip
      refine x_aload_n (pc := 16) d173_16 rfl ?_
      refine y_getr (pc := 17) d173_17 fk9_58 shL280 rfl ?_
      refine x_iload (pc := 20) d173_20 rfl ?_
      refine z_iald (pc := 22) d173_22 shL295 (by decide) h (fun v3 h => ?_)
      refine x_istore (pc := 23) d173_23 (by decide) ?_
      refine x_iload (pc := 25) d173_25 rfl ?_
      refine x_iconst (pc := 27) (v := (1)) d173_27 (by decide) ?_
      refine z_icmp_ne (pc := 28) (tgt := 50) d173_28 (by decide) h (fun h => ?_) (fun h => ?_)
      · skip
        refine x_iload (pc := 50) d173_50 rfl ?_
        refine x_iconst (pc := 52) (v := (2)) d173_52 (by decide) ?_
        refine z_icmp_ne (pc := 53) (tgt := 88) d173_53 (by decide) h (fun h => ?_) (fun h => ?_)
        · skip
          refine x_iload (pc := 88) d173_88 rfl ?_
          refine x_iconst (pc := 90) (v := (3)) d173_90 (by decide) ?_
          refine z_icmp_ne (pc := 91) (tgt := 114) d173_91 (by decide) h (fun h => ?_) (fun h => ?_)
          · skip
            refine y_inc (pc := 114) (c := (-1)) d173_114 (by decide) (by decide) rfl ?_
            refine x_aload_n (pc := 117) d173_117 rfl ?_
            refine y_getr (pc := 118) d173_118 fk9_167 shL280 rfl ?_
            refine x_iload_n (pc := 121) d173_121 rfl ?_
            refine x_iconst (pc := 122) (v := (1)) d173_122 (by decide) ?_
            refine x_isub (pc := 123) d173_123 ?_
            refine z_lald (pc := 124) d173_124 shL331 (by decide) h (fun v4 h => ?_)
            refine x_lstore (pc := 125) d173_125 (by decide) ?_
            refine x_aload_n (pc := 127) d173_127 rfl ?_
            refine y_getr (pc := 128) d173_128 fk9_167 shL280 rfl ?_
            refine x_iload_n (pc := 131) d173_131 rfl ?_
            refine z_lald (pc := 132) d173_132 shL331 (by decide) h (fun v5 h => ?_)
            refine x_lstore (pc := 133) d173_133 (by decide) ?_
            refine x_aload_n (pc := 135) d173_135 rfl ?_
            refine y_getr (pc := 136) d173_136 fk9_167 shL280 rfl ?_
            refine x_iload_n (pc := 139) d173_139 rfl ?_
            refine x_iconst (pc := 140) (v := (1)) d173_140 (by decide) ?_
            refine x_isub (pc := 141) d173_141 ?_
            refine x_iload (pc := 142) d173_142 rfl ?_
            refine x_bipush (pc := 144) (v := (60)) d173_144 (by decide) ?_
            refine z_icmp_ne (pc := 146) (tgt := 165) d173_146 (by decide) h (fun h => ?_) (fun h => ?_)
            · skip
              refine x_iload (pc := 165) d173_165 rfl ?_
              refine x_bipush (pc := 167) (v := (61)) d173_167 (by decide) ?_
              refine z_icmp_ne (pc := 169) (tgt := 188) d173_169 (by decide) h (fun h => ?_) (fun h => ?_)
              · skip
                refine x_iload (pc := 188) d173_188 rfl ?_
                refine x_bipush (pc := 190) (v := (35)) d173_190 (by decide) ?_
                refine z_icmp_ne (pc := 192) (tgt := 211) d173_192 (by decide) h (fun h => ?_) (fun h => ?_)
                · skip
                  refine x_iload (pc := 211) d173_211 rfl ?_
                  refine x_bipush (pc := 213) (v := (43)) d173_213 (by decide) ?_
                  refine z_icmp_ne (pc := 215) (tgt := 226) d173_215 (by decide) h (fun h => ?_) (fun h => ?_)
                  · skip
                    refine x_iload (pc := 226) d173_226 rfl ?_
                    refine x_bipush (pc := 228) (v := (45)) d173_228 (by decide) ?_
                    refine z_icmp_ne (pc := 230) (tgt := 241) d173_230 (by decide) h (fun h => ?_) (fun h => ?_)
                    · skip
                      refine x_lload (pc := 241) d173_241 rfl ?_
                      refine x_lload (pc := 243) d173_243 rfl ?_
                      refine x_lmul (pc := 245) d173_245 ?_
                      refine wp_lv (lv' := [(0, .ref 280), (1, .int x1), (3, .int (x3 + (-1 : Int32))), (4, .int x4)]) ⟨rfl, rfl, rfl, rfl, trivial⟩ ?_
                      exact t_r_work_246 (r_work_5 n) ih x1 (x3 + (-1 : Int32)) x4 (v4 * v5) ((x3 + (-1 : Int32)) - (1 : Int32)) s h
                    · skip
                      refine x_lload (pc := 233) d173_233 rfl ?_
                      refine x_lload (pc := 235) d173_235 rfl ?_
                      refine x_lsub (pc := 237) d173_237 ?_
                      refine x_goto (pc := 238) (tgt := 246) d173_238 (by decide) ?_
                      refine wp_lv (lv' := [(0, .ref 280), (1, .int x1), (3, .int (x3 + (-1 : Int32))), (4, .int x4)]) ⟨rfl, rfl, rfl, rfl, trivial⟩ ?_
                      exact t_r_work_246 (r_work_5 n) ih x1 (x3 + (-1 : Int32)) x4 (v4 - v5) ((x3 + (-1 : Int32)) - (1 : Int32)) s h
                  · skip
                    refine x_lload (pc := 218) d173_218 rfl ?_
                    refine x_lload (pc := 220) d173_220 rfl ?_
                    refine x_ladd (pc := 222) d173_222 ?_
                    refine x_goto (pc := 223) (tgt := 246) d173_223 (by decide) ?_
                    refine wp_lv (lv' := [(0, .ref 280), (1, .int x1), (3, .int (x3 + (-1 : Int32))), (4, .int x4)]) ⟨rfl, rfl, rfl, rfl, trivial⟩ ?_
                    exact t_r_work_246 (r_work_5 n) ih x1 (x3 + (-1 : Int32)) x4 (v4 + v5) ((x3 + (-1 : Int32)) - (1 : Int32)) s h
                · skip
                  refine x_lload (pc := 195) d173_195 rfl ?_
                  refine x_lload (pc := 197) d173_197 rfl ?_
                  refine z_lif_eq (pc := 199) (tgt := 207) d173_199 d173_200 (by decide) h (fun h => ?_) (fun h => ?_)
                  · skip
                    refine x_lconst (pc := 207) (v := (0)) d173_207 (by decide) ?_
                    refine x_goto (pc := 208) (tgt := 246) d173_208 (by decide) ?_
                    refine wp_lv (lv' := [(0, .ref 280), (1, .int x1), (3, .int (x3 + (-1 : Int32))), (4, .int x4)]) ⟨rfl, rfl, rfl, rfl, trivial⟩ ?_
                    exact t_r_work_246 (r_work_5 n) ih x1 (x3 + (-1 : Int32)) x4 (0 : Int64) ((x3 + (-1 : Int32)) - (1 : Int32)) s h
                  · skip
                    refine x_lconst (pc := 203) (v := (1)) d173_203 (by decide) ?_
                    refine x_goto (pc := 204) (tgt := 246) d173_204 (by decide) ?_
                    refine wp_lv (lv' := [(0, .ref 280), (1, .int x1), (3, .int (x3 + (-1 : Int32))), (4, .int x4)]) ⟨rfl, rfl, rfl, rfl, trivial⟩ ?_
                    exact t_r_work_246 (r_work_5 n) ih x1 (x3 + (-1 : Int32)) x4 (1 : Int64) ((x3 + (-1 : Int32)) - (1 : Int32)) s h
              · skip
                refine x_lload (pc := 172) d173_172 rfl ?_
                refine x_lload (pc := 174) d173_174 rfl ?_
                refine z_lif_ne (pc := 176) (tgt := 184) d173_176 d173_177 (by decide) h (fun h => ?_) (fun h => ?_)
                · skip
                  refine x_lconst (pc := 184) (v := (0)) d173_184 (by decide) ?_
                  refine x_goto (pc := 185) (tgt := 246) d173_185 (by decide) ?_
                  refine wp_lv (lv' := [(0, .ref 280), (1, .int x1), (3, .int (x3 + (-1 : Int32))), (4, .int x4)]) ⟨rfl, rfl, rfl, rfl, trivial⟩ ?_
                  exact t_r_work_246 (r_work_5 n) ih x1 (x3 + (-1 : Int32)) x4 (0 : Int64) ((x3 + (-1 : Int32)) - (1 : Int32)) s h
                · skip
                  refine x_lconst (pc := 180) (v := (1)) d173_180 (by decide) ?_
                  refine x_goto (pc := 181) (tgt := 246) d173_181 (by decide) ?_
                  refine wp_lv (lv' := [(0, .ref 280), (1, .int x1), (3, .int (x3 + (-1 : Int32))), (4, .int x4)]) ⟨rfl, rfl, rfl, rfl, trivial⟩ ?_
                  exact t_r_work_246 (r_work_5 n) ih x1 (x3 + (-1 : Int32)) x4 (1 : Int64) ((x3 + (-1 : Int32)) - (1 : Int32)) s h
            · skip
              refine x_lload (pc := 149) d173_149 rfl ?_
              refine x_lload (pc := 151) d173_151 rfl ?_
              refine z_lif_ge (pc := 153) (tgt := 161) d173_153 d173_154 (by decide) h (fun h => ?_) (fun h => ?_)
              · skip
                refine x_lconst (pc := 161) (v := (0)) d173_161 (by decide) ?_
                refine x_goto (pc := 162) (tgt := 246) d173_162 (by decide) ?_
                refine wp_lv (lv' := [(0, .ref 280), (1, .int x1), (3, .int (x3 + (-1 : Int32))), (4, .int x4)]) ⟨rfl, rfl, rfl, rfl, trivial⟩ ?_
                exact t_r_work_246 (r_work_5 n) ih x1 (x3 + (-1 : Int32)) x4 (0 : Int64) ((x3 + (-1 : Int32)) - (1 : Int32)) s h
              · skip
                refine x_lconst (pc := 157) (v := (1)) d173_157 (by decide) ?_
                refine x_goto (pc := 158) (tgt := 246) d173_158 (by decide) ?_
                refine wp_lv (lv' := [(0, .ref 280), (1, .int x1), (3, .int (x3 + (-1 : Int32))), (4, .int x4)]) ⟨rfl, rfl, rfl, rfl, trivial⟩ ?_
                exact t_r_work_246 (r_work_5 n) ih x1 (x3 + (-1 : Int32)) x4 (1 : Int64) ((x3 + (-1 : Int32)) - (1 : Int32)) s h
          · skip
            refine x_aload_n (pc := 94) d173_94 rfl ?_
            refine y_getr (pc := 95) d173_95 fk9_167 shL280 rfl ?_
            refine x_iload_n (pc := 98) d173_98 rfl ?_
            refine x_iconst (pc := 99) (v := (1)) d173_99 (by decide) ?_
            refine x_isub (pc := 100) d173_100 ?_
            refine x_aload_n (pc := 101) d173_101 rfl ?_
            refine y_getr (pc := 102) d173_102 fk9_167 shL280 rfl ?_
            refine x_iload_n (pc := 105) d173_105 rfl ?_
            refine x_iconst (pc := 106) (v := (1)) d173_106 (by decide) ?_
            refine x_isub (pc := 107) d173_107 ?_
            refine z_lald (pc := 108) d173_108 shL331 (by decide) h (fun v7 h => ?_)
            refine x_lneg (pc := 109) d173_109 ?_
            refine z_last (pc := 110) d173_110 shL331 (by decide) h (fun s8 h => ?_)
            refine x_goto (pc := 111) (tgt := 247) d173_111 (by decide) ?_
            refine wp_lv (lv' := [(0, .ref 280), (1, .int x1), (3, .int x3), (4, .int x4)]) ⟨rfl, rfl, rfl, rfl, trivial⟩ ?_
            exact t_r_work_247 (r_work_5 n) ih x1 x3 x4 s8 h
        · skip
          refine x_aload_n (pc := 56) d173_56 rfl ?_
          refine y_getr (pc := 57) d173_57 fk9_167 shL280 rfl ?_
          refine x_iload_n (pc := 60) d173_60 rfl ?_
          refine x_aload_n (pc := 61) d173_61 rfl ?_
          refine y_getr (pc := 62) d173_62 fk9_104 shL280 rfl ?_
          refine x_bipush (pc := 65) (v := (10)) d173_65 (by decide) ?_
          refine x_iload_n (pc := 67) d173_67 rfl ?_
          refine x_imul (pc := 68) d173_68 ?_
          refine x_aload_n (pc := 69) d173_69 rfl ?_
          refine y_getr (pc := 70) d173_70 fk9_61 shL280 rfl ?_
          refine x_iload (pc := 73) d173_73 rfl ?_
          refine z_iald (pc := 75) d173_75 shL296 (by decide) h (fun v9 h => ?_)
          refine x_iadd (pc := 76) d173_76 ?_
          refine x_bipush (pc := 77) (v := (16)) d173_77 (by decide) ?_
          refine x_isub (pc := 79) d173_79 ?_
          refine z_lald (pc := 80) d173_80 shL310 (by decide) h (fun v10 h => ?_)
          refine z_last (pc := 81) d173_81 shL331 (by decide) h (fun s11 h => ?_)
          refine y_inc (pc := 82) (c := (1)) d173_82 (by decide) (by decide) rfl ?_
          refine x_goto (pc := 85) (tgt := 247) d173_85 (by decide) ?_
          refine wp_lv (lv' := [(0, .ref 280), (1, .int x1), (3, .int (x3 + (1 : Int32))), (4, .int x4)]) ⟨rfl, rfl, rfl, rfl, trivial⟩ ?_
          exact t_r_work_247 (r_work_5 n) ih x1 (x3 + (1 : Int32)) x4 s11 h
      · skip
        refine x_aload_n (pc := 31) d173_31 rfl ?_
        refine y_getr (pc := 32) d173_32 fk9_167 shL280 rfl ?_
        refine x_iload_n (pc := 35) d173_35 rfl ?_
        refine x_aload_n (pc := 36) d173_36 rfl ?_
        refine y_getr (pc := 37) d173_37 fk9_64 shL280 rfl ?_
        refine x_iload (pc := 40) d173_40 rfl ?_
        refine z_lald (pc := 42) d173_42 shL297 (by decide) h (fun v12 h => ?_)
        refine z_last (pc := 43) d173_43 shL331 (by decide) h (fun s13 h => ?_)
        refine y_inc (pc := 44) (c := (1)) d173_44 (by decide) (by decide) rfl ?_
        refine x_goto (pc := 47) (tgt := 247) d173_47 (by decide) ?_
        refine wp_lv (lv' := [(0, .ref 280), (1, .int x1), (3, .int (x3 + (1 : Int32))), (4, .int x4)]) ⟨rfl, rfl, rfl, rfl, trivial⟩ ?_
        exact t_r_work_247 (r_work_5 n) ih x1 (x3 + (1 : Int32)) x4 s13 h
def r_work (a0 : Int32) (a1 : Int32) (s : St) : Option (Int64 × St) := r_work_5 300 a0 (0 : Int32) a1 s
set_option maxRecDepth 100000 in
theorem t_r_work (a0 : Int32) (a1 : Int32) (s : St) (r : Int64 × St) (h : r_work a0 a1 s = some r) : Rj 0 173 [.ref 280, .int a0, .int a1] s (fun v s1 => (v, s1) = r) := by
  refine ct_of (by decide +kernel) (Nat.le_of_ble_eq_true rfl) ?_
  show Wp _ _ _ _ _ _ [(0, .ref 280), (1, .int a0), (2, .int a1)] _ _ _
  unfold r_work at h
  refine x_iconst (pc := 0) (v := (0)) d173_0 (by decide) ?_
  refine x_istore_n (pc := 1) d173_1 (by decide) ?_
  refine x_iload_n (pc := 2) d173_2 rfl ?_
  refine x_istore (pc := 3) d173_3 (by decide) ?_
  refine wp_lv (lv' := [(0, .ref 280), (1, .int a0), (3, .int (0 : Int32)), (4, .int a1)]) ⟨rfl, rfl, rfl, rfl, trivial⟩ ?_
  exact t_r_work_5 300 a0 (0 : Int32) a1 s h
