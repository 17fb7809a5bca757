/-! the reference's TURNS and calls -/
def r_waitsToSend (a0 : Int32) (a1 : Int32) (s : St) : Option (Int32 × St) := grd (ib a1 480) (s.1 223 0 a1.toNatClampNeg) fun v1 => grd (ib v1 7) (s.1 240 0 v1.toNatClampNeg) fun v2 => if v2 = (1 : Int32) then (grd (ib a0 7) (s.1 261 0 a0.toNatClampNeg) fun v3 => if v3 = 0 then (bnd (s.1 260 0 0) fun v7 => bnd (si s 260 0 0 (v7 + (1 : Int32))) fun s8 => bnd (s8.1 260 0 0) fun v9 => grd (ib a0 7) (si s8 261 0 a0.toNatClampNeg v9) fun s10 => grd (ib a0 7) (si s10 262 0 a0.toNatClampNeg v1) fun s11 => grd (ib a1 480) (s11.1 218 0 a1.toNatClampNeg) fun v12 => cal2 (r_work a0 v12 s11) fun v14 s13 => bnd (s13.1 260 0 0) fun v15 => cal (r_toRow v1 a0 v14 (-1 : Int32) v15 s13) fun s16 => some ((1 : Int32), s16)) else (grd (ib a0 7) (s.1 261 0 a0.toNatClampNeg) fun v4 => cal2 (r_stands v1 v4 s) fun v6 s5 => grd (zo v6) (v6, s5) some)) else (some ((0 : Int32), s))
set_option maxRecDepth 100000 in
theorem t_r_waitsToSend (a0 : Int32) (a1 : Int32) (s : St) (r : Int32 × St) (h : r_waitsToSend a0 a1 s = some r) : Ri 1 175 [.ref 280, .int a0, .int a1] s (fun v s1 => (v, s1) = r) := by
  refine ct_of (by decide +kernel) (Nat.le_of_ble_eq_true rfl) ?_
  show Wp _ _ _ _ _ _ [(0, .ref 280), (1, .int a0), (2, .int a1)] _ _ _
  unfold r_waitsToSend at h
  refine x_aload_n (pc := 0) d175_0 rfl ?_
  refine y_getr (pc := 1) d175_1 fk9_55 shL280 rfl ?_
  refine x_iload_n (pc := 4) d175_4 rfl ?_
  refine z_iald (pc := 5) d175_5 shL294 (by decide) h (fun v1 h => ?_)
  refine x_istore_n (pc := 6) d175_6 (by decide) ?_
  refine x_aload_n (pc := 7) d175_7 rfl ?_
  refine y_getr (pc := 8) d175_8 fk9_89 shL280 rfl ?_
  refine x_iload_n (pc := 11) d175_11 rfl ?_
  refine z_iald (pc := 12) d175_12 shL305 (by decide) h (fun v2 h => ?_)
  refine x_iconst (pc := 13) (v := (1)) d175_13 (by decide) ?_
  refine z_icmp_eq (pc := 14) (tgt := 19) d175_14 (by decide) h (fun h => ?_) (fun h => ?_)
  · skip
    refine x_aload_n (pc := 19) d175_19 rfl ?_
    refine y_getr (pc := 20) d175_20 fk9_149 shL280 rfl ?_
    refine x_iload_n (pc := 23) d175_23 rfl ?_
    refine z_iald (pc := 24) d175_24 shL325 (by decide) h (fun v3 h => ?_)
    refine z_if_ne (pc := 25) (tgt := 79) d175_25 (by decide) h (fun h => ?_) (fun h => ?_)
    · skip
      refine x_aload_n (pc := 79) d175_79 rfl ?_
      refine x_iload_n (pc := 80) d175_80 rfl ?_
      refine x_aload_n (pc := 81) d175_81 rfl ?_
      refine y_getr (pc := 82) d175_82 fk9_149 shL280 rfl ?_
      refine x_iload_n (pc := 85) d175_85 rfl ?_
      refine z_iald (pc := 86) d175_86 shL325 (by decide) h (fun v4 h => ?_)
      refine z_cV2i (pc := 87) d175_87 ml9_410 mv176 shL280 (t_r_stands v1 v4 s) (by decide) (Nat.le_of_ble_eq_true rfl) ⟨Nat.zero_le _, Nat.zero_le _⟩ h (fun v6 s5 h => ?_)
      exact z_zret (pc := 90) d175_90 rfl h
    · skip
      refine x_aload_n (pc := 28) d175_28 rfl ?_
      refine x_dup (pc := 29) d175_29 rfl ?_
      refine z_geti (pc := 30) d175_30 fk9_407 shL280 rfl h (fun v7 h => ?_)
      refine x_iconst (pc := 33) (v := (1)) d175_33 (by decide) ?_
      refine x_iadd (pc := 34) d175_34 ?_
      refine z_puti (pc := 35) d175_35 fk9_407 shL280 rfl rfl ⟨rfl, rfl⟩ h (fun s8 h => ?_)
      refine x_aload_n (pc := 38) d175_38 rfl ?_
      refine y_getr (pc := 39) d175_39 fk9_149 shL280 rfl ?_
      refine x_iload_n (pc := 42) d175_42 rfl ?_
      refine x_aload_n (pc := 43) d175_43 rfl ?_
      refine z_geti (pc := 44) d175_44 fk9_407 shL280 rfl h (fun v9 h => ?_)
      refine z_iast (pc := 47) d175_47 shL325 (by decide) h (fun s10 h => ?_)
      refine x_aload_n (pc := 48) d175_48 rfl ?_
      refine y_getr (pc := 49) d175_49 fk9_152 shL280 rfl ?_
      refine x_iload_n (pc := 52) d175_52 rfl ?_
      refine x_iload_n (pc := 53) d175_53 rfl ?_
      refine z_iast (pc := 54) d175_54 shL326 (by decide) h (fun s11 h => ?_)
      refine x_aload_n (pc := 55) d175_55 rfl ?_
      refine x_iload_n (pc := 56) d175_56 rfl ?_
      refine x_iload_n (pc := 57) d175_57 rfl ?_
      refine x_aload_n (pc := 58) d175_58 rfl ?_
      refine x_iload_n (pc := 59) d175_59 rfl ?_
      refine x_aload_n (pc := 60) d175_60 rfl ?_
      refine y_getr (pc := 61) d175_61 fk9_39 shL280 rfl ?_
      refine x_iload_n (pc := 64) d175_64 rfl ?_
      refine z_iald (pc := 65) d175_65 shL289 (by decide) h (fun v12 h => ?_)
      refine z_cV2j (pc := 66) d175_66 ml9_396 mv173 shL280 (t_r_work a0 v12 s11) (by decide) (Nat.le_of_ble_eq_true rfl) ⟨Nat.zero_le _, Nat.zero_le _⟩ h (fun v14 s13 h => ?_)
      refine x_iconst (pc := 69) (v := (-1)) d175_69 (by decide) ?_
      refine x_aload_n (pc := 70) d175_70 rfl ?_
      refine z_geti (pc := 71) d175_71 fk9_407 shL280 rfl h (fun v15 h => ?_)
      refine z_cV5v (pc := 74) d175_74 ml9_386 mv161 shL280 (t_r_toRow v1 a0 v14 (-1 : Int32) v15 s13) (by decide) (Nat.le_of_ble_eq_true rfl) ⟨Nat.zero_le _, Nat.zero_le _⟩ h (fun s16 h => ?_)
      refine x_iconst (pc := 77) (v := (1)) d175_77 (by decide) ?_
      exact z_zretc (pc := 78) d175_78 rfl (Or.inr rfl) h
  · skip
    refine x_iconst (pc := 17) (v := (0)) d175_17 (by decide) ?_
    exact z_zretc (pc := 18) d175_18 rfl (Or.inl rfl) h
def r_turnOf_656 (x1 : Int32) (x2 : Int32) (s : St) : Option (Int32 × St) := grd (ib x2 480) (s.1 217 0 x2.toNatClampNeg) fun v12 => grd (ib x1 7) (si s 241 0 x1.toNatClampNeg v12) fun s13 => some ((0 : Int32), s13)
set_option maxRecDepth 100000 in
theorem t_r_turnOf_656 {r : Int32 × St} : ∀ (x1 : Int32) (x2 : Int32) (s : St), r_turnOf_656 x1 x2 s = some r → Wp (rmd 5 0 0) 162 (zi (fun v s1 => (v, s1) = r)) 0 0 656 [(0, .ref 280), (1, .int x1), (2, .int x2)] [] (mk s) TT := by
  intro x1 x2 s h
  unfold r_turnOf_656 at h
  refine x_aload_n (pc := 656) d162_656 rfl ?_
  refine y_getr (pc := 657) d162_657 fk9_92 shL280 rfl ?_
  refine x_iload_n (pc := 660) d162_660 rfl ?_
  refine x_aload_n (pc := 661) d162_661 rfl ?_
  refine y_getr (pc := 662) d162_662 fk9_36 shL280 rfl ?_
  refine x_iload_n (pc := 665) d162_665 rfl ?_
  refine z_iald (pc := 666) d162_666 shL288 (by decide) h (fun v12 h => ?_)
  refine z_iast (pc := 667) d162_667 shL306 (by decide) h (fun s13 h => ?_)
  refine x_iconst (pc := 668) (v := (0)) d162_668 (by decide) ?_
  exact z_iret (pc := 669) d162_669 rfl h
def r_turnOf_342 (x1 : Int32) (x2 : Int32) (x3 : Int32) (y0 : Int32) (s : St) : Option (Int32 × St) := grd (ib (((3 : Int32) * x2) + y0) 1440) (s.1 220 0 (((3 : Int32) * x2) + y0).toNatClampNeg) fun v17 => if v17 = 0 then (r_turnOf_656 x1 x2 s) else (cal (r_goIn x1 x2 y0 x3 s) fun s18 => some ((0 : Int32), s18))
set_option maxRecDepth 100000 in
theorem t_r_turnOf_342 {r : Int32 × St} : ∀ (x1 : Int32) (x2 : Int32) (x3 : Int32) (y0 : Int32) (s : St), r_turnOf_342 x1 x2 x3 y0 s = some r → Wp (rmd 5 0 0) 162 (zi (fun v s1 => (v, s1) = r)) 0 0 342 [(0, .ref 280), (1, .int x1), (2, .int x2), (3, .int x3)] [.int y0] (mk s) TT := by
  intro x1 x2 x3 y0 s h
  unfold r_turnOf_342 at h
  refine x_istore (pc := 342) d162_342 (by decide) ?_
  refine x_aload_n (pc := 344) d162_344 rfl ?_
  refine y_getr (pc := 345) d162_345 fk9_45 shL280 rfl ?_
  refine x_iconst (pc := 348) (v := (3)) d162_348 (by decide) ?_
  refine x_iload_n (pc := 349) d162_349 rfl ?_
  refine x_imul (pc := 350) d162_350 ?_
  refine x_iload (pc := 351) d162_351 rfl ?_
  refine x_iadd (pc := 353) d162_353 ?_
  refine z_zald (pc := 354) d162_354 shL291 (by decide) h (fun v17 h => ?_)
  refine z_if_eq (pc := 355) (tgt := 656) d162_355 (by decide) h (fun h => ?_) (fun h => ?_)
  · skip
    refine wp_lv (lv' := [(0, .ref 280), (1, .int x1), (2, .int x2)]) ⟨rfl, rfl, rfl, trivial⟩ ?_
    exact t_r_turnOf_656 x1 x2 s h
  · skip
    refine x_aload_n (pc := 358) d162_358 rfl ?_
    refine x_iload_n (pc := 359) d162_359 rfl ?_
    refine x_iload_n (pc := 360) d162_360 rfl ?_
    refine x_iload (pc := 361) d162_361 rfl ?_
    refine x_iload_n (pc := 363) d162_363 rfl ?_
    refine z_cV4v (pc := 364) d162_364 ml9_367 mv167 shL280 (t_r_goIn x1 x2 y0 x3 s) (by decide) (Nat.le_of_ble_eq_true rfl) ⟨Nat.zero_le _, Nat.zero_le _⟩ h (fun s18 h => ?_)
    refine x_iconst (pc := 367) (v := (0)) d162_367 (by decide) ?_
    exact z_iret (pc := 368) d162_368 rfl h
def r_turnOf_646 (x1 : Int32) (x2 : Int32) (x3 : Int32) (s : St) : Option (Int32 × St) := cal (r_goIn x1 x2 (0 : Int32) x3 s) fun s83 => some ((0 : Int32), s83)
set_option maxRecDepth 100000 in
theorem t_r_turnOf_646 {r : Int32 × St} : ∀ (x1 : Int32) (x2 : Int32) (x3 : Int32) (s : St), r_turnOf_646 x1 x2 x3 s = some r → Wp (rmd 5 0 0) 162 (zi (fun v s1 => (v, s1) = r)) 0 0 646 [(0, .ref 280), (1, .int x1), (2, .int x2), (3, .int x3)] [] (mk s) TT := by
  intro x1 x2 x3 s h
  unfold r_turnOf_646 at h
  refine x_aload_n (pc := 646) d162_646 rfl ?_
  refine x_iload_n (pc := 647) d162_647 rfl ?_
  refine x_iload_n (pc := 648) d162_648 rfl ?_
  refine x_iconst (pc := 649) (v := (0)) d162_649 (by decide) ?_
  refine x_iload_n (pc := 650) d162_650 rfl ?_
  refine z_cV4v (pc := 651) d162_651 ml9_367 mv167 shL280 (t_r_goIn x1 x2 (0 : Int32) x3 s) (by decide) (Nat.le_of_ble_eq_true rfl) ⟨Nat.zero_le _, Nat.zero_le _⟩ h (fun s83 h => ?_)
  refine x_iconst (pc := 654) (v := (0)) d162_654 (by decide) ?_
  exact z_iret (pc := 655) d162_655 rfl h
def r_turnOf_81 (x1 : Int32) (s : St) : Option (Int32 × St) := grd (ib x1 7) (s.1 241 0 x1.toNatClampNeg) fun v4 => if 0 ≤ v4 then (grd (ib x1 7) (s.1 242 0 x1.toNatClampNeg) fun v5 => grd (ib v4 480) (s.1 216 0 v4.toNatClampNeg) fun v6 => if v6 = 0 then (grd (ib v4 480) (s.1 218 0 v4.toNatClampNeg) fun v7 => cal2 (r_work x1 v7 s) fun v9 s8 => cal (r_note0 (0 : Int32) x1 v9 s8) fun s10 => r_turnOf_656 x1 v4 s10) else if v6 = 1 then (grd (ib v4 480) (s.1 218 0 v4.toNatClampNeg) fun v14 => cal2 (r_work x1 v14 s) fun v16 s15 => if v16 = (0 : Int64) then (r_turnOf_342 x1 v4 v5 (1 : Int32) s15) else (r_turnOf_342 x1 v4 v5 (0 : Int32) s15)) else if v6 = 3 then (grd (ib v4 480) (s.1 218 0 v4.toNatClampNeg) fun v20 => cal2 (r_work x1 v20 s) fun v22 s21 => if v22 = (0 : Int64) then (r_turnOf_656 x1 v4 s21) else (cal (r_goIn x1 v4 (0 : Int32) v5 s21) fun s23 => some ((0 : Int32), s23))) else if v6 = 4 then (grd (ib v4 480) (s.1 222 0 v4.toNatClampNeg) fun v25 => grd (ib v25 8) (s.1 238 0 v25.toNatClampNeg) fun v26 => if v26 = 0 then (cal2 (r_waits x1 s) fun v34 s33 => some (v34, s33)) else (grd (ib v4 480) (s.1 221 0 v4.toNatClampNeg) fun v27 => grd (ib v4 480) (s.1 222 0 v4.toNatClampNeg) fun v28 => grd (ib v28 8) (s.2 239 0 v28.toNatClampNeg) fun v29 => grd (ib ((((10 : Int32) * x1) + v27) - (16 : Int32)) 70) (sl s 245 0 ((((10 : Int32) * x1) + v27) - (16 : Int32)).toNatClampNeg v29) fun s30 => grd (ib v4 480) (s30.1 222 0 v4.toNatClampNeg) fun v31 => grd (ib v31 8 ∧ zo (0 : Int32)) (si s30 238 0 v31.toNatClampNeg (0 : Int32)) fun s32 => r_turnOf_656 x1 v4 s32)) else if v6 = 6 then (grd (ib v4 480) (s.1 222 0 v4.toNatClampNeg) fun v35 => grd (ib v35 8) (s.1 238 0 v35.toNatClampNeg) fun v36 => if v36 = 0 then (grd (ib v4 480) (s.1 222 0 v4.toNatClampNeg) fun v37 => grd (ib v4 480) (s.1 218 0 v4.toNatClampNeg) fun v38 => cal2 (r_work x1 v38 s) fun v40 s39 => grd (ib v37 8) (sl s39 239 0 v37.toNatClampNeg v40) fun s41 => grd (ib v4 480) (s41.1 222 0 v4.toNatClampNeg) fun v42 => grd (ib v42 8 ∧ zo (1 : Int32)) (si s41 238 0 v42.toNatClampNeg (1 : Int32)) fun s43 => r_turnOf_656 x1 v4 s43) else (cal2 (r_waits x1 s) fun v45 s44 => some (v45, s44))) else if v6 = 8 then (grd (ib v4 480) (s.1 218 0 v4.toNatClampNeg) fun v46 => cal2 (r_work x1 v46 s) fun v48 s47 => cal2 (r_throwOut x1 (0 : Int32) v48 (-1 : Int32) s47) fun v50 s49 => cal2 (r_thrown v50 s49) fun v52 s51 => some (v52, s51)) else if v6 = 9 then (grd (ib v4 480) (s.1 223 0 v4.toNatClampNeg) fun v53 => if v53 = x1 then (grd (ib v4 480) (s.1 218 0 v4.toNatClampNeg) fun v59 => cal2 (r_work x1 v59 s) fun v61 s60 => cal2 (r_throwOut x1 (0 : Int32) v61 (-1 : Int32) s60) fun v63 s62 => cal2 (r_thrown v63 s62) fun v65 s64 => some (v65, s64)) else (cal2 (r_waitsToSend x1 v4 s) fun v55 s54 => if v55 = 0 then (grd (ib x1 7) (si s54 261 0 x1.toNatClampNeg (0 : Int32)) fun s56 => r_turnOf_656 x1 v4 s56) else (cal2 (r_waits x1 s54) fun v58 s57 => some (v58, s57)))) else if v6 = 10 then (cal2 (r_atLeast v5 (1 : Int32) s) fun v67 s66 => cal (r_goIn x1 v4 (0 : Int32) v67 s66) fun s68 => some ((0 : Int32), s68)) else if v6 = 11 then (cal (r_goIn x1 v4 (0 : Int32) (2 : Int32) s) fun s70 => some ((0 : Int32), s70)) else if v6 = 12 then (cal (r_goIn x1 v4 (0 : Int32) (0 : Int32) s) fun s72 => some ((0 : Int32), s72)) else if v6 = 15 then (cal2 (r_atLeast v5 (1 : Int32) s) fun v75 s74 => cal (r_goIn x1 v4 (0 : Int32) v75 s74) fun s76 => some ((0 : Int32), s76)) else if v6 = 30 then (grd (ib v4 480) (s.1 221 0 v4.toNatClampNeg) fun v78 => grd (ib v4 480) (s.1 218 0 v4.toNatClampNeg) fun v79 => cal2 (r_work x1 v79 s) fun v81 s80 => grd (ib ((((10 : Int32) * x1) + v78) - (16 : Int32)) 70) (sl s80 245 0 ((((10 : Int32) * x1) + v78) - (16 : Int32)).toNatClampNeg v81) fun s82 => r_turnOf_656 x1 v4 s82) else (r_turnOf_646 x1 v4 v5 s)) else (grd (ib x1 7) (si s 240 0 x1.toNatClampNeg (2 : Int32)) fun s85 => grd (ib x1 7) (si s85 255 0 x1.toNatClampNeg (0 : Int32)) fun s86 => cal (r_note0 (4 : Int32) x1 (0 : Int64) s86) fun s87 => some ((2 : Int32), s87))
set_option maxRecDepth 100000 in
theorem t_r_turnOf_81 {r : Int32 × St} : ∀ (x1 : Int32) (s : St), r_turnOf_81 x1 s = some r → Wp (rmd 5 0 0) 162 (zi (fun v s1 => (v, s1) = r)) 0 0 81 [(0, .ref 280), (1, .int x1)] [] (mk s) TT := by
  intro x1 s h
  unfold r_turnOf_81 at h
  refine x_aload_n (pc := 81) d162_81 rfl ?_
  refine y_getr (pc := 82) d162_82 fk9_92 shL280 rfl ?_
  refine x_iload_n (pc := 85) d162_85 rfl ?_
  refine z_iald (pc := 86) d162_86 shL306 (by decide) h (fun v4 h => ?_)
  refine x_istore_n (pc := 87) d162_87 (by decide) ?_
  refine x_iload_n (pc := 88) d162_88 rfl ?_
  refine z_if_ge (pc := 89) (tgt := 115) d162_89 (by decide) h (fun h => ?_) (fun h => ?_)
  · skip
    refine x_aload_n (pc := 115) d162_115 rfl ?_
    refine y_getr (pc := 116) d162_116 fk9_95 shL280 rfl ?_
    refine x_iload_n (pc := 119) d162_119 rfl ?_
    refine z_iald (pc := 120) d162_120 shL307 (by decide) h (fun v5 h => ?_)
    refine x_istore_n (pc := 121) d162_121 (by decide) ?_
    refine x_aload_n (pc := 122) d162_122 rfl ?_
    refine y_getr (pc := 123) d162_123 fk9_33 shL280 rfl ?_
    refine x_iload_n (pc := 126) d162_126 rfl ?_
    refine z_iald (pc := 127) d162_127 shL287 (by decide) h (fun v6 h => ?_)
    by_cases hk0 : v6 = 0
    · replace h := ip hk0 h
      refine x_tableIn (pc := 128) (tgt := 301) (off := 173) d162_128 (by rw [hk0]; decide) (by rw [hk0]; decide) (by rw [hk0]; decide) (by decide) ?_
      refine x_aload_n (pc := 301) d162_301 rfl ?_
      refine x_iconst (pc := 302) (v := (0)) d162_302 (by decide) ?_
      refine x_iload_n (pc := 303) d162_303 rfl ?_
      refine x_aload_n (pc := 304) d162_304 rfl ?_
      refine x_iload_n (pc := 305) d162_305 rfl ?_
      refine x_aload_n (pc := 306) d162_306 rfl ?_
      refine y_getr (pc := 307) d162_307 fk9_39 shL280 rfl ?_
      refine x_iload_n (pc := 310) d162_310 rfl ?_
      refine z_iald (pc := 311) d162_311 shL289 (by decide) h (fun v7 h => ?_)
      refine z_cV2j (pc := 312) d162_312 ml9_396 mv173 shL280 (t_r_work x1 v7 s) (by decide) (Nat.le_of_ble_eq_true rfl) ⟨Nat.zero_le _, Nat.zero_le _⟩ h (fun v9 s8 h => ?_)
      refine z_cV3v (pc := 315) d162_315 ml9_364 mv166 shL280 (t_r_note0 (0 : Int32) x1 v9 s8) (by decide) (Nat.le_of_ble_eq_true rfl) ⟨Nat.zero_le _, Nat.zero_le _⟩ h (fun s10 h => ?_)
      refine x_goto (pc := 318) (tgt := 656) d162_318 (by decide) ?_
      refine wp_lv (lv' := [(0, .ref 280), (1, .int x1), (2, .int v4)]) ⟨rfl, rfl, rfl, trivial⟩ ?_
      exact t_r_turnOf_656 x1 v4 s10 h
    replace h := im hk0 h
    by_cases hk1 : v6 = 1
    · replace h := ip hk1 h
      refine x_tableIn (pc := 128) (tgt := 321) (off := 193) d162_128 (by rw [hk1]; decide) (by rw [hk1]; decide) (by rw [hk1]; decide) (by decide) ?_
      refine x_aload_n (pc := 321) d162_321 rfl ?_
      refine x_iload_n (pc := 322) d162_322 rfl ?_
      refine x_aload_n (pc := 323) d162_323 rfl ?_
      refine y_getr (pc := 324) d162_324 fk9_39 shL280 rfl ?_
      refine x_iload_n (pc := 327) d162_327 rfl ?_
      refine z_iald (pc := 328) d162_328 shL289 (by decide) h (fun v14 h => ?_)
      refine z_cV2j (pc := 329) d162_329 ml9_396 mv173 shL280 (t_r_work x1 v14 s) (by decide) (Nat.le_of_ble_eq_true rfl) ⟨Nat.zero_le _, Nat.zero_le _⟩ h (fun v16 s15 h => ?_)
      refine x_lconst (pc := 332) (v := (0)) d162_332 (by decide) ?_
      refine z_lif_eq (pc := 333) (tgt := 341) d162_333 d162_334 (by decide) h (fun h => ?_) (fun h => ?_)
      · skip
        refine x_iconst (pc := 341) (v := (1)) d162_341 (by decide) ?_
        refine wp_lv (lv' := [(0, .ref 280), (1, .int x1), (2, .int v4), (3, .int v5)]) ⟨rfl, rfl, rfl, rfl, trivial⟩ ?_
        exact t_r_turnOf_342 x1 v4 v5 (1 : Int32) s15 h
      · skip
        refine x_iconst (pc := 337) (v := (0)) d162_337 (by decide) ?_
        refine x_goto (pc := 338) (tgt := 342) d162_338 (by decide) ?_
        refine wp_lv (lv' := [(0, .ref 280), (1, .int x1), (2, .int v4), (3, .int v5)]) ⟨rfl, rfl, rfl, rfl, trivial⟩ ?_
        exact t_r_turnOf_342 x1 v4 v5 (0 : Int32) s15 h
    replace h := im hk1 h
    by_cases hk3 : v6 = 3
    · replace h := ip hk3 h
      refine x_tableIn (pc := 128) (tgt := 369) (off := 241) d162_128 (by rw [hk3]; decide) (by rw [hk3]; decide) (by rw [hk3]; decide) (by decide) ?_
      refine x_aload_n (pc := 369) d162_369 rfl ?_
      refine x_iload_n (pc := 370) d162_370 rfl ?_
      refine x_aload_n (pc := 371) d162_371 rfl ?_
      refine y_getr (pc := 372) d162_372 fk9_39 shL280 rfl ?_
      refine x_iload_n (pc := 375) d162_375 rfl ?_
      refine z_iald (pc := 376) d162_376 shL289 (by decide) h (fun v20 h => ?_)
      refine z_cV2j (pc := 377) d162_377 ml9_396 mv173 shL280 (t_r_work x1 v20 s) (by decide) (Nat.le_of_ble_eq_true rfl) ⟨Nat.zero_le _, Nat.zero_le _⟩ h (fun v22 s21 h => ?_)
      refine x_lconst (pc := 380) (v := (0)) d162_380 (by decide) ?_
      refine z_lif_eq (pc := 381) (tgt := 656) d162_381 d162_382 (by decide) h (fun h => ?_) (fun h => ?_)
      · skip
        refine wp_lv (lv' := [(0, .ref 280), (1, .int x1), (2, .int v4)]) ⟨rfl, rfl, rfl, trivial⟩ ?_
        exact t_r_turnOf_656 x1 v4 s21 h
      · skip
        refine x_aload_n (pc := 385) d162_385 rfl ?_
        refine x_iload_n (pc := 386) d162_386 rfl ?_
        refine x_iload_n (pc := 387) d162_387 rfl ?_
        refine x_iconst (pc := 388) (v := (0)) d162_388 (by decide) ?_
        refine x_iload_n (pc := 389) d162_389 rfl ?_
        refine z_cV4v (pc := 390) d162_390 ml9_367 mv167 shL280 (t_r_goIn x1 v4 (0 : Int32) v5 s21) (by decide) (Nat.le_of_ble_eq_true rfl) ⟨Nat.zero_le _, Nat.zero_le _⟩ h (fun s23 h => ?_)
        refine x_iconst (pc := 393) (v := (0)) d162_393 (by decide) ?_
        exact z_iret (pc := 394) d162_394 rfl h
    replace h := im hk3 h
    by_cases hk4 : v6 = 4
    · replace h := ip hk4 h
      refine x_tableIn (pc := 128) (tgt := 395) (off := 267) d162_128 (by rw [hk4]; decide) (by rw [hk4]; decide) (by rw [hk4]; decide) (by decide) ?_
      refine x_aload_n (pc := 395) d162_395 rfl ?_
      refine y_getr (pc := 396) d162_396 fk9_83 shL280 rfl ?_
      refine x_aload_n (pc := 399) d162_399 rfl ?_
      refine y_getr (pc := 400) d162_400 fk9_52 shL280 rfl ?_
      refine x_iload_n (pc := 403) d162_403 rfl ?_
      refine z_iald (pc := 404) d162_404 shL293 (by decide) h (fun v25 h => ?_)
      refine z_zald (pc := 405) d162_405 shL303 (by decide) h (fun v26 h => ?_)
      refine z_if_ne (pc := 406) (tgt := 415) d162_406 (by decide) h (fun h => ?_) (fun h => ?_)
      · skip
        refine x_aload_n (pc := 415) d162_415 rfl ?_
        refine y_getr (pc := 416) d162_416 fk9_104 shL280 rfl ?_
        refine x_bipush (pc := 419) (v := (10)) d162_419 (by decide) ?_
        refine x_iload_n (pc := 421) d162_421 rfl ?_
        refine x_imul (pc := 422) d162_422 ?_
        refine x_aload_n (pc := 423) d162_423 rfl ?_
        refine y_getr (pc := 424) d162_424 fk9_49 shL280 rfl ?_
        refine x_iload_n (pc := 427) d162_427 rfl ?_
        refine z_iald (pc := 428) d162_428 shL292 (by decide) h (fun v27 h => ?_)
        refine x_iadd (pc := 429) d162_429 ?_
        refine x_bipush (pc := 430) (v := (16)) d162_430 (by decide) ?_
        refine x_isub (pc := 432) d162_432 ?_
        refine x_aload_n (pc := 433) d162_433 rfl ?_
        refine y_getr (pc := 434) d162_434 fk9_86 shL280 rfl ?_
        refine x_aload_n (pc := 437) d162_437 rfl ?_
        refine y_getr (pc := 438) d162_438 fk9_52 shL280 rfl ?_
        refine x_iload_n (pc := 441) d162_441 rfl ?_
        refine z_iald (pc := 442) d162_442 shL293 (by decide) h (fun v28 h => ?_)
        refine z_lald (pc := 443) d162_443 shL304 (by decide) h (fun v29 h => ?_)
        refine z_last (pc := 444) d162_444 shL310 (by decide) h (fun s30 h => ?_)
        refine x_aload_n (pc := 445) d162_445 rfl ?_
        refine y_getr (pc := 446) d162_446 fk9_83 shL280 rfl ?_
        refine x_aload_n (pc := 449) d162_449 rfl ?_
        refine y_getr (pc := 450) d162_450 fk9_52 shL280 rfl ?_
        refine x_iload_n (pc := 453) d162_453 rfl ?_
        refine z_iald (pc := 454) d162_454 shL293 (by decide) h (fun v31 h => ?_)
        refine x_iconst (pc := 455) (v := (0)) d162_455 (by decide) ?_
        refine z_zast (pc := 456) d162_456 shL303 (by decide) h (fun s32 h => ?_)
        refine x_goto (pc := 457) (tgt := 656) d162_457 (by decide) ?_
        refine wp_lv (lv' := [(0, .ref 280), (1, .int x1), (2, .int v4)]) ⟨rfl, rfl, rfl, trivial⟩ ?_
        exact t_r_turnOf_656 x1 v4 s32 h
      · skip
        refine x_aload_n (pc := 409) d162_409 rfl ?_
        refine x_iload_n (pc := 410) d162_410 rfl ?_
        refine z_cV1i (pc := 411) d162_411 ml9_400 mv174 shL280 (t_r_waits x1 s) (by decide) (Nat.le_of_ble_eq_true rfl) ⟨Nat.zero_le _, Nat.zero_le _⟩ h (fun v34 s33 h => ?_)
        exact z_iret (pc := 414) d162_414 rfl h
    replace h := im hk4 h
    by_cases hk6 : v6 = 6
    · replace h := ip hk6 h
      refine x_tableIn (pc := 128) (tgt := 460) (off := 332) d162_128 (by rw [hk6]; decide) (by rw [hk6]; decide) (by rw [hk6]; decide) (by decide) ?_
      refine x_aload_n (pc := 460) d162_460 rfl ?_
      refine y_getr (pc := 461) d162_461 fk9_83 shL280 rfl ?_
      refine x_aload_n (pc := 464) d162_464 rfl ?_
      refine y_getr (pc := 465) d162_465 fk9_52 shL280 rfl ?_
      refine x_iload_n (pc := 468) d162_468 rfl ?_
      refine z_iald (pc := 469) d162_469 shL293 (by decide) h (fun v35 h => ?_)
      refine z_zald (pc := 470) d162_470 shL303 (by decide) h (fun v36 h => ?_)
      refine z_if_eq (pc := 471) (tgt := 480) d162_471 (by decide) h (fun h => ?_) (fun h => ?_)
      · skip
        refine x_aload_n (pc := 480) d162_480 rfl ?_
        refine y_getr (pc := 481) d162_481 fk9_86 shL280 rfl ?_
        refine x_aload_n (pc := 484) d162_484 rfl ?_
        refine y_getr (pc := 485) d162_485 fk9_52 shL280 rfl ?_
        refine x_iload_n (pc := 488) d162_488 rfl ?_
        refine z_iald (pc := 489) d162_489 shL293 (by decide) h (fun v37 h => ?_)
        refine x_aload_n (pc := 490) d162_490 rfl ?_
        refine x_iload_n (pc := 491) d162_491 rfl ?_
        refine x_aload_n (pc := 492) d162_492 rfl ?_
        refine y_getr (pc := 493) d162_493 fk9_39 shL280 rfl ?_
        refine x_iload_n (pc := 496) d162_496 rfl ?_
        refine z_iald (pc := 497) d162_497 shL289 (by decide) h (fun v38 h => ?_)
        refine z_cV2j (pc := 498) d162_498 ml9_396 mv173 shL280 (t_r_work x1 v38 s) (by decide) (Nat.le_of_ble_eq_true rfl) ⟨Nat.zero_le _, Nat.zero_le _⟩ h (fun v40 s39 h => ?_)
        refine z_last (pc := 501) d162_501 shL304 (by decide) h (fun s41 h => ?_)
        refine x_aload_n (pc := 502) d162_502 rfl ?_
        refine y_getr (pc := 503) d162_503 fk9_83 shL280 rfl ?_
        refine x_aload_n (pc := 506) d162_506 rfl ?_
        refine y_getr (pc := 507) d162_507 fk9_52 shL280 rfl ?_
        refine x_iload_n (pc := 510) d162_510 rfl ?_
        refine z_iald (pc := 511) d162_511 shL293 (by decide) h (fun v42 h => ?_)
        refine x_iconst (pc := 512) (v := (1)) d162_512 (by decide) ?_
        refine z_zast (pc := 513) d162_513 shL303 (by decide) h (fun s43 h => ?_)
        refine x_goto (pc := 514) (tgt := 656) d162_514 (by decide) ?_
        refine wp_lv (lv' := [(0, .ref 280), (1, .int x1), (2, .int v4)]) ⟨rfl, rfl, rfl, trivial⟩ ?_
        exact t_r_turnOf_656 x1 v4 s43 h
      · skip
        refine x_aload_n (pc := 474) d162_474 rfl ?_
        refine x_iload_n (pc := 475) d162_475 rfl ?_
        refine z_cV1i (pc := 476) d162_476 ml9_400 mv174 shL280 (t_r_waits x1 s) (by decide) (Nat.le_of_ble_eq_true rfl) ⟨Nat.zero_le _, Nat.zero_le _⟩ h (fun v45 s44 h => ?_)
        exact z_iret (pc := 479) d162_479 rfl h
    replace h := im hk6 h
    by_cases hk8 : v6 = 8
    · replace h := ip hk8 h
      refine x_tableIn (pc := 128) (tgt := 517) (off := 389) d162_128 (by rw [hk8]; decide) (by rw [hk8]; decide) (by rw [hk8]; decide) (by decide) ?_
      refine x_aload_n (pc := 517) d162_517 rfl ?_
      refine x_aload_n (pc := 518) d162_518 rfl ?_
      refine x_iload_n (pc := 519) d162_519 rfl ?_
      refine x_iconst (pc := 520) (v := (0)) d162_520 (by decide) ?_
      refine x_aload_n (pc := 521) d162_521 rfl ?_
      refine x_iload_n (pc := 522) d162_522 rfl ?_
      refine x_aload_n (pc := 523) d162_523 rfl ?_
      refine y_getr (pc := 524) d162_524 fk9_39 shL280 rfl ?_
      refine x_iload_n (pc := 527) d162_527 rfl ?_
      refine z_iald (pc := 528) d162_528 shL289 (by decide) h (fun v46 h => ?_)
      refine z_cV2j (pc := 529) d162_529 ml9_396 mv173 shL280 (t_r_work x1 v46 s) (by decide) (Nat.le_of_ble_eq_true rfl) ⟨Nat.zero_le _, Nat.zero_le _⟩ h (fun v48 s47 h => ?_)
      refine x_iconst (pc := 532) (v := (-1)) d162_532 (by decide) ?_
      refine z_cV4i (pc := 533) d162_533 ml9_378 mv169 shL280 (t_r_throwOut x1 (0 : Int32) v48 (-1 : Int32) s47) (by decide) (Nat.le_of_ble_eq_true rfl) ⟨Nat.zero_le _, Nat.zero_le _⟩ h (fun v50 s49 h => ?_)
      refine z_cV1i (pc := 536) d162_536 ml9_382 mv171 shL280 (t_r_thrown v50 s49) (by decide) (Nat.le_of_ble_eq_true rfl) ⟨Nat.zero_le _, Nat.zero_le _⟩ h (fun v52 s51 h => ?_)
      exact z_iret (pc := 539) d162_539 rfl h
    replace h := im hk8 h
    by_cases hk9 : v6 = 9
    · replace h := ip hk9 h
      refine x_tableIn (pc := 128) (tgt := 540) (off := 412) d162_128 (by rw [hk9]; decide) (by rw [hk9]; decide) (by rw [hk9]; decide) (by decide) ?_
      refine x_aload_n (pc := 540) d162_540 rfl ?_
      refine y_getr (pc := 541) d162_541 fk9_55 shL280 rfl ?_
      refine x_iload_n (pc := 544) d162_544 rfl ?_
      refine z_iald (pc := 545) d162_545 shL294 (by decide) h (fun v53 h => ?_)
      refine x_iload_n (pc := 546) d162_546 rfl ?_
      refine z_icmp_ne (pc := 547) (tgt := 573) d162_547 (by decide) h (fun h => ?_) (fun h => ?_)
      · skip
        refine x_aload_n (pc := 573) d162_573 rfl ?_
        refine x_iload_n (pc := 574) d162_574 rfl ?_
        refine x_iload_n (pc := 575) d162_575 rfl ?_
        refine z_cV2i (pc := 576) d162_576 ml9_403 mv175 shL280 (t_r_waitsToSend x1 v4 s) (by decide) (Nat.le_of_ble_eq_true rfl) ⟨Nat.zero_le _, Nat.zero_le _⟩ h (fun v55 s54 h => ?_)
        refine z_if_eq (pc := 579) (tgt := 588) d162_579 (by decide) h (fun h => ?_) (fun h => ?_)
        · skip
          refine x_aload_n (pc := 588) d162_588 rfl ?_
          refine y_getr (pc := 589) d162_589 fk9_149 shL280 rfl ?_
          refine x_iload_n (pc := 592) d162_592 rfl ?_
          refine x_iconst (pc := 593) (v := (0)) d162_593 (by decide) ?_
          refine z_iast (pc := 594) d162_594 shL325 (by decide) h (fun s56 h => ?_)
          refine x_goto (pc := 595) (tgt := 656) d162_595 (by decide) ?_
          refine wp_lv (lv' := [(0, .ref 280), (1, .int x1), (2, .int v4)]) ⟨rfl, rfl, rfl, trivial⟩ ?_
          exact t_r_turnOf_656 x1 v4 s56 h
        · skip
          refine x_aload_n (pc := 582) d162_582 rfl ?_
          refine x_iload_n (pc := 583) d162_583 rfl ?_
          refine z_cV1i (pc := 584) d162_584 ml9_400 mv174 shL280 (t_r_waits x1 s54) (by decide) (Nat.le_of_ble_eq_true rfl) ⟨Nat.zero_le _, Nat.zero_le _⟩ h (fun v58 s57 h => ?_)
          exact z_iret (pc := 587) d162_587 rfl h
      · skip
        refine x_aload_n (pc := 550) d162_550 rfl ?_
        refine x_aload_n (pc := 551) d162_551 rfl ?_
        refine x_iload_n (pc := 552) d162_552 rfl ?_
        refine x_iconst (pc := 553) (v := (0)) d162_553 (by decide) ?_
        refine x_aload_n (pc := 554) d162_554 rfl ?_
        refine x_iload_n (pc := 555) d162_555 rfl ?_
        refine x_aload_n (pc := 556) d162_556 rfl ?_
        refine y_getr (pc := 557) d162_557 fk9_39 shL280 rfl ?_
        refine x_iload_n (pc := 560) d162_560 rfl ?_
        refine z_iald (pc := 561) d162_561 shL289 (by decide) h (fun v59 h => ?_)
        refine z_cV2j (pc := 562) d162_562 ml9_396 mv173 shL280 (t_r_work x1 v59 s) (by decide) (Nat.le_of_ble_eq_true rfl) ⟨Nat.zero_le _, Nat.zero_le _⟩ h (fun v61 s60 h => ?_)
        refine x_iconst (pc := 565) (v := (-1)) d162_565 (by decide) ?_
        refine z_cV4i (pc := 566) d162_566 ml9_378 mv169 shL280 (t_r_throwOut x1 (0 : Int32) v61 (-1 : Int32) s60) (by decide) (Nat.le_of_ble_eq_true rfl) ⟨Nat.zero_le _, Nat.zero_le _⟩ h (fun v63 s62 h => ?_)
        refine z_cV1i (pc := 569) d162_569 ml9_382 mv171 shL280 (t_r_thrown v63 s62) (by decide) (Nat.le_of_ble_eq_true rfl) ⟨Nat.zero_le _, Nat.zero_le _⟩ h (fun v65 s64 h => ?_)
        exact z_iret (pc := 572) d162_572 rfl h
    replace h := im hk9 h
    by_cases hk10 : v6 = 10
    · replace h := ip hk10 h
      refine x_tableIn (pc := 128) (tgt := 598) (off := 470) d162_128 (by rw [hk10]; decide) (by rw [hk10]; decide) (by rw [hk10]; decide) (by decide) ?_
      refine x_aload_n (pc := 598) d162_598 rfl ?_
      refine x_iload_n (pc := 599) d162_599 rfl ?_
      refine x_iload_n (pc := 600) d162_600 rfl ?_
      refine x_iconst (pc := 601) (v := (0)) d162_601 (by decide) ?_
      refine x_iload_n (pc := 602) d162_602 rfl ?_
      refine x_iconst (pc := 603) (v := (1)) d162_603 (by decide) ?_
      refine z_cS2i (pc := 604) d162_604 ml9_371 mv168 (t_r_atLeast v5 (1 : Int32) s) (by decide) (Nat.le_of_ble_eq_true rfl) ⟨Nat.zero_le _, Nat.zero_le _⟩ h (fun v67 s66 h => ?_)
      refine z_cV4v (pc := 607) d162_607 ml9_367 mv167 shL280 (t_r_goIn x1 v4 (0 : Int32) v67 s66) (by decide) (Nat.le_of_ble_eq_true rfl) ⟨Nat.zero_le _, Nat.zero_le _⟩ h (fun s68 h => ?_)
      refine x_iconst (pc := 610) (v := (0)) d162_610 (by decide) ?_
      exact z_iret (pc := 611) d162_611 rfl h
    replace h := im hk10 h
    by_cases hk11 : v6 = 11
    · replace h := ip hk11 h
      refine x_tableIn (pc := 128) (tgt := 612) (off := 484) d162_128 (by rw [hk11]; decide) (by rw [hk11]; decide) (by rw [hk11]; decide) (by decide) ?_
      refine x_aload_n (pc := 612) d162_612 rfl ?_
      refine x_iload_n (pc := 613) d162_613 rfl ?_
      refine x_iload_n (pc := 614) d162_614 rfl ?_
      refine x_iconst (pc := 615) (v := (0)) d162_615 (by decide) ?_
      refine x_iconst (pc := 616) (v := (2)) d162_616 (by decide) ?_
      refine z_cV4v (pc := 617) d162_617 ml9_367 mv167 shL280 (t_r_goIn x1 v4 (0 : Int32) (2 : Int32) s) (by decide) (Nat.le_of_ble_eq_true rfl) ⟨Nat.zero_le _, Nat.zero_le _⟩ h (fun s70 h => ?_)
      refine x_iconst (pc := 620) (v := (0)) d162_620 (by decide) ?_
      exact z_iret (pc := 621) d162_621 rfl h
    replace h := im hk11 h
    by_cases hk12 : v6 = 12
    · replace h := ip hk12 h
      refine x_tableIn (pc := 128) (tgt := 622) (off := 494) d162_128 (by rw [hk12]; decide) (by rw [hk12]; decide) (by rw [hk12]; decide) (by decide) ?_
      refine x_aload_n (pc := 622) d162_622 rfl ?_
      refine x_iload_n (pc := 623) d162_623 rfl ?_
      refine x_iload_n (pc := 624) d162_624 rfl ?_
      refine x_iconst (pc := 625) (v := (0)) d162_625 (by decide) ?_
      refine x_iconst (pc := 626) (v := (0)) d162_626 (by decide) ?_
      refine z_cV4v (pc := 627) d162_627 ml9_367 mv167 shL280 (t_r_goIn x1 v4 (0 : Int32) (0 : Int32) s) (by decide) (Nat.le_of_ble_eq_true rfl) ⟨Nat.zero_le _, Nat.zero_le _⟩ h (fun s72 h => ?_)
      refine x_iconst (pc := 630) (v := (0)) d162_630 (by decide) ?_
      exact z_iret (pc := 631) d162_631 rfl h
    replace h := im hk12 h
    by_cases hk15 : v6 = 15
    · replace h := ip hk15 h
      refine x_tableIn (pc := 128) (tgt := 632) (off := 504) d162_128 (by rw [hk15]; decide) (by rw [hk15]; decide) (by rw [hk15]; decide) (by decide) ?_
      refine x_aload_n (pc := 632) d162_632 rfl ?_
      refine x_iload_n (pc := 633) d162_633 rfl ?_
      refine x_iload_n (pc := 634) d162_634 rfl ?_
      refine x_iconst (pc := 635) (v := (0)) d162_635 (by decide) ?_
      refine x_iload_n (pc := 636) d162_636 rfl ?_
      refine x_iconst (pc := 637) (v := (1)) d162_637 (by decide) ?_
      refine z_cS2i (pc := 638) d162_638 ml9_371 mv168 (t_r_atLeast v5 (1 : Int32) s) (by decide) (Nat.le_of_ble_eq_true rfl) ⟨Nat.zero_le _, Nat.zero_le _⟩ h (fun v75 s74 h => ?_)
      refine z_cV4v (pc := 641) d162_641 ml9_367 mv167 shL280 (t_r_goIn x1 v4 (0 : Int32) v75 s74) (by decide) (Nat.le_of_ble_eq_true rfl) ⟨Nat.zero_le _, Nat.zero_le _⟩ h (fun s76 h => ?_)
      refine x_iconst (pc := 644) (v := (0)) d162_644 (by decide) ?_
      exact z_iret (pc := 645) d162_645 rfl h
    replace h := im hk15 h
    by_cases hk30 : v6 = 30
    · replace h := ip hk30 h
      refine x_tableIn (pc := 128) (tgt := 268) (off := 140) d162_128 (by rw [hk30]; decide) (by rw [hk30]; decide) (by rw [hk30]; decide) (by decide) ?_
      refine x_aload_n (pc := 268) d162_268 rfl ?_
      refine y_getr (pc := 269) d162_269 fk9_104 shL280 rfl ?_
      refine x_bipush (pc := 272) (v := (10)) d162_272 (by decide) ?_
      refine x_iload_n (pc := 274) d162_274 rfl ?_
      refine x_imul (pc := 275) d162_275 ?_
      refine x_aload_n (pc := 276) d162_276 rfl ?_
      refine y_getr (pc := 277) d162_277 fk9_49 shL280 rfl ?_
      refine x_iload_n (pc := 280) d162_280 rfl ?_
      refine z_iald (pc := 281) d162_281 shL292 (by decide) h (fun v78 h => ?_)
      refine x_iadd (pc := 282) d162_282 ?_
      refine x_bipush (pc := 283) (v := (16)) d162_283 (by decide) ?_
      refine x_isub (pc := 285) d162_285 ?_
      refine x_aload_n (pc := 286) d162_286 rfl ?_
      refine x_iload_n (pc := 287) d162_287 rfl ?_
      refine x_aload_n (pc := 288) d162_288 rfl ?_
      refine y_getr (pc := 289) d162_289 fk9_39 shL280 rfl ?_
      refine x_iload_n (pc := 292) d162_292 rfl ?_
      refine z_iald (pc := 293) d162_293 shL289 (by decide) h (fun v79 h => ?_)
      refine z_cV2j (pc := 294) d162_294 ml9_396 mv173 shL280 (t_r_work x1 v79 s) (by decide) (Nat.le_of_ble_eq_true rfl) ⟨Nat.zero_le _, Nat.zero_le _⟩ h (fun v81 s80 h => ?_)
      refine z_last (pc := 297) d162_297 shL310 (by decide) h (fun s82 h => ?_)
      refine x_goto (pc := 298) (tgt := 656) d162_298 (by decide) ?_
      refine wp_lv (lv' := [(0, .ref 280), (1, .int x1), (2, .int v4)]) ⟨rfl, rfl, rfl, trivial⟩ ?_
      exact t_r_turnOf_656 x1 v4 s82 h
    replace h := im hk30 h
    have z0 : ¬ (v6).toInt = 0 := lv_neT hk0 (by decide)
    have z1 : ¬ (v6).toInt = 1 := lv_neT hk1 (by decide)
    have z3 : ¬ (v6).toInt = 3 := lv_neT hk3 (by decide)
    have z4 : ¬ (v6).toInt = 4 := lv_neT hk4 (by decide)
    have z6 : ¬ (v6).toInt = 6 := lv_neT hk6 (by decide)
    have z8 : ¬ (v6).toInt = 8 := lv_neT hk8 (by decide)
    have z9 : ¬ (v6).toInt = 9 := lv_neT hk9 (by decide)
    have z10 : ¬ (v6).toInt = 10 := lv_neT hk10 (by decide)
    have z11 : ¬ (v6).toInt = 11 := lv_neT hk11 (by decide)
    have z12 : ¬ (v6).toInt = 12 := lv_neT hk12 (by decide)
    have z15 : ¬ (v6).toInt = 15 := lv_neT hk15 (by decide)
    have z30 : ¬ (v6).toInt = 30 := lv_neT hk30 (by decide)
    have hD : Wp (rmd 5 0 0) 162 (zi (fun v s1 => (v, s1) = r)) 0 0 646 [(0, .ref 280), (1, .int x1), (2, .int v4), (3, .int v5)] [] (mk s) TT := by
      refine wp_lv (lv' := [(0, .ref 280), (1, .int x1), (2, .int v4), (3, .int v5)]) ⟨rfl, rfl, rfl, rfl, trivial⟩ ?_
      exact t_r_turnOf_646 x1 v4 v5 s h
    rcases (by omega : (v6).toInt < 0 ∨ 30 < (v6).toInt ∨ (v6).toInt = 2 ∨ (v6).toInt = 5 ∨ (v6).toInt = 7 ∨ (v6).toInt = 13 ∨ (v6).toInt = 14 ∨ (v6).toInt = 16 ∨ (v6).toInt = 17 ∨ (v6).toInt = 18 ∨ (v6).toInt = 19 ∨ (v6).toInt = 20 ∨ (v6).toInt = 21 ∨ (v6).toInt = 22 ∨ (v6).toInt = 23 ∨ (v6).toInt = 24 ∨ (v6).toInt = 25 ∨ (v6).toInt = 26 ∨ (v6).toInt = 27 ∨ (v6).toInt = 28 ∨ (v6).toInt = 29) with zz | zz | zz | zz | zz | zz | zz | zz | zz | zz | zz | zz | zz | zz | zz | zz | zz | zz | zz | zz | zz
    · exact x_tableOut (pc := 128) (tgt := 646) d162_128 (Or.inl zz) (by decide) (wp_lv (lv' := [(0, .ref 280), (1, .int x1), (2, .int v4), (3, .int v5)]) ⟨rfl, rfl, rfl, rfl, trivial⟩ hD)
    · exact x_tableOut (pc := 128) (tgt := 646) d162_128 (Or.inr zz) (by decide) (wp_lv (lv' := [(0, .ref 280), (1, .int x1), (2, .int v4), (3, .int v5)]) ⟨rfl, rfl, rfl, rfl, trivial⟩ hD)
    · exact x_tableIn (pc := 128) (tgt := 646) (off := 518) d162_128 (by rw [zz]; decide) (by rw [zz]; decide) (by rw [zz]; rfl) (by decide) (wp_lv (lv' := [(0, .ref 280), (1, .int x1), (2, .int v4), (3, .int v5)]) ⟨rfl, rfl, rfl, rfl, trivial⟩ hD)
    · exact x_tableIn (pc := 128) (tgt := 646) (off := 518) d162_128 (by rw [zz]; decide) (by rw [zz]; decide) (by rw [zz]; rfl) (by decide) (wp_lv (lv' := [(0, .ref 280), (1, .int x1), (2, .int v4), (3, .int v5)]) ⟨rfl, rfl, rfl, rfl, trivial⟩ hD)
    · exact x_tableIn (pc := 128) (tgt := 646) (off := 518) d162_128 (by rw [zz]; decide) (by rw [zz]; decide) (by rw [zz]; rfl) (by decide) (wp_lv (lv' := [(0, .ref 280), (1, .int x1), (2, .int v4), (3, .int v5)]) ⟨rfl, rfl, rfl, rfl, trivial⟩ hD)
    · exact x_tableIn (pc := 128) (tgt := 646) (off := 518) d162_128 (by rw [zz]; decide) (by rw [zz]; decide) (by rw [zz]; rfl) (by decide) (wp_lv (lv' := [(0, .ref 280), (1, .int x1), (2, .int v4), (3, .int v5)]) ⟨rfl, rfl, rfl, rfl, trivial⟩ hD)
    · exact x_tableIn (pc := 128) (tgt := 646) (off := 518) d162_128 (by rw [zz]; decide) (by rw [zz]; decide) (by rw [zz]; rfl) (by decide) (wp_lv (lv' := [(0, .ref 280), (1, .int x1), (2, .int v4), (3, .int v5)]) ⟨rfl, rfl, rfl, rfl, trivial⟩ hD)
    · exact x_tableIn (pc := 128) (tgt := 646) (off := 518) d162_128 (by rw [zz]; decide) (by rw [zz]; decide) (by rw [zz]; rfl) (by decide) (wp_lv (lv' := [(0, .ref 280), (1, .int x1), (2, .int v4), (3, .int v5)]) ⟨rfl, rfl, rfl, rfl, trivial⟩ hD)
    · exact x_tableIn (pc := 128) (tgt := 646) (off := 518) d162_128 (by rw [zz]; decide) (by rw [zz]; decide) (by rw [zz]; rfl) (by decide) (wp_lv (lv' := [(0, .ref 280), (1, .int x1), (2, .int v4), (3, .int v5)]) ⟨rfl, rfl, rfl, rfl, trivial⟩ hD)
    · exact x_tableIn (pc := 128) (tgt := 646) (off := 518) d162_128 (by rw [zz]; decide) (by rw [zz]; decide) (by rw [zz]; rfl) (by decide) (wp_lv (lv' := [(0, .ref 280), (1, .int x1), (2, .int v4), (3, .int v5)]) ⟨rfl, rfl, rfl, rfl, trivial⟩ hD)
    · exact x_tableIn (pc := 128) (tgt := 646) (off := 518) d162_128 (by rw [zz]; decide) (by rw [zz]; decide) (by rw [zz]; rfl) (by decide) (wp_lv (lv' := [(0, .ref 280), (1, .int x1), (2, .int v4), (3, .int v5)]) ⟨rfl, rfl, rfl, rfl, trivial⟩ hD)
    · exact x_tableIn (pc := 128) (tgt := 646) (off := 518) d162_128 (by rw [zz]; decide) (by rw [zz]; decide) (by rw [zz]; rfl) (by decide) (wp_lv (lv' := [(0, .ref 280), (1, .int x1), (2, .int v4), (3, .int v5)]) ⟨rfl, rfl, rfl, rfl, trivial⟩ hD)
    · exact x_tableIn (pc := 128) (tgt := 646) (off := 518) d162_128 (by rw [zz]; decide) (by rw [zz]; decide) (by rw [zz]; rfl) (by decide) (wp_lv (lv' := [(0, .ref 280), (1, .int x1), (2, .int v4), (3, .int v5)]) ⟨rfl, rfl, rfl, rfl, trivial⟩ hD)
    · exact x_tableIn (pc := 128) (tgt := 646) (off := 518) d162_128 (by rw [zz]; decide) (by rw [zz]; decide) (by rw [zz]; rfl) (by decide) (wp_lv (lv' := [(0, .ref 280), (1, .int x1), (2, .int v4), (3, .int v5)]) ⟨rfl, rfl, rfl, rfl, trivial⟩ hD)
    · exact x_tableIn (pc := 128) (tgt := 646) (off := 518) d162_128 (by rw [zz]; decide) (by rw [zz]; decide) (by rw [zz]; rfl) (by decide) (wp_lv (lv' := [(0, .ref 280), (1, .int x1), (2, .int v4), (3, .int v5)]) ⟨rfl, rfl, rfl, rfl, trivial⟩ hD)
    · exact x_tableIn (pc := 128) (tgt := 646) (off := 518) d162_128 (by rw [zz]; decide) (by rw [zz]; decide) (by rw [zz]; rfl) (by decide) (wp_lv (lv' := [(0, .ref 280), (1, .int x1), (2, .int v4), (3, .int v5)]) ⟨rfl, rfl, rfl, rfl, trivial⟩ hD)
    · exact x_tableIn (pc := 128) (tgt := 646) (off := 518) d162_128 (by rw [zz]; decide) (by rw [zz]; decide) (by rw [zz]; rfl) (by decide) (wp_lv (lv' := [(0, .ref 280), (1, .int x1), (2, .int v4), (3, .int v5)]) ⟨rfl, rfl, rfl, rfl, trivial⟩ hD)
    · exact x_tableIn (pc := 128) (tgt := 646) (off := 518) d162_128 (by rw [zz]; decide) (by rw [zz]; decide) (by rw [zz]; rfl) (by decide) (wp_lv (lv' := [(0, .ref 280), (1, .int x1), (2, .int v4), (3, .int v5)]) ⟨rfl, rfl, rfl, rfl, trivial⟩ hD)
    · exact x_tableIn (pc := 128) (tgt := 646) (off := 518) d162_128 (by rw [zz]; decide) (by rw [zz]; decide) (by rw [zz]; rfl) (by decide) (wp_lv (lv' := [(0, .ref 280), (1, .int x1), (2, .int v4), (3, .int v5)]) ⟨rfl, rfl, rfl, rfl, trivial⟩ hD)
    · exact x_tableIn (pc := 128) (tgt := 646) (off := 518) d162_128 (by rw [zz]; decide) (by rw [zz]; decide) (by rw [zz]; rfl) (by decide) (wp_lv (lv' := [(0, .ref 280), (1, .int x1), (2, .int v4), (3, .int v5)]) ⟨rfl, rfl, rfl, rfl, trivial⟩ hD)
    · exact x_tableIn (pc := 128) (tgt := 646) (off := 518) d162_128 (by rw [zz]; decide) (by rw [zz]; decide) (by rw [zz]; rfl) (by decide) (wp_lv (lv' := [(0, .ref 280), (1, .int x1), (2, .int v4), (3, .int v5)]) ⟨rfl, rfl, rfl, rfl, trivial⟩ hD)
  · skip
    refine x_aload_n (pc := 92) d162_92 rfl ?_
    refine y_getr (pc := 93) d162_93 fk9_89 shL280 rfl ?_
    refine x_iload_n (pc := 96) d162_96 rfl ?_
    refine x_iconst (pc := 97) (v := (2)) d162_97 (by decide) ?_
    refine z_iast (pc := 98) d162_98 shL305 (by decide) h (fun s85 h => ?_)
    refine x_aload_n (pc := 99) d162_99 rfl ?_
    refine y_getr (pc := 100) d162_100 fk9_134 shL280 rfl ?_
    refine x_iload_n (pc := 103) d162_103 rfl ?_
    refine x_iconst (pc := 104) (v := (0)) d162_104 (by decide) ?_
    refine z_iast (pc := 105) d162_105 shL320 (by decide) h (fun s86 h => ?_)
    refine x_aload_n (pc := 106) d162_106 rfl ?_
    refine x_iconst (pc := 107) (v := (4)) d162_107 (by decide) ?_
    refine x_iload_n (pc := 108) d162_108 rfl ?_
    refine x_lconst (pc := 109) (v := (0)) d162_109 (by decide) ?_
    refine z_cV3v (pc := 110) d162_110 ml9_364 mv166 shL280 (t_r_note0 (4 : Int32) x1 (0 : Int64) s86) (by decide) (Nat.le_of_ble_eq_true rfl) ⟨Nat.zero_le _, Nat.zero_le _⟩ h (fun s87 h => ?_)
    refine x_iconst (pc := 113) (v := (2)) d162_113 (by decide) ?_
    exact z_iret (pc := 114) d162_114 rfl h
def r_turnOf_38 (x2 : Int32) (y0 : Int32) (y1 : Int32) (s : St) : Option (Int32 × St) := grd (ib x2 63) (s.2 253 0 x2.toNatClampNeg) fun v94 => grd (ib x2 63) (s.1 254 0 x2.toNatClampNeg) fun v95 => cal2 (r_throwOut y1 y0 v94 v95 s) fun v97 s96 => cal2 (r_thrown v97 s96) fun v99 s98 => some (v99, s98)
set_option maxRecDepth 100000 in
theorem t_r_turnOf_38 {r : Int32 × St} : ∀ (x2 : Int32) (y0 : Int32) (y1 : Int32) (s : St), r_turnOf_38 x2 y0 y1 s = some r → Wp (rmd 5 0 0) 162 (zi (fun v s1 => (v, s1) = r)) 0 0 38 [(0, .ref 280), (2, .int x2)] [.int y0, .int y1, .ref 280, .ref 280] (mk s) TT := by
  intro x2 y0 y1 s h
  unfold r_turnOf_38 at h
  refine x_aload_n (pc := 38) d162_38 rfl ?_
  refine y_getr (pc := 39) d162_39 fk9_128 shL280 rfl ?_
  refine x_iload_n (pc := 42) d162_42 rfl ?_
  refine z_lald (pc := 43) d162_43 shL318 (by decide) h (fun v94 h => ?_)
  refine x_aload_n (pc := 44) d162_44 rfl ?_
  refine y_getr (pc := 45) d162_45 fk9_131 shL280 rfl ?_
  refine x_iload_n (pc := 48) d162_48 rfl ?_
  refine z_iald (pc := 49) d162_49 shL319 (by decide) h (fun v95 h => ?_)
  refine z_cV4i (pc := 50) d162_50 ml9_378 mv169 shL280 (t_r_throwOut y1 y0 v94 v95 s) (by decide) (Nat.le_of_ble_eq_true rfl) ⟨Nat.zero_le _, Nat.zero_le _⟩ h (fun v97 s96 h => ?_)
  refine z_cV1i (pc := 53) d162_53 ml9_382 mv171 shL280 (t_r_thrown v97 s96) (by decide) (Nat.le_of_ble_eq_true rfl) ⟨Nat.zero_le _, Nat.zero_le _⟩ h (fun v99 s98 h => ?_)
  exact z_iret (pc := 56) d162_56 rfl h
def r_turnOf (a0 : Int32) (s : St) : Option (Int32 × St) := cal2 (r_settle a0 s) fun v2 s1 => if v2 = 0 then (grd (ib a0 7) (s1.1 242 0 a0.toNatClampNeg) fun v3 => if v3 = 0 then (grd (ib a0 7) (s1.1 255 0 a0.toNatClampNeg) fun v89 => if v89 ≤ 0 then (r_turnOf_81 a0 s1) else (cal2 (r_throwFirst a0 s1) fun v91 s90 => some (v91, s90))) else (r_turnOf_81 a0 s1)) else (grd (ib a0 7) (s1.1 246 0 a0.toNatClampNeg) fun v92 => grd (ib (((9 : Int32) * a0) + v92) 63) (s1.1 252 0 (((9 : Int32) * a0) + v92).toNatClampNeg) fun v93 => if v93 = (2 : Int32) then (r_turnOf_38 (((9 : Int32) * a0) + v92) (1 : Int32) a0 s1) else (r_turnOf_38 (((9 : Int32) * a0) + v92) (0 : Int32) a0 s1))
set_option maxRecDepth 100000 in
theorem t_r_turnOf (a0 : Int32) (s : St) (r : Int32 × St) (h : r_turnOf a0 s = some r) : Ri 5 162 [.ref 280, .int a0] s (fun v s1 => (v, s1) = r) := by
  refine ct_of (by decide +kernel) (Nat.le_of_ble_eq_true rfl) ?_
  show Wp _ _ _ _ _ _ [(0, .ref 280), (1, .int a0)] _ _ _
  unfold r_turnOf at h
  refine x_aload_n (pc := 0) d162_0 rfl ?_
  refine x_iload_n (pc := 1) d162_1 rfl ?_
  refine z_cV1i (pc := 2) d162_2 ml9_393 mv163 shL280 (t_r_settle a0 s) (by decide) (Nat.le_of_ble_eq_true rfl) ⟨Nat.zero_le _, Nat.zero_le _⟩ h (fun v2 s1 h => ?_)
  refine z_if_eq (pc := 5) (tgt := 57) d162_5 (by decide) h (fun h => ?_) (fun h => ?_)
  · skip
    refine x_aload_n (pc := 57) d162_57 rfl ?_
    refine y_getr (pc := 58) d162_58 fk9_95 shL280 rfl ?_
    refine x_iload_n (pc := 61) d162_61 rfl ?_
    refine z_iald (pc := 62) d162_62 shL307 (by decide) h (fun v3 h => ?_)
    refine z_if_ne (pc := 63) (tgt := 81) d162_63 (by decide) h (fun h => ?_) (fun h => ?_)
    · skip
      refine wp_lv (lv' := [(0, .ref 280), (1, .int a0)]) ⟨rfl, rfl, trivial⟩ ?_
      exact t_r_turnOf_81 a0 s1 h
    · skip
      refine x_aload_n (pc := 66) d162_66 rfl ?_
      refine y_getr (pc := 67) d162_67 fk9_134 shL280 rfl ?_
      refine x_iload_n (pc := 70) d162_70 rfl ?_
      refine z_iald (pc := 71) d162_71 shL320 (by decide) h (fun v89 h => ?_)
      refine z_if_le (pc := 72) (tgt := 81) d162_72 (by decide) h (fun h => ?_) (fun h => ?_)
      · skip
        refine wp_lv (lv' := [(0, .ref 280), (1, .int a0)]) ⟨rfl, rfl, trivial⟩ ?_
        exact t_r_turnOf_81 a0 s1 h
      · skip
        refine x_aload_n (pc := 75) d162_75 rfl ?_
        refine x_iload_n (pc := 76) d162_76 rfl ?_
        refine z_cV1i (pc := 77) d162_77 ml9_390 mv172 shL280 (t_r_throwFirst a0 s1) (by decide) (Nat.le_of_ble_eq_true rfl) ⟨Nat.zero_le _, Nat.zero_le _⟩ h (fun v91 s90 h => ?_)
        exact z_iret (pc := 80) d162_80 rfl h
  · skip
    refine x_bipush (pc := 8) (v := (9)) d162_8 (by decide) ?_
    refine x_iload_n (pc := 10) d162_10 rfl ?_
    refine x_imul (pc := 11) d162_11 ?_
    refine x_aload_n (pc := 12) d162_12 rfl ?_
    refine y_getr (pc := 13) d162_13 fk9_107 shL280 rfl ?_
    refine x_iload_n (pc := 16) d162_16 rfl ?_
    refine z_iald (pc := 17) d162_17 shL311 (by decide) h (fun v92 h => ?_)
    refine x_iadd (pc := 18) d162_18 ?_
    refine x_istore_n (pc := 19) d162_19 (by decide) ?_
    refine x_aload_n (pc := 20) d162_20 rfl ?_
    refine x_aload_n (pc := 21) d162_21 rfl ?_
    refine x_iload_n (pc := 22) d162_22 rfl ?_
    refine x_aload_n (pc := 23) d162_23 rfl ?_
    refine y_getr (pc := 24) d162_24 fk9_125 shL280 rfl ?_
    refine x_iload_n (pc := 27) d162_27 rfl ?_
    refine z_iald (pc := 28) d162_28 shL317 (by decide) h (fun v93 h => ?_)
    refine x_iconst (pc := 29) (v := (2)) d162_29 (by decide) ?_
    refine z_icmp_ne (pc := 30) (tgt := 37) d162_30 (by decide) h (fun h => ?_) (fun h => ?_)
    · skip
      refine x_iconst (pc := 37) (v := (0)) d162_37 (by decide) ?_
      refine wp_lv (lv' := [(0, .ref 280), (2, .int (((9 : Int32) * a0) + v92))]) ⟨rfl, rfl, trivial⟩ ?_
      exact t_r_turnOf_38 (((9 : Int32) * a0) + v92) (0 : Int32) a0 s1 h
    · skip
      refine x_iconst (pc := 33) (v := (1)) d162_33 (by decide) ?_
      refine x_goto (pc := 34) (tgt := 38) d162_34 (by decide) ?_
      refine wp_lv (lv' := [(0, .ref 280), (2, .int (((9 : Int32) * a0) + v92))]) ⟨rfl, rfl, trivial⟩ ?_
      exact t_r_turnOf_38 (((9 : Int32) * a0) + v92) (1 : Int32) a0 s1 h
def r_turnOnce (a0 : Int32) (s : St) : Option (Int32 × St) := bnd (s.1 237 0 0) fun v1 => bnd (si s 237 0 0 (v1 + (1 : Int32))) fun s2 => cal (r_timeouts  s2) fun s3 => cal2 (r_turnOf a0 s3) fun v6 s5 => grd (ib a0 7) (s5.1 243 0 a0.toNatClampNeg) fun v7 => if (4 : Int32) ≤ v6 then (grd (ib a0 7) (si s5 243 0 a0.toNatClampNeg (v7 + (0 : Int32))) fun s8 => some (v6, s8)) else (grd (ib a0 7) (si s5 243 0 a0.toNatClampNeg (v7 + (1 : Int32))) fun s9 => some (v6, s9))
set_option maxRecDepth 100000 in
theorem t_r_turnOnce (a0 : Int32) (s : St) (r : Int32 × St) (h : r_turnOnce a0 s = some r) : Ri 6 159 [.ref 280, .int a0] s (fun v s1 => (v, s1) = r) := by
  refine ct_of (by decide +kernel) (Nat.le_of_ble_eq_true rfl) ?_
  show Wp _ _ _ _ _ _ [(0, .ref 280), (1, .int a0)] _ _ _
  unfold r_turnOnce at h
  refine x_aload_n (pc := 0) d159_0 rfl ?_
  refine x_dup (pc := 1) d159_1 rfl ?_
  refine z_geti (pc := 2) d159_2 fk9_353 shL280 rfl h (fun v1 h => ?_)
  refine x_iconst (pc := 5) (v := (1)) d159_5 (by decide) ?_
  refine x_iadd (pc := 6) d159_6 ?_
  refine z_puti (pc := 7) d159_7 fk9_353 shL280 rfl rfl ⟨rfl, rfl⟩ h (fun s2 h => ?_)
  refine x_aload_n (pc := 10) d159_10 rfl ?_
  refine z_cV0v (pc := 11) d159_11 ml9_413 mv160 shL280 (t_r_timeouts  s2) (by decide) (Nat.le_of_ble_eq_true rfl) ⟨Nat.zero_le _, Nat.zero_le _⟩ h (fun s3 h => ?_)
  refine x_aload_n (pc := 14) d159_14 rfl ?_
  refine x_iload_n (pc := 15) d159_15 rfl ?_
  refine z_cV1i (pc := 16) d159_16 ml9_416 mv162 shL280 (t_r_turnOf a0 s3) (by decide) (Nat.le_of_ble_eq_true rfl) ⟨Nat.zero_le _, Nat.zero_le _⟩ h (fun v6 s5 h => ?_)
  refine x_istore_n (pc := 19) d159_19 (by decide) ?_
  refine x_aload_n (pc := 20) d159_20 rfl ?_
  refine y_getr (pc := 21) d159_21 fk9_98 shL280 rfl ?_
  refine x_iload_n (pc := 24) d159_24 rfl ?_
  refine x_dup2 (pc := 25) d159_25 rfl rfl ?_
  refine z_iald (pc := 26) d159_26 shL308 (by decide) h (fun v7 h => ?_)
  refine x_iload_n (pc := 27) d159_27 rfl ?_
  refine x_iconst (pc := 28) (v := (4)) d159_28 (by decide) ?_
  refine z_icmp_ge (pc := 29) (tgt := 36) d159_29 (by decide) h (fun h => ?_) (fun h => ?_)
  · skip
    refine x_iconst (pc := 36) (v := (0)) d159_36 (by decide) ?_
    refine x_iadd (pc := 37) d159_37 ?_
    refine z_iast (pc := 38) d159_38 shL308 (by decide) h (fun s8 h => ?_)
    refine x_iload_n (pc := 39) d159_39 rfl ?_
    exact z_iret (pc := 40) d159_40 rfl h
  · skip
    refine x_iconst (pc := 32) (v := (1)) d159_32 (by decide) ?_
    refine x_goto (pc := 33) (tgt := 37) d159_33 (by decide) ?_
    refine x_iadd (pc := 37) d159_37 ?_
    refine z_iast (pc := 38) d159_38 shL308 (by decide) h (fun s9 h => ?_)
    refine x_iload_n (pc := 39) d159_39 rfl ?_
    exact z_iret (pc := 40) d159_40 rfl h
def r_isThread_14 (s : St) : Option (Int32 × St) := some ((0 : Int32), s)
set_option maxRecDepth 100000 in
theorem t_r_isThread_14 {r : Int32 × St} : ∀ (s : St), r_isThread_14 s = some r → Wp (rmd 0 0 0) 157 (zi (fun v s1 => (v, s1) = r)) 0 0 14 [] [] (mk s) TT := by
  intro s h
  unfold r_isThread_14 at h
  refine x_iconst (pc := 14) (v := (0)) d157_14 (by decide) ?_
  exact z_zretc (pc := 15) d157_15 rfl (Or.inl rfl) h
def r_isThread (a0 : Int32) (s : St) : Option (Int32 × St) := if a0 < 0 then (r_isThread_14 s) else (if (6 : Int32) ≤ a0 then (r_isThread_14 s) else (some ((1 : Int32), s)))
set_option maxRecDepth 100000 in
theorem t_r_isThread (a0 : Int32) (s : St) (r : Int32 × St) (h : r_isThread a0 s = some r) : Ri 0 157 [.int a0] s (fun v s1 => (v, s1) = r) := by
  refine ct_of (by decide +kernel) (Nat.le_of_ble_eq_true rfl) ?_
  show Wp _ _ _ _ _ _ [(0, .int a0)] _ _ _
  unfold r_isThread at h
  refine x_iload_n (pc := 0) d157_0 rfl ?_
  refine z_if_lt (pc := 1) (tgt := 14) d157_1 (by decide) h (fun h => ?_) (fun h => ?_)
  · skip
    refine wp_lv (lv' := []) trivial ?_
    exact t_r_isThread_14 s h
  · skip
    refine x_iload_n (pc := 4) d157_4 rfl ?_
    refine x_bipush (pc := 5) (v := (6)) d157_5 (by decide) ?_
    refine z_icmp_ge (pc := 7) (tgt := 14) d157_7 (by decide) h (fun h => ?_) (fun h => ?_)
    · skip
      refine wp_lv (lv' := []) trivial ?_
      exact t_r_isThread_14 s h
    · skip
      refine x_iconst (pc := 10) (v := (1)) d157_10 (by decide) ?_
      refine x_goto (pc := 11) (tgt := 15) d157_11 (by decide) ?_
      exact z_zretc (pc := 15) d157_15 rfl (Or.inr rfl) h
def r_start_94 : Nat → Int32 → Int32 → St → Option (Int32 × St)
  | 0, _, _, _ => none
  | n + 1, x1, x3, s => if (10 : Int32) ≤ x3 then (some ((1 : Int32), s)) else (grd (ib (((10 : Int32) * x1) + x3) 70) (sl s 245 0 (((10 : Int32) * x1) + x3).toNatClampNeg (0 : Int64)) fun s14 => r_start_94 n x1 (x3 + (1 : Int32)) s14)
set_option maxRecDepth 100000 in
theorem t_r_start_94 {r : Int32 × St} : ∀ (n : Nat) (x1 : Int32) (x3 : Int32) (s : St), r_start_94 n x1 x3 s = some r → Wp (rmd 1 0 0) 156 (zi (fun v s1 => (v, s1) = r)) 0 0 94 [(0, .ref 280), (1, .int x1), (3, .int x3)] [] (mk s) TT := by
  intro n
  induction n with
  | zero =>
    intro x1 x3 s h
    rw [r_start_94.eq_1] at h
    cases h
  | succ n ih =>
    intro x1 x3 s h
    rw [r_start_94.eq_2] at h
    refine x_iload_n (pc := 94) d156_94 rfl ?_
    refine x_bipush (pc := 95) (v := (10)) d156_95 (by decide) ?_
    refine z_icmp_ge (pc := 97) (tgt := 118) d156_97 (by decide) h (fun h => ?_) (fun h => ?_)
    · skip
      refine x_iconst (pc := 118) (v := (1)) d156_118 (by decide) ?_
      exact z_iret (pc := 119) d156_119 rfl h
    · skip
      refine x_aload_n (pc := 100) d156_100 rfl ?_
      refine y_getr (pc := 101) d156_101 fk9_104 shL280 rfl ?_
      refine x_bipush (pc := 104) (v := (10)) d156_104 (by decide) ?_
      refine x_iload_n (pc := 106) d156_106 rfl ?_
      refine x_imul (pc := 107) d156_107 ?_
      refine x_iload_n (pc := 108) d156_108 rfl ?_
      refine x_iadd (pc := 109) d156_109 ?_
      refine x_lconst (pc := 110) (v := (0)) d156_110 (by decide) ?_
      refine z_last (pc := 111) d156_111 shL310 (by decide) h (fun s14 h => ?_)
      refine y_inc (pc := 112) (c := (1)) d156_112 (by decide) (by decide) rfl ?_
      refine x_goto (pc := 115) (tgt := 94) d156_115 (by decide) ?_
      refine wp_lv (lv' := [(0, .ref 280), (1, .int x1), (3, .int (x3 + (1 : Int32)))]) ⟨rfl, rfl, rfl, trivial⟩ ?_
      exact ih x1 (x3 + (1 : Int32)) s14 h
def r_start (a0 : Int32) (a1 : Int32) (s : St) : Option (Int32 × St) := cal2 (r_isThread a0 s) fun v2 s1 => if v2 = 0 then (some ((-1 : Int32), s1)) else (if a1 < 0 then (some ((-1 : Int32), s1)) else (bnd (s1.1 210 0 0) fun v3 => if v3 ≤ a1 then (some ((-1 : Int32), s1)) else (grd (ib a0 7) (s1.1 240 0 a0.toNatClampNeg) fun v4 => if v4 = (1 : Int32) then (some ((-1 : Int32), s1)) else (grd (ib a0 7) (si s1 240 0 a0.toNatClampNeg (1 : Int32)) fun s5 => grd (ib a1 12) (s5.1 214 0 a1.toNatClampNeg) fun v6 => grd (ib a0 7) (si s5 241 0 a0.toNatClampNeg v6) fun s7 => grd (ib a0 7) (si s7 242 0 a0.toNatClampNeg (0 : Int32)) fun s8 => grd (ib a0 7) (si s8 243 0 a0.toNatClampNeg (0 : Int32)) fun s9 => grd (ib a0 7) (sl s9 244 0 a0.toNatClampNeg (0 : Int64)) fun s10 => grd (ib a0 7) (si s10 246 0 a0.toNatClampNeg (0 : Int32)) fun s11 => grd (ib a0 7) (si s11 255 0 a0.toNatClampNeg (0 : Int32)) fun s12 => grd (ib a0 7) (si s12 261 0 a0.toNatClampNeg (0 : Int32)) fun s13 => r_start_94 20 a0 (0 : Int32) s13))))
set_option maxRecDepth 100000 in
theorem t_r_start (a0 : Int32) (a1 : Int32) (s : St) (r : Int32 × St) (h : r_start a0 a1 s = some r) : Ri 1 156 [.ref 280, .int a0, .int a1] s (fun v s1 => (v, s1) = r) := by
  refine ct_of (by decide +kernel) (Nat.le_of_ble_eq_true rfl) ?_
  show Wp _ _ _ _ _ _ [(0, .ref 280), (1, .int a0), (2, .int a1)] _ _ _
  unfold r_start at h
  refine x_iload_n (pc := 0) d156_0 rfl ?_
  refine z_cS1i (pc := 1) d156_1 ml9_419 mv157 (t_r_isThread a0 s) (by decide) (Nat.le_of_ble_eq_true rfl) ⟨Nat.zero_le _, Nat.zero_le _⟩ h (fun v2 s1 h => ?_)
  refine z_if_eq (pc := 4) (tgt := 29) d156_4 (by decide) h (fun h => ?_) (fun h => ?_)
  · skip
    refine x_iconst (pc := 29) (v := (-1)) d156_29 (by decide) ?_
    exact z_iret (pc := 30) d156_30 rfl h
  · skip
    refine x_iload_n (pc := 7) d156_7 rfl ?_
    refine z_if_lt (pc := 8) (tgt := 29) d156_8 (by decide) h (fun h => ?_) (fun h => ?_)
    · skip
      refine x_iconst (pc := 29) (v := (-1)) d156_29 (by decide) ?_
      exact z_iret (pc := 30) d156_30 rfl h
    · skip
      refine x_iload_n (pc := 11) d156_11 rfl ?_
      refine x_aload_n (pc := 12) d156_12 rfl ?_
      refine z_geti (pc := 13) d156_13 fk9_344 shL280 rfl h (fun v3 h => ?_)
      refine z_icmp_ge (pc := 16) (tgt := 29) d156_16 (by decide) h (fun h => ?_) (fun h => ?_)
      · skip
        refine x_iconst (pc := 29) (v := (-1)) d156_29 (by decide) ?_
        exact z_iret (pc := 30) d156_30 rfl h
      · skip
        refine x_aload_n (pc := 19) d156_19 rfl ?_
        refine y_getr (pc := 20) d156_20 fk9_89 shL280 rfl ?_
        refine x_iload_n (pc := 23) d156_23 rfl ?_
        refine z_iald (pc := 24) d156_24 shL305 (by decide) h (fun v4 h => ?_)
        refine x_iconst (pc := 25) (v := (1)) d156_25 (by decide) ?_
        refine z_icmp_ne (pc := 26) (tgt := 31) d156_26 (by decide) h (fun h => ?_) (fun h => ?_)
        · skip
          refine x_aload_n (pc := 31) d156_31 rfl ?_
          refine y_getr (pc := 32) d156_32 fk9_89 shL280 rfl ?_
          refine x_iload_n (pc := 35) d156_35 rfl ?_
          refine x_iconst (pc := 36) (v := (1)) d156_36 (by decide) ?_
          refine z_iast (pc := 37) d156_37 shL305 (by decide) h (fun s5 h => ?_)
          refine x_aload_n (pc := 38) d156_38 rfl ?_
          refine y_getr (pc := 39) d156_39 fk9_92 shL280 rfl ?_
          refine x_iload_n (pc := 42) d156_42 rfl ?_
          refine x_aload_n (pc := 43) d156_43 rfl ?_
          refine y_getr (pc := 44) d156_44 fk9_27 shL280 rfl ?_
          refine x_iload_n (pc := 47) d156_47 rfl ?_
          refine z_iald (pc := 48) d156_48 shL285 (by decide) h (fun v6 h => ?_)
          refine z_iast (pc := 49) d156_49 shL306 (by decide) h (fun s7 h => ?_)
          refine x_aload_n (pc := 50) d156_50 rfl ?_
          refine y_getr (pc := 51) d156_51 fk9_95 shL280 rfl ?_
          refine x_iload_n (pc := 54) d156_54 rfl ?_
          refine x_iconst (pc := 55) (v := (0)) d156_55 (by decide) ?_
          refine z_iast (pc := 56) d156_56 shL307 (by decide) h (fun s8 h => ?_)
          refine x_aload_n (pc := 57) d156_57 rfl ?_
          refine y_getr (pc := 58) d156_58 fk9_98 shL280 rfl ?_
          refine x_iload_n (pc := 61) d156_61 rfl ?_
          refine x_iconst (pc := 62) (v := (0)) d156_62 (by decide) ?_
          refine z_iast (pc := 63) d156_63 shL308 (by decide) h (fun s9 h => ?_)
          refine x_aload_n (pc := 64) d156_64 rfl ?_
          refine y_getr (pc := 65) d156_65 fk9_101 shL280 rfl ?_
          refine x_iload_n (pc := 68) d156_68 rfl ?_
          refine x_lconst (pc := 69) (v := (0)) d156_69 (by decide) ?_
          refine z_last (pc := 70) d156_70 shL309 (by decide) h (fun s10 h => ?_)
          refine x_aload_n (pc := 71) d156_71 rfl ?_
          refine y_getr (pc := 72) d156_72 fk9_107 shL280 rfl ?_
          refine x_iload_n (pc := 75) d156_75 rfl ?_
          refine x_iconst (pc := 76) (v := (0)) d156_76 (by decide) ?_
          refine z_iast (pc := 77) d156_77 shL311 (by decide) h (fun s11 h => ?_)
          refine x_aload_n (pc := 78) d156_78 rfl ?_
          refine y_getr (pc := 79) d156_79 fk9_134 shL280 rfl ?_
          refine x_iload_n (pc := 82) d156_82 rfl ?_
          refine x_iconst (pc := 83) (v := (0)) d156_83 (by decide) ?_
          refine z_iast (pc := 84) d156_84 shL320 (by decide) h (fun s12 h => ?_)
          refine x_aload_n (pc := 85) d156_85 rfl ?_
          refine y_getr (pc := 86) d156_86 fk9_149 shL280 rfl ?_
          refine x_iload_n (pc := 89) d156_89 rfl ?_
          refine x_iconst (pc := 90) (v := (0)) d156_90 (by decide) ?_
          refine z_iast (pc := 91) d156_91 shL325 (by decide) h (fun s13 h => ?_)
          refine x_iconst (pc := 92) (v := (0)) d156_92 (by decide) ?_
          refine x_istore_n (pc := 93) d156_93 (by decide) ?_
          refine wp_lv (lv' := [(0, .ref 280), (1, .int a0), (3, .int (0 : Int32))]) ⟨rfl, rfl, rfl, trivial⟩ ?_
          exact t_r_start_94 20 a0 (0 : Int32) s13 h
        · skip
          refine x_iconst (pc := 29) (v := (-1)) d156_29 (by decide) ?_
          exact z_iret (pc := 30) d156_30 rfl h
def r_turn_25 (s : St) : Option (Int32 × St) := some ((-1 : Int32), s)
set_option maxRecDepth 100000 in
theorem t_r_turn_25 {r : Int32 × St} : ∀ (s : St), r_turn_25 s = some r → Wp (rmd 7 0 0) 158 (zi (fun v s1 => (v, s1) = r)) 0 0 25 [] [] (mk s) TT := by
  intro s h
  unfold r_turn_25 at h
  refine x_iconst (pc := 25) (v := (-1)) d158_25 (by decide) ?_
  exact z_iret (pc := 26) d158_26 rfl h
def r_turn (a0 : Int32) (s : St) : Option (Int32 × St) := cal2 (r_isThread a0 s) fun v2 s1 => if v2 = 0 then (r_turn_25 s1) else (grd (ib a0 7) (s1.1 240 0 a0.toNatClampNeg) fun v3 => if v3 = (1 : Int32) then (cal2 (r_turnOnce a0 s1) fun v5 s4 => some (v5, s4)) else (r_turn_25 s1))
set_option maxRecDepth 100000 in
theorem t_r_turn (a0 : Int32) (s : St) (r : Int32 × St) (h : r_turn a0 s = some r) : Ri 7 158 [.ref 280, .int a0] s (fun v s1 => (v, s1) = r) := by
  refine ct_of (by decide +kernel) (Nat.le_of_ble_eq_true rfl) ?_
  show Wp _ _ _ _ _ _ [(0, .ref 280), (1, .int a0)] _ _ _
  unfold r_turn at h
  refine x_iload_n (pc := 0) d158_0 rfl ?_
  refine z_cS1i (pc := 1) d158_1 ml9_419 mv157 (t_r_isThread a0 s) (by decide) (Nat.le_of_ble_eq_true rfl) ⟨Nat.zero_le _, Nat.zero_le _⟩ h (fun v2 s1 h => ?_)
  refine z_if_eq (pc := 4) (tgt := 25) d158_4 (by decide) h (fun h => ?_) (fun h => ?_)
  · skip
    refine wp_lv (lv' := []) trivial ?_
    exact t_r_turn_25 s1 h
  · skip
    refine x_aload_n (pc := 7) d158_7 rfl ?_
    refine y_getr (pc := 8) d158_8 fk9_89 shL280 rfl ?_
    refine x_iload_n (pc := 11) d158_11 rfl ?_
    refine z_iald (pc := 12) d158_12 shL305 (by decide) h (fun v3 h => ?_)
    refine x_iconst (pc := 13) (v := (1)) d158_13 (by decide) ?_
    refine z_icmp_ne (pc := 14) (tgt := 25) d158_14 (by decide) h (fun h => ?_) (fun h => ?_)
    · skip
      refine wp_lv (lv' := []) trivial ?_
      exact t_r_turn_25 s1 h
    · skip
      refine x_aload_n (pc := 17) d158_17 rfl ?_
      refine x_iload_n (pc := 18) d158_18 rfl ?_
      refine z_cV1i (pc := 19) d158_19 ml9_422 mv159 shL280 (t_r_turnOnce a0 s1) (by decide) (Nat.le_of_ble_eq_true rfl) ⟨Nat.zero_le _, Nat.zero_le _⟩ h (fun v5 s4 h => ?_)
      refine x_goto (pc := 22) (tgt := 26) d158_22 (by decide) ?_
      exact z_iret (pc := 26) d158_26 rfl h
def r_play_87 (K22 : Int32 → Int64 → Int32 → Int32 → St → Option (Int32 × St)) (x3 : Int32) (x4 : Int64) (x6 : Int32) (x7 : Int32) (s : St) : Option (Int32 × St) := K22 x3 x4 x6 (x7 + (1 : Int32)) s
set_option maxRecDepth 100000 in
theorem t_r_play_87 {r : Int32 × St} (K22 : Int32 → Int64 → Int32 → Int32 → St → Option (Int32 × St)) (hK22 : ∀ (x3 : Int32) (x4 : Int64) (x6 : Int32) (x7 : Int32) (s : St), K22 x3 x4 x6 x7 s = some r → Wp (rmd 7 0 0) 177 (zi (fun v s1 => (v, s1) = r)) 0 0 22 [(0, .ref 280), (3, .int x3), (4, .long x4), (6, .int x6), (7, .int x7)] [] (mk s) TT) : ∀ (x3 : Int32) (x4 : Int64) (x6 : Int32) (x7 : Int32) (s : St), r_play_87 K22 x3 x4 x6 x7 s = some r → Wp (rmd 7 0 0) 177 (zi (fun v s1 => (v, s1) = r)) 0 0 87 [(0, .ref 280), (3, .int x3), (4, .long x4), (6, .int x6), (7, .int x7)] [] (mk s) TT := by
  intro x3 x4 x6 x7 s h
  unfold r_play_87 at h
  refine y_inc (pc := 87) (c := (1)) d177_87 (by decide) (by decide) rfl ?_
  refine x_goto (pc := 90) (tgt := 22) d177_90 (by decide) ?_
  refine wp_lv (lv' := [(0, .ref 280), (3, .int x3), (4, .long x4), (6, .int x6), (7, .int (x7 + (1 : Int32)))]) ⟨rfl, rfl, rfl, rfl, rfl, trivial⟩ ?_
  exact hK22 x3 x4 x6 (x7 + (1 : Int32)) s h
def r_play_84 (K22 : Int32 → Int64 → Int32 → Int32 → St → Option (Int32 × St)) (x3 : Int32) (x4 : Int64) (x7 : Int32) (y0 : Int32) (y1 : Int32) (s : St) : Option (Int32 × St) := r_play_87 K22 x3 x4 (y1 + y0) x7 s
set_option maxRecDepth 100000 in
theorem t_r_play_84 {r : Int32 × St} (K22 : Int32 → Int64 → Int32 → Int32 → St → Option (Int32 × St)) (hK22 : ∀ (x3 : Int32) (x4 : Int64) (x6 : Int32) (x7 : Int32) (s : St), K22 x3 x4 x6 x7 s = some r → Wp (rmd 7 0 0) 177 (zi (fun v s1 => (v, s1) = r)) 0 0 22 [(0, .ref 280), (3, .int x3), (4, .long x4), (6, .int x6), (7, .int x7)] [] (mk s) TT) : ∀ (x3 : Int32) (x4 : Int64) (x7 : Int32) (y0 : Int32) (y1 : Int32) (s : St), r_play_84 K22 x3 x4 x7 y0 y1 s = some r → Wp (rmd 7 0 0) 177 (zi (fun v s1 => (v, s1) = r)) 0 0 84 [(0, .ref 280), (3, .int x3), (4, .long x4), (7, .int x7)] [.int y0, .int y1] (mk s) TT := by
  intro x3 x4 x7 y0 y1 s h
  unfold r_play_84 at h
  refine x_iadd (pc := 84) d177_84 ?_
  refine x_istore (pc := 85) d177_85 (by decide) ?_
  refine wp_lv (lv' := [(0, .ref 280), (3, .int x3), (4, .long x4), (6, .int (y1 + y0)), (7, .int x7)]) ⟨rfl, rfl, rfl, rfl, rfl, trivial⟩ ?_
  exact t_r_play_87 K22 hK22 x3 x4 (y1 + y0) x7 s h
def r_play_22 : Nat → Int32 → Int64 → Int32 → Int32 → St → Option (Int32 × St)
  | 0, _, _, _, _, _ => none
  | n + 1, x3, x4, x6, x7, s => if x3 ≤ x7 then (some (x6, s)) else (cal2 (r_isThread (((((x4 * (6364136223846793005 : Int64)) + (1442695040888963407 : Int64)).toUInt64 >>> ((61 : Int32).toInt64.toUInt64 &&& Int64.toUInt64 63)).toInt64).toInt32) s) fun v2 s1 => if v2 = 0 then (r_play_87 (r_play_22 n) x3 ((x4 * (6364136223846793005 : Int64)) + (1442695040888963407 : Int64)) x6 x7 s1) else (grd (ib (((((x4 * (6364136223846793005 : Int64)) + (1442695040888963407 : Int64)).toUInt64 >>> ((61 : Int32).toInt64.toUInt64 &&& Int64.toUInt64 63)).toInt64).toInt32) 7) (s1.1 240 0 (((((x4 * (6364136223846793005 : Int64)) + (1442695040888963407 : Int64)).toUInt64 >>> ((61 : Int32).toInt64.toUInt64 &&& Int64.toUInt64 63)).toInt64).toInt32).toNatClampNeg) fun v3 => if v3 = (1 : Int32) then (cal2 (r_turnOnce (((((x4 * (6364136223846793005 : Int64)) + (1442695040888963407 : Int64)).toUInt64 >>> ((61 : Int32).toInt64.toUInt64 &&& Int64.toUInt64 63)).toInt64).toInt32) s1) fun v5 s4 => if (4 : Int32) ≤ v5 then (r_play_84 (r_play_22 n) x3 ((x4 * (6364136223846793005 : Int64)) + (1442695040888963407 : Int64)) x7 (0 : Int32) x6 s4) else (r_play_84 (r_play_22 n) x3 ((x4 * (6364136223846793005 : Int64)) + (1442695040888963407 : Int64)) x7 (1 : Int32) x6 s4)) else (r_play_87 (r_play_22 n) x3 ((x4 * (6364136223846793005 : Int64)) + (1442695040888963407 : Int64)) x6 x7 s1)))
set_option maxRecDepth 100000 in
theorem t_r_play_22 {r : Int32 × St} : ∀ (n : Nat) (x3 : Int32) (x4 : Int64) (x6 : Int32) (x7 : Int32) (s : St), r_play_22 n x3 x4 x6 x7 s = some r → Wp (rmd 7 0 0) 177 (zi (fun v s1 => (v, s1) = r)) 0 0 22 [(0, .ref 280), (3, .int x3), (4, .long x4), (6, .int x6), (7, .int x7)] [] (mk s) TT := by
  intro n
  induction n with
  | zero =>
    intro x3 x4 x6 x7 s h
    rw [r_play_22.eq_1] at h
    cases h
  | succ n ih =>
    intro x3 x4 x6 x7 s h
    rw [r_play_22.eq_2] at h
    refine x_iload (pc := 22) d177_22 rfl ?_
    refine x_iload_n (pc := 24) d177_24 rfl ?_
    refine z_icmp_ge (pc := 25) (tgt := 93) d177_25 (by decide) h (fun h => ?_) (fun h => ?_)
    · skip
      refine x_iload (pc := 93) d177_93 rfl ?_
      exact z_iret (pc := 95) d177_95 rfl h
    · skip
      refine x_lload (pc := 28) d177_28 rfl ?_
      refine x_ldc2 (pc := 30) (v := (6364136223846793005)) (gw_t (i := 1270) (by decide +kernel) (by decide +kernel)) d177_30 ?_
      refine x_lmul (pc := 33) d177_33 ?_
      refine x_ldc2 (pc := 34) (v := (1442695040888963407)) (gw_t (i := 1271) (by decide +kernel) (by decide +kernel)) d177_34 ?_
      refine x_ladd (pc := 37) d177_37 ?_
      refine x_lstore (pc := 38) d177_38 (by decide) ?_
      refine x_lload (pc := 40) d177_40 rfl ?_
      refine x_bipush (pc := 42) (v := (61)) d177_42 (by decide) ?_
      refine x_lushr (pc := 44) d177_44 ?_
      refine x_l2i (pc := 45) d177_45 ?_
      refine x_istore (pc := 46) d177_46 (by decide) ?_
      refine x_iload (pc := 48) d177_48 rfl ?_
      refine z_cS1i (pc := 50) d177_50 ml9_419 mv157 (t_r_isThread (((((x4 * (6364136223846793005 : Int64)) + (1442695040888963407 : Int64)).toUInt64 >>> ((61 : Int32).toInt64.toUInt64 &&& Int64.toUInt64 63)).toInt64).toInt32) s) (by decide) (Nat.le_of_ble_eq_true rfl) ⟨Nat.zero_le _, Nat.zero_le _⟩ h (fun v2 s1 h => ?_)
      refine z_if_eq (pc := 53) (tgt := 87) d177_53 (by decide) h (fun h => ?_) (fun h => ?_)
      · skip
        refine wp_lv (lv' := [(0, .ref 280), (3, .int x3), (4, .long ((x4 * (6364136223846793005 : Int64)) + (1442695040888963407 : Int64))), (6, .int x6), (7, .int x7)]) ⟨rfl, rfl, rfl, rfl, rfl, trivial⟩ ?_
        exact t_r_play_87 (r_play_22 n) ih x3 ((x4 * (6364136223846793005 : Int64)) + (1442695040888963407 : Int64)) x6 x7 s1 h
      · skip
        refine x_aload_n (pc := 56) d177_56 rfl ?_
        refine y_getr (pc := 57) d177_57 fk9_89 shL280 rfl ?_
        refine x_iload (pc := 60) d177_60 rfl ?_
        refine z_iald (pc := 62) d177_62 shL305 (by decide) h (fun v3 h => ?_)
        refine x_iconst (pc := 63) (v := (1)) d177_63 (by decide) ?_
        refine z_icmp_ne (pc := 64) (tgt := 87) d177_64 (by decide) h (fun h => ?_) (fun h => ?_)
        · skip
          refine wp_lv (lv' := [(0, .ref 280), (3, .int x3), (4, .long ((x4 * (6364136223846793005 : Int64)) + (1442695040888963407 : Int64))), (6, .int x6), (7, .int x7)]) ⟨rfl, rfl, rfl, rfl, rfl, trivial⟩ ?_
          exact t_r_play_87 (r_play_22 n) ih x3 ((x4 * (6364136223846793005 : Int64)) + (1442695040888963407 : Int64)) x6 x7 s1 h
        · skip
          refine x_iload (pc := 67) d177_67 rfl ?_
          refine x_aload_n (pc := 69) d177_69 rfl ?_
          refine x_iload (pc := 70) d177_70 rfl ?_
          refine z_cV1i (pc := 72) d177_72 ml9_422 mv159 shL280 (t_r_turnOnce (((((x4 * (6364136223846793005 : Int64)) + (1442695040888963407 : Int64)).toUInt64 >>> ((61 : Int32).toInt64.toUInt64 &&& Int64.toUInt64 63)).toInt64).toInt32) s1) (by decide) (Nat.le_of_ble_eq_true rfl) ⟨Nat.zero_le _, Nat.zero_le _⟩ h (fun v5 s4 h => ?_)
          refine x_iconst (pc := 75) (v := (4)) d177_75 (by decide) ?_
          refine z_icmp_ge (pc := 76) (tgt := 83) d177_76 (by decide) h (fun h => ?_) (fun h => ?_)
          · skip
            refine x_iconst (pc := 83) (v := (0)) d177_83 (by decide) ?_
            refine wp_lv (lv' := [(0, .ref 280), (3, .int x3), (4, .long ((x4 * (6364136223846793005 : Int64)) + (1442695040888963407 : Int64))), (7, .int x7)]) ⟨rfl, rfl, rfl, rfl, trivial⟩ ?_
            exact t_r_play_84 (r_play_22 n) ih x3 ((x4 * (6364136223846793005 : Int64)) + (1442695040888963407 : Int64)) x7 (0 : Int32) x6 s4 h
          · skip
            refine x_iconst (pc := 79) (v := (1)) d177_79 (by decide) ?_
            refine x_goto (pc := 80) (tgt := 84) d177_80 (by decide) ?_
            refine wp_lv (lv' := [(0, .ref 280), (3, .int x3), (4, .long ((x4 * (6364136223846793005 : Int64)) + (1442695040888963407 : Int64))), (7, .int x7)]) ⟨rfl, rfl, rfl, rfl, trivial⟩ ?_
            exact t_r_play_84 (r_play_22 n) ih x3 ((x4 * (6364136223846793005 : Int64)) + (1442695040888963407 : Int64)) x7 (1 : Int32) x6 s4 h
def r_play (a0 : Int64) (a1 : Int32) (s : St) : Option (Int32 × St) := if a1 < 0 then (some ((-1 : Int32), s)) else (if a1 ≤ (2000 : Int32) then (r_play_22 2100 a1 a0 (0 : Int32) (0 : Int32) s) else (some ((-1 : Int32), s)))
set_option maxRecDepth 100000 in
theorem t_r_play (a0 : Int64) (a1 : Int32) (s : St) (r : Int32 × St) (h : r_play a0 a1 s = some r) : Ri 7 177 [.ref 280, .long a0, .int a1] s (fun v s1 => (v, s1) = r) := by
  refine ct_of (by decide +kernel) (Nat.le_of_ble_eq_true rfl) ?_
  show Wp _ _ _ _ _ _ [(0, .ref 280), (1, .long a0), (3, .int a1)] _ _ _
  unfold r_play at h
  refine x_iload_n (pc := 0) d177_0 rfl ?_
  refine z_if_lt (pc := 1) (tgt := 11) d177_1 (by decide) h (fun h => ?_) (fun h => ?_)
  · skip
    refine x_iconst (pc := 11) (v := (-1)) d177_11 (by decide) ?_
    exact z_iret (pc := 12) d177_12 rfl h
  · skip
    refine x_iload_n (pc := 4) d177_4 rfl ?_
    refine x_sipush (pc := 5) (v := (2000)) d177_5 (by decide) ?_
    refine z_icmp_le (pc := 8) (tgt := 13) d177_8 (by decide) h (fun h => ?_) (fun h => ?_)
    · skip
      refine x_lload_n (pc := 13) d177_13 rfl ?_
      refine x_lstore (pc := 14) d177_14 (by decide) ?_
      refine x_iconst (pc := 16) (v := (0)) d177_16 (by decide) ?_
      refine x_istore (pc := 17) d177_17 (by decide) ?_
      refine x_iconst (pc := 19) (v := (0)) d177_19 (by decide) ?_
      refine x_istore (pc := 20) d177_20 (by decide) ?_
      refine wp_lv (lv' := [(0, .ref 280), (3, .int a1), (4, .long a0), (6, .int (0 : Int32)), (7, .int (0 : Int32))]) ⟨rfl, rfl, rfl, rfl, rfl, trivial⟩ ?_
      exact t_r_play_22 2100 a1 a0 (0 : Int32) (0 : Int32) s h
    · skip
      refine x_iconst (pc := 11) (v := (-1)) d177_11 (by decide) ?_
      exact z_iret (pc := 12) d177_12 rfl h
def r_hurl_60 (K25 : Int32 → Int64 → Int32 → Int32 → St → Option (Int32 × St)) (x1 : Int32) (x2 : Int64) (x5 : Int32) (y0 : Int32) (y1 : Int32) (s : St) : Option (Int32 × St) := K25 x1 x2 (y1 + y0) (x5 + (1 : Int32)) s
set_option maxRecDepth 100000 in
theorem t_r_hurl_60 {r : Int32 × St} (K25 : Int32 → Int64 → Int32 → Int32 → St → Option (Int32 × St)) (hK25 : ∀ (x1 : Int32) (x2 : Int64) (x4 : Int32) (x5 : Int32) (s : St), K25 x1 x2 x4 x5 s = some r → Wp (rmd 1 0 0) 178 (zi (fun v s1 => (v, s1) = r)) 0 0 25 [(0, .ref 280), (1, .int x1), (2, .long x2), (4, .int x4), (5, .int x5)] [] (mk s) TT) : ∀ (x1 : Int32) (x2 : Int64) (x5 : Int32) (y0 : Int32) (y1 : Int32) (s : St), r_hurl_60 K25 x1 x2 x5 y0 y1 s = some r → Wp (rmd 1 0 0) 178 (zi (fun v s1 => (v, s1) = r)) 0 0 60 [(0, .ref 280), (1, .int x1), (2, .long x2), (5, .int x5)] [.int y0, .int y1] (mk s) TT := by
  intro x1 x2 x5 y0 y1 s h
  unfold r_hurl_60 at h
  refine x_iadd (pc := 60) d178_60 ?_
  refine x_istore (pc := 61) d178_61 (by decide) ?_
  refine y_inc (pc := 63) (c := (1)) d178_63 (by decide) (by decide) rfl ?_
  refine x_goto (pc := 66) (tgt := 25) d178_66 (by decide) ?_
  refine wp_lv (lv' := [(0, .ref 280), (1, .int x1), (2, .long x2), (4, .int (y1 + y0)), (5, .int (x5 + (1 : Int32)))]) ⟨rfl, rfl, rfl, rfl, rfl, trivial⟩ ?_
  exact hK25 x1 x2 (y1 + y0) (x5 + (1 : Int32)) s h
def r_hurl_25 : Nat → Int32 → Int64 → Int32 → Int32 → St → Option (Int32 × St)
  | 0, _, _, _, _, _ => none
  | n + 1, x1, x2, x4, x5, s => grd (ib x1 7) (s.1 255 0 x1.toNatClampNeg) fun v4 => if v4 ≤ x5 then (if x4 = (8 : Int32) then (some ((-1 : Int32), s)) else (cal (r_toRow x1 (6 : Int32) x2 (-1 : Int32) (0 : Int32) s) fun s5 => grd (ib x1 7) (s5.1 255 0 x1.toNatClampNeg) fun v7 => some (v7, s5))) else (grd (ib (((32 : Int32) * x1) + x5) 224) (s.1 256 0 (((32 : Int32) * x1) + x5).toNatClampNeg) fun v8 => if v8 = (6 : Int32) then (r_hurl_60 (r_hurl_25 n) x1 x2 x5 (1 : Int32) x4 s) else (r_hurl_60 (r_hurl_25 n) x1 x2 x5 (0 : Int32) x4 s))
set_option maxRecDepth 100000 in
theorem t_r_hurl_25 {r : Int32 × St} : ∀ (n : Nat) (x1 : Int32) (x2 : Int64) (x4 : Int32) (x5 : Int32) (s : St), r_hurl_25 n x1 x2 x4 x5 s = some r → Wp (rmd 1 0 0) 178 (zi (fun v s1 => (v, s1) = r)) 0 0 25 [(0, .ref 280), (1, .int x1), (2, .long x2), (4, .int x4), (5, .int x5)] [] (mk s) TT := by
  intro n
  induction n with
  | zero =>
    intro x1 x2 x4 x5 s h
    rw [r_hurl_25.eq_1] at h
    cases h
  | succ n ih =>
    intro x1 x2 x4 x5 s h
    rw [r_hurl_25.eq_2] at h
    refine x_iload (pc := 25) d178_25 rfl ?_
    refine x_aload_n (pc := 27) d178_27 rfl ?_
    refine y_getr (pc := 28) d178_28 fk9_134 shL280 rfl ?_
    refine x_iload_n (pc := 31) d178_31 rfl ?_
    refine z_iald (pc := 32) d178_32 shL320 (by decide) h (fun v4 h => ?_)
    refine z_icmp_ge (pc := 33) (tgt := 69) d178_33 (by decide) h (fun h => ?_) (fun h => ?_)
    · skip
      refine x_iload (pc := 69) d178_69 rfl ?_
      refine x_bipush (pc := 71) (v := (8)) d178_71 (by decide) ?_
      refine z_icmp_ne (pc := 73) (tgt := 78) d178_73 (by decide) h (fun h => ?_) (fun h => ?_)
      · skip
        refine x_aload_n (pc := 78) d178_78 rfl ?_
        refine x_iload_n (pc := 79) d178_79 rfl ?_
        refine x_bipush (pc := 80) (v := (6)) d178_80 (by decide) ?_
        refine x_lload_n (pc := 82) d178_82 rfl ?_
        refine x_iconst (pc := 83) (v := (-1)) d178_83 (by decide) ?_
        refine x_iconst (pc := 84) (v := (0)) d178_84 (by decide) ?_
        refine z_cV5v (pc := 85) d178_85 ml9_386 mv161 shL280 (t_r_toRow x1 (6 : Int32) x2 (-1 : Int32) (0 : Int32) s) (by decide) (Nat.le_of_ble_eq_true rfl) ⟨Nat.zero_le _, Nat.zero_le _⟩ h (fun s5 h => ?_)
        refine x_aload_n (pc := 88) d178_88 rfl ?_
        refine y_getr (pc := 89) d178_89 fk9_134 shL280 rfl ?_
        refine x_iload_n (pc := 92) d178_92 rfl ?_
        refine z_iald (pc := 93) d178_93 shL320 (by decide) h (fun v7 h => ?_)
        exact z_iret (pc := 94) d178_94 rfl h
      · skip
        refine x_iconst (pc := 76) (v := (-1)) d178_76 (by decide) ?_
        exact z_iret (pc := 77) d178_77 rfl h
    · skip
      refine x_iload (pc := 36) d178_36 rfl ?_
      refine x_aload_n (pc := 38) d178_38 rfl ?_
      refine y_getr (pc := 39) d178_39 fk9_137 shL280 rfl ?_
      refine x_bipush (pc := 42) (v := (32)) d178_42 (by decide) ?_
      refine x_iload_n (pc := 44) d178_44 rfl ?_
      refine x_imul (pc := 45) d178_45 ?_
      refine x_iload (pc := 46) d178_46 rfl ?_
      refine x_iadd (pc := 48) d178_48 ?_
      refine z_iald (pc := 49) d178_49 shL321 (by decide) h (fun v8 h => ?_)
      refine x_bipush (pc := 50) (v := (6)) d178_50 (by decide) ?_
      refine z_icmp_ne (pc := 52) (tgt := 59) d178_52 (by decide) h (fun h => ?_) (fun h => ?_)
      · skip
        refine x_iconst (pc := 59) (v := (0)) d178_59 (by decide) ?_
        refine wp_lv (lv' := [(0, .ref 280), (1, .int x1), (2, .long x2), (5, .int x5)]) ⟨rfl, rfl, rfl, rfl, trivial⟩ ?_
        exact t_r_hurl_60 (r_hurl_25 n) ih x1 x2 x5 (0 : Int32) x4 s h
      · skip
        refine x_iconst (pc := 55) (v := (1)) d178_55 (by decide) ?_
        refine x_goto (pc := 56) (tgt := 60) d178_56 (by decide) ?_
        refine wp_lv (lv' := [(0, .ref 280), (1, .int x1), (2, .long x2), (5, .int x5)]) ⟨rfl, rfl, rfl, rfl, trivial⟩ ?_
        exact t_r_hurl_60 (r_hurl_25 n) ih x1 x2 x5 (1 : Int32) x4 s h
def r_hurl (a0 : Int32) (a1 : Int64) (s : St) : Option (Int32 × St) := cal2 (r_isThread a0 s) fun v2 s1 => if v2 = 0 then (some ((-1 : Int32), s1)) else (grd (ib a0 7) (s1.1 240 0 a0.toNatClampNeg) fun v3 => if v3 = (1 : Int32) then (r_hurl_25 40 a0 a1 (0 : Int32) (0 : Int32) s1) else (some ((-1 : Int32), s1)))
set_option maxRecDepth 100000 in
theorem t_r_hurl (a0 : Int32) (a1 : Int64) (s : St) (r : Int32 × St) (h : r_hurl a0 a1 s = some r) : Ri 1 178 [.ref 280, .int a0, .long a1] s (fun v s1 => (v, s1) = r) := by
  refine ct_of (by decide +kernel) (Nat.le_of_ble_eq_true rfl) ?_
  show Wp _ _ _ _ _ _ [(0, .ref 280), (1, .int a0), (2, .long a1)] _ _ _
  unfold r_hurl at h
  refine x_iload_n (pc := 0) d178_0 rfl ?_
  refine z_cS1i (pc := 1) d178_1 ml9_419 mv157 (t_r_isThread a0 s) (by decide) (Nat.le_of_ble_eq_true rfl) ⟨Nat.zero_le _, Nat.zero_le _⟩ h (fun v2 s1 h => ?_)
  refine z_if_eq (pc := 4) (tgt := 17) d178_4 (by decide) h (fun h => ?_) (fun h => ?_)
  · skip
    refine x_iconst (pc := 17) (v := (-1)) d178_17 (by decide) ?_
    exact z_iret (pc := 18) d178_18 rfl h
  · skip
    refine x_aload_n (pc := 7) d178_7 rfl ?_
    refine y_getr (pc := 8) d178_8 fk9_89 shL280 rfl ?_
    refine x_iload_n (pc := 11) d178_11 rfl ?_
    refine z_iald (pc := 12) d178_12 shL305 (by decide) h (fun v3 h => ?_)
    refine x_iconst (pc := 13) (v := (1)) d178_13 (by decide) ?_
    refine z_icmp_eq (pc := 14) (tgt := 19) d178_14 (by decide) h (fun h => ?_) (fun h => ?_)
    · skip
      refine x_iconst (pc := 19) (v := (0)) d178_19 (by decide) ?_
      refine x_istore (pc := 20) d178_20 (by decide) ?_
      refine x_iconst (pc := 22) (v := (0)) d178_22 (by decide) ?_
      refine x_istore (pc := 23) d178_23 (by decide) ?_
      refine wp_lv (lv' := [(0, .ref 280), (1, .int a0), (2, .long a1), (4, .int (0 : Int32)), (5, .int (0 : Int32))]) ⟨rfl, rfl, rfl, rfl, rfl, trivial⟩ ?_
      exact t_r_hurl_25 40 a0 a1 (0 : Int32) (0 : Int32) s1 h
    · skip
      refine x_iconst (pc := 17) (v := (-1)) d178_17 (by decide) ?_
      exact z_iret (pc := 18) d178_18 rfl h
def r_thread_219 (x4 : Int32) (s : St) : Option (Int32 × St) := some (x4, s)
set_option maxRecDepth 100000 in
theorem t_r_thread_219 {r : Int32 × St} : ∀ (x4 : Int32) (s : St), r_thread_219 x4 s = some r → Wp (rmd 1 0 0) 183 (zi (fun v s1 => (v, s1) = r)) 0 0 219 [(4, .int x4)] [] (mk s) TT := by
  intro x4 s h
  unfold r_thread_219 at h
  refine x_iload (pc := 219) d183_219 rfl ?_
  refine x_goto (pc := 221) (tgt := 225) d183_221 (by decide) ?_
  exact z_iret (pc := 225) d183_225 rfl h
def r_thread_209 (x2 : Int32) (x4 : Int32) (s : St) : Option (Int32 × St) := if x2 = (5 : Int32) then (r_thread_219 x4 s) else (if x4 = 0 then (r_thread_219 x4 s) else (some ((1 : Int32), s)))
set_option maxRecDepth 100000 in
theorem t_r_thread_209 {r : Int32 × St} : ∀ (x2 : Int32) (x4 : Int32) (s : St), r_thread_209 x2 x4 s = some r → Wp (rmd 1 0 0) 183 (zi (fun v s1 => (v, s1) = r)) 0 0 209 [(2, .int x2), (4, .int x4)] [] (mk s) TT := by
  intro x2 x4 s h
  unfold r_thread_209 at h
  refine x_iload_n (pc := 209) d183_209 rfl ?_
  refine x_iconst (pc := 210) (v := (5)) d183_210 (by decide) ?_
  refine z_icmp_eq (pc := 211) (tgt := 219) d183_211 (by decide) h (fun h => ?_) (fun h => ?_)
  · skip
    refine wp_lv (lv' := [(4, .int x4)]) ⟨rfl, trivial⟩ ?_
    exact t_r_thread_219 x4 s h
  · skip
    refine x_iload (pc := 214) d183_214 rfl ?_
    refine z_if_ne (pc := 216) (tgt := 224) d183_216 (by decide) h (fun h => ?_) (fun h => ?_)
    · skip
      refine x_iconst (pc := 224) (v := (1)) d183_224 (by decide) ?_
      exact z_iret (pc := 225) d183_225 rfl h
    · skip
      refine wp_lv (lv' := [(4, .int x4)]) ⟨rfl, trivial⟩ ?_
      exact t_r_thread_219 x4 s h
def r_thread_200 (K129 : Int32 → Int32 → Int32 → Int32 → Int32 → St → Option (Int32 × St)) (x1 : Int32) (x2 : Int32) (x3 : Int32) (x5 : Int32) (y0 : Int32) (y1 : Int32) (s : St) : Option (Int32 × St) := K129 x1 x2 x3 (y1 + y0) (x5 + (1 : Int32)) s
set_option maxRecDepth 100000 in
theorem t_r_thread_200 {r : Int32 × St} (K129 : Int32 → Int32 → Int32 → Int32 → Int32 → St → Option (Int32 × St)) (hK129 : ∀ (x1 : Int32) (x2 : Int32) (x3 : Int32) (x4 : Int32) (x5 : Int32) (s : St), K129 x1 x2 x3 x4 x5 s = some r → Wp (rmd 1 0 0) 183 (zi (fun v s1 => (v, s1) = r)) 0 0 129 [(0, .ref 280), (1, .int x1), (2, .int x2), (3, .int x3), (4, .int x4), (5, .int x5)] [] (mk s) TT) : ∀ (x1 : Int32) (x2 : Int32) (x3 : Int32) (x5 : Int32) (y0 : Int32) (y1 : Int32) (s : St), r_thread_200 K129 x1 x2 x3 x5 y0 y1 s = some r → Wp (rmd 1 0 0) 183 (zi (fun v s1 => (v, s1) = r)) 0 0 200 [(0, .ref 280), (1, .int x1), (2, .int x2), (3, .int x3), (5, .int x5)] [.int y0, .int y1] (mk s) TT := by
  intro x1 x2 x3 x5 y0 y1 s h
  unfold r_thread_200 at h
  refine x_iadd (pc := 200) d183_200 ?_
  refine x_istore (pc := 201) d183_201 (by decide) ?_
  refine y_inc (pc := 203) (c := (1)) d183_203 (by decide) (by decide) rfl ?_
  refine x_goto (pc := 206) (tgt := 129) d183_206 (by decide) ?_
  refine wp_lv (lv' := [(0, .ref 280), (1, .int x1), (2, .int x2), (3, .int x3), (4, .int (y1 + y0)), (5, .int (x5 + (1 : Int32)))]) ⟨rfl, rfl, rfl, rfl, rfl, rfl, trivial⟩ ?_
  exact hK129 x1 x2 x3 (y1 + y0) (x5 + (1 : Int32)) s h
def r_thread_199 (K129 : Int32 → Int32 → Int32 → Int32 → Int32 → St → Option (Int32 × St)) (x1 : Int32) (x2 : Int32) (x3 : Int32) (x5 : Int32) (y0 : Int32) (s : St) : Option (Int32 × St) := r_thread_200 K129 x1 x2 x3 x5 (0 : Int32) y0 s
set_option maxRecDepth 100000 in
theorem t_r_thread_199 {r : Int32 × St} (K129 : Int32 → Int32 → Int32 → Int32 → Int32 → St → Option (Int32 × St)) (hK129 : ∀ (x1 : Int32) (x2 : Int32) (x3 : Int32) (x4 : Int32) (x5 : Int32) (s : St), K129 x1 x2 x3 x4 x5 s = some r → Wp (rmd 1 0 0) 183 (zi (fun v s1 => (v, s1) = r)) 0 0 129 [(0, .ref 280), (1, .int x1), (2, .int x2), (3, .int x3), (4, .int x4), (5, .int x5)] [] (mk s) TT) : ∀ (x1 : Int32) (x2 : Int32) (x3 : Int32) (x5 : Int32) (y0 : Int32) (s : St), r_thread_199 K129 x1 x2 x3 x5 y0 s = some r → Wp (rmd 1 0 0) 183 (zi (fun v s1 => (v, s1) = r)) 0 0 199 [(0, .ref 280), (1, .int x1), (2, .int x2), (3, .int x3), (5, .int x5)] [.int y0] (mk s) TT := by
  intro x1 x2 x3 x5 y0 s h
  unfold r_thread_199 at h
  refine x_iconst (pc := 199) (v := (0)) d183_199 (by decide) ?_
  refine wp_lv (lv' := [(0, .ref 280), (1, .int x1), (2, .int x2), (3, .int x3), (5, .int x5)]) ⟨rfl, rfl, rfl, rfl, rfl, trivial⟩ ?_
  exact t_r_thread_200 K129 hK129 x1 x2 x3 x5 (0 : Int32) y0 s h
def r_thread_195 (K129 : Int32 → Int32 → Int32 → Int32 → Int32 → St → Option (Int32 × St)) (x1 : Int32) (x2 : Int32) (x3 : Int32) (x5 : Int32) (y0 : Int32) (s : St) : Option (Int32 × St) := r_thread_200 K129 x1 x2 x3 x5 (1 : Int32) y0 s
set_option maxRecDepth 100000 in
theorem t_r_thread_195 {r : Int32 × St} (K129 : Int32 → Int32 → Int32 → Int32 → Int32 → St → Option (Int32 × St)) (hK129 : ∀ (x1 : Int32) (x2 : Int32) (x3 : Int32) (x4 : Int32) (x5 : Int32) (s : St), K129 x1 x2 x3 x4 x5 s = some r → Wp (rmd 1 0 0) 183 (zi (fun v s1 => (v, s1) = r)) 0 0 129 [(0, .ref 280), (1, .int x1), (2, .int x2), (3, .int x3), (4, .int x4), (5, .int x5)] [] (mk s) TT) : ∀ (x1 : Int32) (x2 : Int32) (x3 : Int32) (x5 : Int32) (y0 : Int32) (s : St), r_thread_195 K129 x1 x2 x3 x5 y0 s = some r → Wp (rmd 1 0 0) 183 (zi (fun v s1 => (v, s1) = r)) 0 0 195 [(0, .ref 280), (1, .int x1), (2, .int x2), (3, .int x3), (5, .int x5)] [.int y0] (mk s) TT := by
  intro x1 x2 x3 x5 y0 s h
  unfold r_thread_195 at h
  refine x_iconst (pc := 195) (v := (1)) d183_195 (by decide) ?_
  refine x_goto (pc := 196) (tgt := 200) d183_196 (by decide) ?_
  refine wp_lv (lv' := [(0, .ref 280), (1, .int x1), (2, .int x2), (3, .int x3), (5, .int x5)]) ⟨rfl, rfl, rfl, rfl, rfl, trivial⟩ ?_
  exact t_r_thread_200 K129 hK129 x1 x2 x3 x5 (1 : Int32) y0 s h
def r_thread_129 : Nat → Int32 → Int32 → Int32 → Int32 → Int32 → St → Option (Int32 × St)
  | 0, _, _, _, _, _, _ => none
  | n + 1, x1, x2, x3, x4, x5, s => grd (ib x1 7) (s.1 246 0 x1.toNatClampNeg) fun v9 => if v9 ≤ x5 then (r_thread_209 x2 x4 s) else (if x3 = 0 then (r_thread_209 x2 x4 s) else (if x2 = (5 : Int32) then (grd (ib (((9 : Int32) * x1) + x5) 63) (s.2 250 0 (((9 : Int32) * x1) + x5).toNatClampNeg) fun v11 => if v11 < (0 : Int64) then (r_thread_199 (r_thread_129 n) x1 x2 x3 x5 x4 s) else (grd (ib (((9 : Int32) * x1) + x5) 63) (s.1 251 0 (((9 : Int32) * x1) + x5).toNatClampNeg) fun v12 => if v12 = 0 then (r_thread_195 (r_thread_129 n) x1 x2 x3 x5 x4 s) else (r_thread_199 (r_thread_129 n) x1 x2 x3 x5 x4 s))) else (grd (ib (((9 : Int32) * x1) + x5) 63) (s.1 252 0 (((9 : Int32) * x1) + x5).toNatClampNeg) fun v10 => if v10 ≤ 0 then (r_thread_199 (r_thread_129 n) x1 x2 x3 x5 x4 s) else (r_thread_195 (r_thread_129 n) x1 x2 x3 x5 x4 s))))
set_option maxRecDepth 100000 in
theorem t_r_thread_129 {r : Int32 × St} : ∀ (n : Nat) (x1 : Int32) (x2 : Int32) (x3 : Int32) (x4 : Int32) (x5 : Int32) (s : St), r_thread_129 n x1 x2 x3 x4 x5 s = some r → Wp (rmd 1 0 0) 183 (zi (fun v s1 => (v, s1) = r)) 0 0 129 [(0, .ref 280), (1, .int x1), (2, .int x2), (3, .int x3), (4, .int x4), (5, .int x5)] [] (mk s) TT := by
  intro n
  induction n with
  | zero =>
    intro x1 x2 x3 x4 x5 s h
    rw [r_thread_129.eq_1] at h
    cases h
  | succ n ih =>
    intro x1 x2 x3 x4 x5 s h
    rw [r_thread_129.eq_2] at h
    refine x_iload (pc := 129) d183_129 rfl ?_
    refine x_aload_n (pc := 131) d183_131 rfl ?_
    refine y_getr (pc := 132) d183_132 fk9_107 shL280 rfl ?_
    refine x_iload_n (pc := 135) d183_135 rfl ?_
    refine z_iald (pc := 136) d183_136 shL311 (by decide) h (fun v9 h => ?_)
    refine z_icmp_ge (pc := 137) (tgt := 209) d183_137 (by decide) h (fun h => ?_) (fun h => ?_)
    · skip
      refine wp_lv (lv' := [(2, .int x2), (4, .int x4)]) ⟨rfl, rfl, trivial⟩ ?_
      exact t_r_thread_209 x2 x4 s h
    · skip
      refine x_iload_n (pc := 140) d183_140 rfl ?_
      refine z_if_eq (pc := 141) (tgt := 209) d183_141 (by decide) h (fun h => ?_) (fun h => ?_)
      · skip
        refine wp_lv (lv' := [(2, .int x2), (4, .int x4)]) ⟨rfl, rfl, trivial⟩ ?_
        exact t_r_thread_209 x2 x4 s h
      · skip
        refine x_bipush (pc := 144) (v := (9)) d183_144 (by decide) ?_
        refine x_iload_n (pc := 146) d183_146 rfl ?_
        refine x_imul (pc := 147) d183_147 ?_
        refine x_iload (pc := 148) d183_148 rfl ?_
        refine x_iadd (pc := 150) d183_150 ?_
        refine x_istore (pc := 151) d183_151 (by decide) ?_
        refine x_iload (pc := 153) d183_153 rfl ?_
        refine x_iload_n (pc := 155) d183_155 rfl ?_
        refine x_iconst (pc := 156) (v := (5)) d183_156 (by decide) ?_
        refine z_icmp_ne (pc := 157) (tgt := 185) d183_157 (by decide) h (fun h => ?_) (fun h => ?_)
        · skip
          refine x_aload_n (pc := 185) d183_185 rfl ?_
          refine y_getr (pc := 186) d183_186 fk9_125 shL280 rfl ?_
          refine x_iload (pc := 189) d183_189 rfl ?_
          refine z_iald (pc := 191) d183_191 shL317 (by decide) h (fun v10 h => ?_)
          refine z_if_le (pc := 192) (tgt := 199) d183_192 (by decide) h (fun h => ?_) (fun h => ?_)
          · skip
            refine wp_lv (lv' := [(0, .ref 280), (1, .int x1), (2, .int x2), (3, .int x3), (5, .int x5)]) ⟨rfl, rfl, rfl, rfl, rfl, trivial⟩ ?_
            exact t_r_thread_199 (r_thread_129 n) ih x1 x2 x3 x5 x4 s h
          · skip
            refine wp_lv (lv' := [(0, .ref 280), (1, .int x1), (2, .int x2), (3, .int x3), (5, .int x5)]) ⟨rfl, rfl, rfl, rfl, rfl, trivial⟩ ?_
            exact t_r_thread_195 (r_thread_129 n) ih x1 x2 x3 x5 x4 s h
        · skip
          refine x_aload_n (pc := 160) d183_160 rfl ?_
          refine y_getr (pc := 161) d183_161 fk9_119 shL280 rfl ?_
          refine x_iload (pc := 164) d183_164 rfl ?_
          refine z_lald (pc := 166) d183_166 shL315 (by decide) h (fun v11 h => ?_)
          refine x_lconst (pc := 167) (v := (0)) d183_167 (by decide) ?_
          refine z_lif_lt (pc := 168) (tgt := 199) d183_168 d183_169 (by decide) h (fun h => ?_) (fun h => ?_)
          · skip
            refine wp_lv (lv' := [(0, .ref 280), (1, .int x1), (2, .int x2), (3, .int x3), (5, .int x5)]) ⟨rfl, rfl, rfl, rfl, rfl, trivial⟩ ?_
            exact t_r_thread_199 (r_thread_129 n) ih x1 x2 x3 x5 x4 s h
          · skip
            refine x_aload_n (pc := 172) d183_172 rfl ?_
            refine y_getr (pc := 173) d183_173 fk9_122 shL280 rfl ?_
            refine x_iload (pc := 176) d183_176 rfl ?_
            refine z_zald (pc := 178) d183_178 shL316 (by decide) h (fun v12 h => ?_)
            refine z_if_ne (pc := 179) (tgt := 199) d183_179 (by decide) h (fun h => ?_) (fun h => ?_)
            · skip
              refine wp_lv (lv' := [(0, .ref 280), (1, .int x1), (2, .int x2), (3, .int x3), (5, .int x5)]) ⟨rfl, rfl, rfl, rfl, rfl, trivial⟩ ?_
              exact t_r_thread_199 (r_thread_129 n) ih x1 x2 x3 x5 x4 s h
            · skip
              refine x_goto (pc := 182) (tgt := 195) d183_182 (by decide) ?_
              refine wp_lv (lv' := [(0, .ref 280), (1, .int x1), (2, .int x2), (3, .int x3), (5, .int x5)]) ⟨rfl, rfl, rfl, rfl, rfl, trivial⟩ ?_
              exact t_r_thread_195 (r_thread_129 n) ih x1 x2 x3 x5 x4 s h
def r_thread_34 (x1 : Int32) (x2 : Int32) (y0 : Int32) (s : St) : Option (Int32 × St) := if x2 = 0 then (grd (ib x1 7) (s.1 240 0 x1.toNatClampNeg) fun v4 => some (v4, s)) else if x2 = 1 then (if y0 = 0 then (some ((0 : Int32), s)) else (grd (ib x1 7) (s.1 242 0 x1.toNatClampNeg) fun v5 => some (v5, s))) else if x2 = 2 then (grd (ib x1 7) (s.1 243 0 x1.toNatClampNeg) fun v6 => some (v6, s)) else if x2 = 3 then (grd (ib x1 7) (s.1 255 0 x1.toNatClampNeg) fun v7 => some (v7, s)) else if x2 = 4 then (if y0 = 0 then (some ((0 : Int32), s)) else (grd (ib x1 7) (s.1 246 0 x1.toNatClampNeg) fun v8 => some (v8, s))) else (r_thread_129 40 x1 x2 y0 (0 : Int32) (0 : Int32) s)
set_option maxRecDepth 100000 in
theorem t_r_thread_34 {r : Int32 × St} : ∀ (x1 : Int32) (x2 : Int32) (y0 : Int32) (s : St), r_thread_34 x1 x2 y0 s = some r → Wp (rmd 1 0 0) 183 (zi (fun v s1 => (v, s1) = r)) 0 0 34 [(0, .ref 280), (1, .int x1), (2, .int x2)] [.int y0] (mk s) TT := by
  intro x1 x2 y0 s h
  unfold r_thread_34 at h
  refine x_istore_n (pc := 34) d183_34 (by decide) ?_
  refine x_iload_n (pc := 35) d183_35 rfl ?_
  by_cases hk0 : x2 = 0
  · replace h := ip hk0 h
    refine x_tableIn (pc := 36) (tgt := 72) (off := 36) d183_36 (by rw [hk0]; decide) (by rw [hk0]; decide) (by rw [hk0]; decide) (by decide) ?_
    refine x_aload_n (pc := 72) d183_72 rfl ?_
    refine y_getr (pc := 73) d183_73 fk9_89 shL280 rfl ?_
    refine x_iload_n (pc := 76) d183_76 rfl ?_
    refine z_iald (pc := 77) d183_77 shL305 (by decide) h (fun v4 h => ?_)
    exact z_iret (pc := 78) d183_78 rfl h
  replace h := im hk0 h
  by_cases hk1 : x2 = 1
  · replace h := ip hk1 h
    refine x_tableIn (pc := 36) (tgt := 79) (off := 43) d183_36 (by rw [hk1]; decide) (by rw [hk1]; decide) (by rw [hk1]; decide) (by decide) ?_
    refine x_iload_n (pc := 79) d183_79 rfl ?_
    refine z_if_eq (pc := 80) (tgt := 92) d183_80 (by decide) h (fun h => ?_) (fun h => ?_)
    · skip
      refine x_iconst (pc := 92) (v := (0)) d183_92 (by decide) ?_
      exact z_iret (pc := 93) d183_93 rfl h
    · skip
      refine x_aload_n (pc := 83) d183_83 rfl ?_
      refine y_getr (pc := 84) d183_84 fk9_95 shL280 rfl ?_
      refine x_iload_n (pc := 87) d183_87 rfl ?_
      refine z_iald (pc := 88) d183_88 shL307 (by decide) h (fun v5 h => ?_)
      refine x_goto (pc := 89) (tgt := 93) d183_89 (by decide) ?_
      exact z_iret (pc := 93) d183_93 rfl h
  replace h := im hk1 h
  by_cases hk2 : x2 = 2
  · replace h := ip hk2 h
    refine x_tableIn (pc := 36) (tgt := 94) (off := 58) d183_36 (by rw [hk2]; decide) (by rw [hk2]; decide) (by rw [hk2]; decide) (by decide) ?_
    refine x_aload_n (pc := 94) d183_94 rfl ?_
    refine y_getr (pc := 95) d183_95 fk9_98 shL280 rfl ?_
    refine x_iload_n (pc := 98) d183_98 rfl ?_
    refine z_iald (pc := 99) d183_99 shL308 (by decide) h (fun v6 h => ?_)
    exact z_iret (pc := 100) d183_100 rfl h
  replace h := im hk2 h
  by_cases hk3 : x2 = 3
  · replace h := ip hk3 h
    refine x_tableIn (pc := 36) (tgt := 101) (off := 65) d183_36 (by rw [hk3]; decide) (by rw [hk3]; decide) (by rw [hk3]; decide) (by decide) ?_
    refine x_aload_n (pc := 101) d183_101 rfl ?_
    refine y_getr (pc := 102) d183_102 fk9_134 shL280 rfl ?_
    refine x_iload_n (pc := 105) d183_105 rfl ?_
    refine z_iald (pc := 106) d183_106 shL320 (by decide) h (fun v7 h => ?_)
    exact z_iret (pc := 107) d183_107 rfl h
  replace h := im hk3 h
  by_cases hk4 : x2 = 4
  · replace h := ip hk4 h
    refine x_tableIn (pc := 36) (tgt := 108) (off := 72) d183_36 (by rw [hk4]; decide) (by rw [hk4]; decide) (by rw [hk4]; decide) (by decide) ?_
    refine x_iload_n (pc := 108) d183_108 rfl ?_
    refine z_if_eq (pc := 109) (tgt := 121) d183_109 (by decide) h (fun h => ?_) (fun h => ?_)
    · skip
      refine x_iconst (pc := 121) (v := (0)) d183_121 (by decide) ?_
      exact z_iret (pc := 122) d183_122 rfl h
    · skip
      refine x_aload_n (pc := 112) d183_112 rfl ?_
      refine y_getr (pc := 113) d183_113 fk9_107 shL280 rfl ?_
      refine x_iload_n (pc := 116) d183_116 rfl ?_
      refine z_iald (pc := 117) d183_117 shL311 (by decide) h (fun v8 h => ?_)
      refine x_goto (pc := 118) (tgt := 122) d183_118 (by decide) ?_
      exact z_iret (pc := 122) d183_122 rfl h
  replace h := im hk4 h
  have z0 : ¬ (x2).toInt = 0 := lv_neT hk0 (by decide)
  have z1 : ¬ (x2).toInt = 1 := lv_neT hk1 (by decide)
  have z2 : ¬ (x2).toInt = 2 := lv_neT hk2 (by decide)
  have z3 : ¬ (x2).toInt = 3 := lv_neT hk3 (by decide)
  have z4 : ¬ (x2).toInt = 4 := lv_neT hk4 (by decide)
  have hD : Wp (rmd 1 0 0) 183 (zi (fun v s1 => (v, s1) = r)) 0 0 123 [(0, .ref 280), (1, .int x1), (2, .int x2), (3, .int y0)] [] (mk s) TT := by
    refine x_iconst (pc := 123) (v := (0)) d183_123 (by decide) ?_
    refine x_istore (pc := 124) d183_124 (by decide) ?_
    refine x_iconst (pc := 126) (v := (0)) d183_126 (by decide) ?_
    refine x_istore (pc := 127) d183_127 (by decide) ?_
    refine wp_lv (lv' := [(0, .ref 280), (1, .int x1), (2, .int x2), (3, .int y0), (4, .int (0 : Int32)), (5, .int (0 : Int32))]) ⟨rfl, rfl, rfl, rfl, rfl, rfl, trivial⟩ ?_
    exact t_r_thread_129 40 x1 x2 y0 (0 : Int32) (0 : Int32) s h
  rcases (by omega : (x2).toInt < 0 ∨ 4 < (x2).toInt) with zz | zz
  · exact x_tableOut (pc := 36) (tgt := 123) d183_36 (Or.inl zz) (by decide) (wp_lv (lv' := [(0, .ref 280), (1, .int x1), (2, .int x2), (3, .int y0)]) ⟨rfl, rfl, rfl, rfl, trivial⟩ hD)
  · exact x_tableOut (pc := 36) (tgt := 123) d183_36 (Or.inr zz) (by decide) (wp_lv (lv' := [(0, .ref 280), (1, .int x1), (2, .int x2), (3, .int y0)]) ⟨rfl, rfl, rfl, rfl, trivial⟩ hD)
def r_thread (a0 : Int32) (a1 : Int32) (s : St) : Option (Int32 × St) := cal2 (r_isThread a0 s) fun v2 s1 => if v2 = 0 then (some ((-1 : Int32), s1)) else (if a1 < 0 then (some ((-1 : Int32), s1)) else (if a1 ≤ (6 : Int32) then (grd (ib a0 7) (s1.1 240 0 a0.toNatClampNeg) fun v3 => if v3 = (1 : Int32) then (r_thread_34 a0 a1 (1 : Int32) s1) else (r_thread_34 a0 a1 (0 : Int32) s1)) else (some ((-1 : Int32), s1))))
set_option maxRecDepth 100000 in
theorem t_r_thread (a0 : Int32) (a1 : Int32) (s : St) (r : Int32 × St) (h : r_thread a0 a1 s = some r) : Ri 1 183 [.ref 280, .int a0, .int a1] s (fun v s1 => (v, s1) = r) := by
  refine ct_of (by decide +kernel) (Nat.le_of_ble_eq_true rfl) ?_
  show Wp _ _ _ _ _ _ [(0, .ref 280), (1, .int a0), (2, .int a1)] _ _ _
  unfold r_thread at h
  refine x_iload_n (pc := 0) d183_0 rfl ?_
  refine z_cS1i (pc := 1) d183_1 ml9_419 mv157 (t_r_isThread a0 s) (by decide) (Nat.le_of_ble_eq_true rfl) ⟨Nat.zero_le _, Nat.zero_le _⟩ h (fun v2 s1 h => ?_)
  refine z_if_eq (pc := 4) (tgt := 17) d183_4 (by decide) h (fun h => ?_) (fun h => ?_)
  · skip
    refine x_iconst (pc := 17) (v := (-1)) d183_17 (by decide) ?_
    exact z_iret (pc := 18) d183_18 rfl h
  · skip
    refine x_iload_n (pc := 7) d183_7 rfl ?_
    refine z_if_lt (pc := 8) (tgt := 17) d183_8 (by decide) h (fun h => ?_) (fun h => ?_)
    · skip
      refine x_iconst (pc := 17) (v := (-1)) d183_17 (by decide) ?_
      exact z_iret (pc := 18) d183_18 rfl h
    · skip
      refine x_iload_n (pc := 11) d183_11 rfl ?_
      refine x_bipush (pc := 12) (v := (6)) d183_12 (by decide) ?_
      refine z_icmp_le (pc := 14) (tgt := 19) d183_14 (by decide) h (fun h => ?_) (fun h => ?_)
      · skip
        refine x_aload_n (pc := 19) d183_19 rfl ?_
        refine y_getr (pc := 20) d183_20 fk9_89 shL280 rfl ?_
        refine x_iload_n (pc := 23) d183_23 rfl ?_
        refine z_iald (pc := 24) d183_24 shL305 (by decide) h (fun v3 h => ?_)
        refine x_iconst (pc := 25) (v := (1)) d183_25 (by decide) ?_
        refine z_icmp_ne (pc := 26) (tgt := 33) d183_26 (by decide) h (fun h => ?_) (fun h => ?_)
        · skip
          refine x_iconst (pc := 33) (v := (0)) d183_33 (by decide) ?_
          refine wp_lv (lv' := [(0, .ref 280), (1, .int a0), (2, .int a1)]) ⟨rfl, rfl, rfl, trivial⟩ ?_
          exact t_r_thread_34 a0 a1 (0 : Int32) s1 h
        · skip
          refine x_iconst (pc := 29) (v := (1)) d183_29 (by decide) ?_
          refine x_goto (pc := 30) (tgt := 34) d183_30 (by decide) ?_
          refine wp_lv (lv' := [(0, .ref 280), (1, .int a0), (2, .int a1)]) ⟨rfl, rfl, rfl, trivial⟩ ?_
          exact t_r_thread_34 a0 a1 (1 : Int32) s1 h
      · skip
        refine x_iconst (pc := 17) (v := (-1)) d183_17 (by decide) ?_
        exact z_iret (pc := 18) d183_18 rfl h
def r_copyToSpare_189 : Nat → Int32 → Int32 → St → Option (St)
  | 0, _, _, _ => none
  | n + 1, x1, x2, s => grd (ib x1 7) (s.1 255 0 x1.toNatClampNeg) fun v10 => if v10 ≤ x2 then (some s) else (grd (ib (((32 : Int32) * x1) + x2) 224) (s.1 256 0 (((32 : Int32) * x1) + x2).toNatClampNeg) fun v11 => grd (ib ((192 : Int32) + x2) 224) (si s 256 0 ((192 : Int32) + x2).toNatClampNeg v11) fun s12 => grd (ib (((32 : Int32) * x1) + x2) 224) (s12.2 257 0 (((32 : Int32) * x1) + x2).toNatClampNeg) fun v13 => grd (ib ((192 : Int32) + x2) 224) (sl s12 257 0 ((192 : Int32) + x2).toNatClampNeg v13) fun s14 => grd (ib (((32 : Int32) * x1) + x2) 224) (s14.1 258 0 (((32 : Int32) * x1) + x2).toNatClampNeg) fun v15 => grd (ib ((192 : Int32) + x2) 224) (si s14 258 0 ((192 : Int32) + x2).toNatClampNeg v15) fun s16 => grd (ib (((32 : Int32) * x1) + x2) 224) (s16.1 259 0 (((32 : Int32) * x1) + x2).toNatClampNeg) fun v17 => grd (ib ((192 : Int32) + x2) 224) (si s16 259 0 ((192 : Int32) + x2).toNatClampNeg v17) fun s18 => r_copyToSpare_189 n x1 (x2 + (1 : Int32)) s18)
set_option maxRecDepth 100000 in
theorem t_r_copyToSpare_189 {r : St} : ∀ (n : Nat) (x1 : Int32) (x2 : Int32) (s : St), r_copyToSpare_189 n x1 x2 s = some r → Wp (rmd 0 0 0) 191 (zv (fun s1 => s1 = r)) 0 0 189 [(0, .ref 280), (1, .int x1), (2, .int x2)] [] (mk s) TT := by
  intro n
  induction n with
  | zero =>
    intro x1 x2 s h
    rw [r_copyToSpare_189.eq_1] at h
    cases h
  | succ n ih =>
    intro x1 x2 s h
    rw [r_copyToSpare_189.eq_2] at h
    refine x_iload_n (pc := 189) d191_189 rfl ?_
    refine x_aload_n (pc := 190) d191_190 rfl ?_
    refine y_getr (pc := 191) d191_191 fk9_134 shL280 rfl ?_
    refine x_iload_n (pc := 194) d191_194 rfl ?_
    refine z_iald (pc := 195) d191_195 shL320 (by decide) h (fun v10 h => ?_)
    refine z_icmp_ge (pc := 196) (tgt := 271) d191_196 (by decide) h (fun h => ?_) (fun h => ?_)
    · skip
      exact z_vret (pc := 271) d191_271 rfl h
    · skip
      refine x_bipush (pc := 199) (v := (32)) d191_199 (by decide) ?_
      refine x_iload_n (pc := 201) d191_201 rfl ?_
      refine x_imul (pc := 202) d191_202 ?_
      refine x_iload_n (pc := 203) d191_203 rfl ?_
      refine x_iadd (pc := 204) d191_204 ?_
      refine x_istore_n (pc := 205) d191_205 (by decide) ?_
      refine x_sipush (pc := 206) (v := (192)) d191_206 (by decide) ?_
      refine x_iload_n (pc := 209) d191_209 rfl ?_
      refine x_iadd (pc := 210) d191_210 ?_
      refine x_istore (pc := 211) d191_211 (by decide) ?_
      refine x_aload_n (pc := 213) d191_213 rfl ?_
      refine y_getr (pc := 214) d191_214 fk9_137 shL280 rfl ?_
      refine x_iload (pc := 217) d191_217 rfl ?_
      refine x_aload_n (pc := 219) d191_219 rfl ?_
      refine y_getr (pc := 220) d191_220 fk9_137 shL280 rfl ?_
      refine x_iload_n (pc := 223) d191_223 rfl ?_
      refine z_iald (pc := 224) d191_224 shL321 (by decide) h (fun v11 h => ?_)
      refine z_iast (pc := 225) d191_225 shL321 (by decide) h (fun s12 h => ?_)
      refine x_aload_n (pc := 226) d191_226 rfl ?_
      refine y_getr (pc := 227) d191_227 fk9_140 shL280 rfl ?_
      refine x_iload (pc := 230) d191_230 rfl ?_
      refine x_aload_n (pc := 232) d191_232 rfl ?_
      refine y_getr (pc := 233) d191_233 fk9_140 shL280 rfl ?_
      refine x_iload_n (pc := 236) d191_236 rfl ?_
      refine z_lald (pc := 237) d191_237 shL322 (by decide) h (fun v13 h => ?_)
      refine z_last (pc := 238) d191_238 shL322 (by decide) h (fun s14 h => ?_)
      refine x_aload_n (pc := 239) d191_239 rfl ?_
      refine y_getr (pc := 240) d191_240 fk9_143 shL280 rfl ?_
      refine x_iload (pc := 243) d191_243 rfl ?_
      refine x_aload_n (pc := 245) d191_245 rfl ?_
      refine y_getr (pc := 246) d191_246 fk9_143 shL280 rfl ?_
      refine x_iload_n (pc := 249) d191_249 rfl ?_
      refine z_iald (pc := 250) d191_250 shL323 (by decide) h (fun v15 h => ?_)
      refine z_iast (pc := 251) d191_251 shL323 (by decide) h (fun s16 h => ?_)
      refine x_aload_n (pc := 252) d191_252 rfl ?_
      refine y_getr (pc := 253) d191_253 fk9_146 shL280 rfl ?_
      refine x_iload (pc := 256) d191_256 rfl ?_
      refine x_aload_n (pc := 258) d191_258 rfl ?_
      refine y_getr (pc := 259) d191_259 fk9_146 shL280 rfl ?_
      refine x_iload_n (pc := 262) d191_262 rfl ?_
      refine z_iald (pc := 263) d191_263 shL324 (by decide) h (fun v17 h => ?_)
      refine z_iast (pc := 264) d191_264 shL324 (by decide) h (fun s18 h => ?_)
      refine y_inc (pc := 265) (c := (1)) d191_265 (by decide) (by decide) rfl ?_
      refine x_goto (pc := 268) (tgt := 189) d191_268 (by decide) ?_
      refine wp_lv (lv' := [(0, .ref 280), (1, .int x1), (2, .int (x2 + (1 : Int32)))]) ⟨rfl, rfl, rfl, trivial⟩ ?_
      exact ih x1 (x2 + (1 : Int32)) s18 h
def r_copyToSpare_54 : Nat → Int32 → Int32 → St → Option (St)
  | 0, _, _, _ => none
  | n + 1, x1, x2, s => grd (ib x1 7) (s.1 246 0 x1.toNatClampNeg) fun v9 => if v9 ≤ x2 then (r_copyToSpare_189 40 x1 (0 : Int32) s) else (grd (ib (((9 : Int32) * x1) + x2) 63) (s.1 247 0 (((9 : Int32) * x1) + x2).toNatClampNeg) fun v19 => grd (ib ((54 : Int32) + x2) 63) (si s 247 0 ((54 : Int32) + x2).toNatClampNeg v19) fun s20 => grd (ib (((9 : Int32) * x1) + x2) 63) (s20.1 248 0 (((9 : Int32) * x1) + x2).toNatClampNeg) fun v21 => grd (ib ((54 : Int32) + x2) 63) (si s20 248 0 ((54 : Int32) + x2).toNatClampNeg v21) fun s22 => grd (ib (((9 : Int32) * x1) + x2) 63) (s22.1 249 0 (((9 : Int32) * x1) + x2).toNatClampNeg) fun v23 => grd (ib ((54 : Int32) + x2) 63) (si s22 249 0 ((54 : Int32) + x2).toNatClampNeg v23) fun s24 => grd (ib (((9 : Int32) * x1) + x2) 63) (s24.2 250 0 (((9 : Int32) * x1) + x2).toNatClampNeg) fun v25 => grd (ib ((54 : Int32) + x2) 63) (sl s24 250 0 ((54 : Int32) + x2).toNatClampNeg v25) fun s26 => grd (ib (((9 : Int32) * x1) + x2) 63) (s26.1 251 0 (((9 : Int32) * x1) + x2).toNatClampNeg) fun v27 => grd (ib ((54 : Int32) + x2) 63 ∧ zo v27) (si s26 251 0 ((54 : Int32) + x2).toNatClampNeg v27) fun s28 => grd (ib (((9 : Int32) * x1) + x2) 63) (s28.1 252 0 (((9 : Int32) * x1) + x2).toNatClampNeg) fun v29 => grd (ib ((54 : Int32) + x2) 63) (si s28 252 0 ((54 : Int32) + x2).toNatClampNeg v29) fun s30 => grd (ib (((9 : Int32) * x1) + x2) 63) (s30.2 253 0 (((9 : Int32) * x1) + x2).toNatClampNeg) fun v31 => grd (ib ((54 : Int32) + x2) 63) (sl s30 253 0 ((54 : Int32) + x2).toNatClampNeg v31) fun s32 => grd (ib (((9 : Int32) * x1) + x2) 63) (s32.1 254 0 (((9 : Int32) * x1) + x2).toNatClampNeg) fun v33 => grd (ib ((54 : Int32) + x2) 63) (si s32 254 0 ((54 : Int32) + x2).toNatClampNeg v33) fun s34 => r_copyToSpare_54 n x1 (x2 + (1 : Int32)) s34)
set_option maxRecDepth 100000 in
theorem t_r_copyToSpare_54 {r : St} : ∀ (n : Nat) (x1 : Int32) (x2 : Int32) (s : St), r_copyToSpare_54 n x1 x2 s = some r → Wp (rmd 0 0 0) 191 (zv (fun s1 => s1 = r)) 0 0 54 [(0, .ref 280), (1, .int x1), (2, .int x2)] [] (mk s) TT := by
  intro n
  induction n with
  | zero =>
    intro x1 x2 s h
    rw [r_copyToSpare_54.eq_1] at h
    cases h
  | succ n ih =>
    intro x1 x2 s h
    rw [r_copyToSpare_54.eq_2] at h
    refine x_iload_n (pc := 54) d191_54 rfl ?_
    refine x_aload_n (pc := 55) d191_55 rfl ?_
    refine y_getr (pc := 56) d191_56 fk9_107 shL280 rfl ?_
    refine x_iload_n (pc := 59) d191_59 rfl ?_
    refine z_iald (pc := 60) d191_60 shL311 (by decide) h (fun v9 h => ?_)
    refine z_icmp_ge (pc := 61) (tgt := 187) d191_61 (by decide) h (fun h => ?_) (fun h => ?_)
    · skip
      refine x_iconst (pc := 187) (v := (0)) d191_187 (by decide) ?_
      refine x_istore_n (pc := 188) d191_188 (by decide) ?_
      refine wp_lv (lv' := [(0, .ref 280), (1, .int x1), (2, .int (0 : Int32))]) ⟨rfl, rfl, rfl, trivial⟩ ?_
      exact t_r_copyToSpare_189 40 x1 (0 : Int32) s h
    · skip
      refine x_bipush (pc := 64) (v := (9)) d191_64 (by decide) ?_
      refine x_iload_n (pc := 66) d191_66 rfl ?_
      refine x_imul (pc := 67) d191_67 ?_
      refine x_iload_n (pc := 68) d191_68 rfl ?_
      refine x_iadd (pc := 69) d191_69 ?_
      refine x_istore_n (pc := 70) d191_70 (by decide) ?_
      refine x_bipush (pc := 71) (v := (54)) d191_71 (by decide) ?_
      refine x_iload_n (pc := 73) d191_73 rfl ?_
      refine x_iadd (pc := 74) d191_74 ?_
      refine x_istore (pc := 75) d191_75 (by decide) ?_
      refine x_aload_n (pc := 77) d191_77 rfl ?_
      refine y_getr (pc := 78) d191_78 fk9_110 shL280 rfl ?_
      refine x_iload (pc := 81) d191_81 rfl ?_
      refine x_aload_n (pc := 83) d191_83 rfl ?_
      refine y_getr (pc := 84) d191_84 fk9_110 shL280 rfl ?_
      refine x_iload_n (pc := 87) d191_87 rfl ?_
      refine z_iald (pc := 88) d191_88 shL312 (by decide) h (fun v19 h => ?_)
      refine z_iast (pc := 89) d191_89 shL312 (by decide) h (fun s20 h => ?_)
      refine x_aload_n (pc := 90) d191_90 rfl ?_
      refine y_getr (pc := 91) d191_91 fk9_113 shL280 rfl ?_
      refine x_iload (pc := 94) d191_94 rfl ?_
      refine x_aload_n (pc := 96) d191_96 rfl ?_
      refine y_getr (pc := 97) d191_97 fk9_113 shL280 rfl ?_
      refine x_iload_n (pc := 100) d191_100 rfl ?_
      refine z_iald (pc := 101) d191_101 shL313 (by decide) h (fun v21 h => ?_)
      refine z_iast (pc := 102) d191_102 shL313 (by decide) h (fun s22 h => ?_)
      refine x_aload_n (pc := 103) d191_103 rfl ?_
      refine y_getr (pc := 104) d191_104 fk9_116 shL280 rfl ?_
      refine x_iload (pc := 107) d191_107 rfl ?_
      refine x_aload_n (pc := 109) d191_109 rfl ?_
      refine y_getr (pc := 110) d191_110 fk9_116 shL280 rfl ?_
      refine x_iload_n (pc := 113) d191_113 rfl ?_
      refine z_iald (pc := 114) d191_114 shL314 (by decide) h (fun v23 h => ?_)
      refine z_iast (pc := 115) d191_115 shL314 (by decide) h (fun s24 h => ?_)
      refine x_aload_n (pc := 116) d191_116 rfl ?_
      refine y_getr (pc := 117) d191_117 fk9_119 shL280 rfl ?_
      refine x_iload (pc := 120) d191_120 rfl ?_
      refine x_aload_n (pc := 122) d191_122 rfl ?_
      refine y_getr (pc := 123) d191_123 fk9_119 shL280 rfl ?_
      refine x_iload_n (pc := 126) d191_126 rfl ?_
      refine z_lald (pc := 127) d191_127 shL315 (by decide) h (fun v25 h => ?_)
      refine z_last (pc := 128) d191_128 shL315 (by decide) h (fun s26 h => ?_)
      refine x_aload_n (pc := 129) d191_129 rfl ?_
      refine y_getr (pc := 130) d191_130 fk9_122 shL280 rfl ?_
      refine x_iload (pc := 133) d191_133 rfl ?_
      refine x_aload_n (pc := 135) d191_135 rfl ?_
      refine y_getr (pc := 136) d191_136 fk9_122 shL280 rfl ?_
      refine x_iload_n (pc := 139) d191_139 rfl ?_
      refine z_zald (pc := 140) d191_140 shL316 (by decide) h (fun v27 h => ?_)
      refine z_zast (pc := 141) d191_141 shL316 (by decide) h (fun s28 h => ?_)
      refine x_aload_n (pc := 142) d191_142 rfl ?_
      refine y_getr (pc := 143) d191_143 fk9_125 shL280 rfl ?_
      refine x_iload (pc := 146) d191_146 rfl ?_
      refine x_aload_n (pc := 148) d191_148 rfl ?_
      refine y_getr (pc := 149) d191_149 fk9_125 shL280 rfl ?_
      refine x_iload_n (pc := 152) d191_152 rfl ?_
      refine z_iald (pc := 153) d191_153 shL317 (by decide) h (fun v29 h => ?_)
      refine z_iast (pc := 154) d191_154 shL317 (by decide) h (fun s30 h => ?_)
      refine x_aload_n (pc := 155) d191_155 rfl ?_
      refine y_getr (pc := 156) d191_156 fk9_128 shL280 rfl ?_
      refine x_iload (pc := 159) d191_159 rfl ?_
      refine x_aload_n (pc := 161) d191_161 rfl ?_
      refine y_getr (pc := 162) d191_162 fk9_128 shL280 rfl ?_
      refine x_iload_n (pc := 165) d191_165 rfl ?_
      refine z_lald (pc := 166) d191_166 shL318 (by decide) h (fun v31 h => ?_)
      refine z_last (pc := 167) d191_167 shL318 (by decide) h (fun s32 h => ?_)
      refine x_aload_n (pc := 168) d191_168 rfl ?_
      refine y_getr (pc := 169) d191_169 fk9_131 shL280 rfl ?_
      refine x_iload (pc := 172) d191_172 rfl ?_
      refine x_aload_n (pc := 174) d191_174 rfl ?_
      refine y_getr (pc := 175) d191_175 fk9_131 shL280 rfl ?_
      refine x_iload_n (pc := 178) d191_178 rfl ?_
      refine z_iald (pc := 179) d191_179 shL319 (by decide) h (fun v33 h => ?_)
      refine z_iast (pc := 180) d191_180 shL319 (by decide) h (fun s34 h => ?_)
      refine y_inc (pc := 181) (c := (1)) d191_181 (by decide) (by decide) rfl ?_
      refine x_goto (pc := 184) (tgt := 54) d191_184 (by decide) ?_
      refine wp_lv (lv' := [(0, .ref 280), (1, .int x1), (2, .int (x2 + (1 : Int32)))]) ⟨rfl, rfl, rfl, trivial⟩ ?_
      exact ih x1 (x2 + (1 : Int32)) s34 h
def r_copyToSpare (a0 : Int32) (s : St) : Option (St) := grd (ib a0 7) (s.1 241 0 a0.toNatClampNeg) fun v1 => grd (ib (6 : Int32) 7) (si s 241 0 (6 : Int32).toNatClampNeg v1) fun s2 => grd (ib a0 7) (s2.1 242 0 a0.toNatClampNeg) fun v3 => grd (ib (6 : Int32) 7) (si s2 242 0 (6 : Int32).toNatClampNeg v3) fun s4 => grd (ib a0 7) (s4.1 246 0 a0.toNatClampNeg) fun v5 => grd (ib (6 : Int32) 7) (si s4 246 0 (6 : Int32).toNatClampNeg v5) fun s6 => grd (ib a0 7) (s6.1 255 0 a0.toNatClampNeg) fun v7 => grd (ib (6 : Int32) 7) (si s6 255 0 (6 : Int32).toNatClampNeg v7) fun s8 => r_copyToSpare_54 40 a0 (0 : Int32) s8
set_option maxRecDepth 100000 in
theorem t_r_copyToSpare (a0 : Int32) (s : St) (r : St) (h : r_copyToSpare a0 s = some r) : Rv 0 191 [.ref 280, .int a0] s (fun s1 => s1 = r) := by
  refine ct_of (by decide +kernel) (Nat.le_of_ble_eq_true rfl) ?_
  show Wp _ _ _ _ _ _ [(0, .ref 280), (1, .int a0)] _ _ _
  unfold r_copyToSpare at h
  refine x_aload_n (pc := 0) d191_0 rfl ?_
  refine y_getr (pc := 1) d191_1 fk9_92 shL280 rfl ?_
  refine x_bipush (pc := 4) (v := (6)) d191_4 (by decide) ?_
  refine x_aload_n (pc := 6) d191_6 rfl ?_
  refine y_getr (pc := 7) d191_7 fk9_92 shL280 rfl ?_
  refine x_iload_n (pc := 10) d191_10 rfl ?_
  refine z_iald (pc := 11) d191_11 shL306 (by decide) h (fun v1 h => ?_)
  refine z_iast (pc := 12) d191_12 shL306 (by decide) h (fun s2 h => ?_)
  refine x_aload_n (pc := 13) d191_13 rfl ?_
  refine y_getr (pc := 14) d191_14 fk9_95 shL280 rfl ?_
  refine x_bipush (pc := 17) (v := (6)) d191_17 (by decide) ?_
  refine x_aload_n (pc := 19) d191_19 rfl ?_
  refine y_getr (pc := 20) d191_20 fk9_95 shL280 rfl ?_
  refine x_iload_n (pc := 23) d191_23 rfl ?_
  refine z_iald (pc := 24) d191_24 shL307 (by decide) h (fun v3 h => ?_)
  refine z_iast (pc := 25) d191_25 shL307 (by decide) h (fun s4 h => ?_)
  refine x_aload_n (pc := 26) d191_26 rfl ?_
  refine y_getr (pc := 27) d191_27 fk9_107 shL280 rfl ?_
  refine x_bipush (pc := 30) (v := (6)) d191_30 (by decide) ?_
  refine x_aload_n (pc := 32) d191_32 rfl ?_
  refine y_getr (pc := 33) d191_33 fk9_107 shL280 rfl ?_
  refine x_iload_n (pc := 36) d191_36 rfl ?_
  refine z_iald (pc := 37) d191_37 shL311 (by decide) h (fun v5 h => ?_)
  refine z_iast (pc := 38) d191_38 shL311 (by decide) h (fun s6 h => ?_)
  refine x_aload_n (pc := 39) d191_39 rfl ?_
  refine y_getr (pc := 40) d191_40 fk9_134 shL280 rfl ?_
  refine x_bipush (pc := 43) (v := (6)) d191_43 (by decide) ?_
  refine x_aload_n (pc := 45) d191_45 rfl ?_
  refine y_getr (pc := 46) d191_46 fk9_134 shL280 rfl ?_
  refine x_iload_n (pc := 49) d191_49 rfl ?_
  refine z_iald (pc := 50) d191_50 shL320 (by decide) h (fun v7 h => ?_)
  refine z_iast (pc := 51) d191_51 shL320 (by decide) h (fun s8 h => ?_)
  refine x_iconst (pc := 52) (v := (0)) d191_52 (by decide) ?_
  refine x_istore_n (pc := 53) d191_53 (by decide) ?_
  refine wp_lv (lv' := [(0, .ref 280), (1, .int a0), (2, .int (0 : Int32))]) ⟨rfl, rfl, rfl, trivial⟩ ?_
  exact t_r_copyToSpare_54 40 a0 (0 : Int32) s8 h
def r_wouldStep_204 (s : St) : Option (Int32 × St) := some ((1 : Int32), s)
set_option maxRecDepth 100000 in
theorem t_r_wouldStep_204 {r : Int32 × St} : ∀ (s : St), r_wouldStep_204 s = some r → Wp (rmd 3 0 0) 190 (zi (fun v s1 => (v, s1) = r)) 0 0 204 [] [] (mk s) TT := by
  intro s h
  unfold r_wouldStep_204 at h
  refine x_iconst (pc := 204) (v := (1)) d190_204 (by decide) ?_
  refine x_goto (pc := 205) (tgt := 209) d190_205 (by decide) ?_
  exact z_zretc (pc := 209) d190_209 rfl (Or.inr rfl) h
def r_wouldStep_208 (s : St) : Option (Int32 × St) := some ((0 : Int32), s)
set_option maxRecDepth 100000 in
theorem t_r_wouldStep_208 {r : Int32 × St} : ∀ (s : St), r_wouldStep_208 s = some r → Wp (rmd 3 0 0) 190 (zi (fun v s1 => (v, s1) = r)) 0 0 208 [] [] (mk s) TT := by
  intro s h
  unfold r_wouldStep_208 at h
  refine x_iconst (pc := 208) (v := (0)) d190_208 (by decide) ?_
  exact z_zretc (pc := 209) d190_209 rfl (Or.inl rfl) h
def r_wouldStep_179 (x3 : Int32) (s : St) : Option (Int32 × St) := if x3 = 0 then (r_wouldStep_204 s) else (grd (ib (6 : Int32) 7) (s.1 242 0 (6 : Int32).toNatClampNeg) fun v11 => if v11 = (1 : Int32) then (grd (ib (6 : Int32) 7) (s.1 255 0 (6 : Int32).toNatClampNeg) fun v12 => if v12 ≤ 0 then (r_wouldStep_208 s) else (r_wouldStep_204 s)) else (r_wouldStep_208 s))
set_option maxRecDepth 100000 in
theorem t_r_wouldStep_179 {r : Int32 × St} : ∀ (x3 : Int32) (s : St), r_wouldStep_179 x3 s = some r → Wp (rmd 3 0 0) 190 (zi (fun v s1 => (v, s1) = r)) 0 0 179 [(0, .ref 280), (3, .int x3)] [] (mk s) TT := by
  intro x3 s h
  unfold r_wouldStep_179 at h
  refine x_iload_n (pc := 179) d190_179 rfl ?_
  refine z_if_eq (pc := 180) (tgt := 204) d190_180 (by decide) h (fun h => ?_) (fun h => ?_)
  · skip
    refine wp_lv (lv' := []) trivial ?_
    exact t_r_wouldStep_204 s h
  · skip
    refine x_aload_n (pc := 183) d190_183 rfl ?_
    refine y_getr (pc := 184) d190_184 fk9_95 shL280 rfl ?_
    refine x_bipush (pc := 187) (v := (6)) d190_187 (by decide) ?_
    refine z_iald (pc := 189) d190_189 shL307 (by decide) h (fun v11 h => ?_)
    refine x_iconst (pc := 190) (v := (1)) d190_190 (by decide) ?_
    refine z_icmp_ne (pc := 191) (tgt := 208) d190_191 (by decide) h (fun h => ?_) (fun h => ?_)
    · skip
      refine wp_lv (lv' := []) trivial ?_
      exact t_r_wouldStep_208 s h
    · skip
      refine x_aload_n (pc := 194) d190_194 rfl ?_
      refine y_getr (pc := 195) d190_195 fk9_134 shL280 rfl ?_
      refine x_bipush (pc := 198) (v := (6)) d190_198 (by decide) ?_
      refine z_iald (pc := 200) d190_200 shL320 (by decide) h (fun v12 h => ?_)
      refine z_if_le (pc := 201) (tgt := 208) d190_201 (by decide) h (fun h => ?_) (fun h => ?_)
      · skip
        refine wp_lv (lv' := []) trivial ?_
        exact t_r_wouldStep_208 s h
      · skip
        refine wp_lv (lv' := []) trivial ?_
        exact t_r_wouldStep_204 s h
def r_wouldStep_178 (y0 : Int32) (s : St) : Option (Int32 × St) := r_wouldStep_179 y0 s
set_option maxRecDepth 100000 in
theorem t_r_wouldStep_178 {r : Int32 × St} : ∀ (y0 : Int32) (s : St), r_wouldStep_178 y0 s = some r → Wp (rmd 3 0 0) 190 (zi (fun v s1 => (v, s1) = r)) 0 0 178 [(0, .ref 280)] [.int y0] (mk s) TT := by
  intro y0 s h
  unfold r_wouldStep_178 at h
  refine x_istore_n (pc := 178) d190_178 (by decide) ?_
  refine wp_lv (lv' := [(0, .ref 280), (3, .int y0)]) ⟨rfl, rfl, trivial⟩ ?_
  exact t_r_wouldStep_179 y0 s h
def r_wouldStep_173 (s : St) : Option (Int32 × St) := r_wouldStep_178 (1 : Int32) s
set_option maxRecDepth 100000 in
theorem t_r_wouldStep_173 {r : Int32 × St} : ∀ (s : St), r_wouldStep_173 s = some r → Wp (rmd 3 0 0) 190 (zi (fun v s1 => (v, s1) = r)) 0 0 173 [(0, .ref 280)] [] (mk s) TT := by
  intro s h
  unfold r_wouldStep_173 at h
  refine x_iconst (pc := 173) (v := (1)) d190_173 (by decide) ?_
  refine x_goto (pc := 174) (tgt := 178) d190_174 (by decide) ?_
  refine wp_lv (lv' := [(0, .ref 280)]) ⟨rfl, trivial⟩ ?_
  exact t_r_wouldStep_178 (1 : Int32) s h
def r_wouldStep_108 (x1 : Int32) (x2 : Int32) (y0 : Int32) (s : St) : Option (Int32 × St) := grd (ib x2 480) (s.1 216 0 x2.toNatClampNeg) fun v10 => if v10 = (9 : Int32) then (grd (ib x2 480) (s.1 223 0 x2.toNatClampNeg) fun v13 => if v13 = x1 then (r_wouldStep_179 y0 s) else (grd (ib x2 480) (s.1 223 0 x2.toNatClampNeg) fun v14 => grd (ib v14 7) (s.1 240 0 v14.toNatClampNeg) fun v15 => if v15 = (1 : Int32) then (grd (ib x1 7) (s.1 261 0 x1.toNatClampNeg) fun v16 => if v16 = 0 then (r_wouldStep_173 s) else (grd (ib x2 480) (s.1 223 0 x2.toNatClampNeg) fun v17 => grd (ib x1 7) (s.1 261 0 x1.toNatClampNeg) fun v18 => cal2 (r_stands v17 v18 s) fun v20 s19 => if v20 = 0 then (r_wouldStep_178 (0 : Int32) s19) else (r_wouldStep_173 s19))) else (r_wouldStep_179 y0 s))) else (r_wouldStep_179 y0 s)
set_option maxRecDepth 100000 in
theorem t_r_wouldStep_108 {r : Int32 × St} : ∀ (x1 : Int32) (x2 : Int32) (y0 : Int32) (s : St), r_wouldStep_108 x1 x2 y0 s = some r → Wp (rmd 3 0 0) 190 (zi (fun v s1 => (v, s1) = r)) 0 0 108 [(0, .ref 280), (1, .int x1), (2, .int x2)] [.int y0] (mk s) TT := by
  intro x1 x2 y0 s h
  unfold r_wouldStep_108 at h
  refine x_istore_n (pc := 108) d190_108 (by decide) ?_
  refine x_aload_n (pc := 109) d190_109 rfl ?_
  refine y_getr (pc := 110) d190_110 fk9_33 shL280 rfl ?_
  refine x_iload_n (pc := 113) d190_113 rfl ?_
  refine z_iald (pc := 114) d190_114 shL287 (by decide) h (fun v10 h => ?_)
  refine x_bipush (pc := 115) (v := (9)) d190_115 (by decide) ?_
  refine z_icmp_ne (pc := 117) (tgt := 179) d190_117 (by decide) h (fun h => ?_) (fun h => ?_)
  · skip
    refine wp_lv (lv' := [(0, .ref 280), (3, .int y0)]) ⟨rfl, rfl, trivial⟩ ?_
    exact t_r_wouldStep_179 y0 s h
  · skip
    refine x_aload_n (pc := 120) d190_120 rfl ?_
    refine y_getr (pc := 121) d190_121 fk9_55 shL280 rfl ?_
    refine x_iload_n (pc := 124) d190_124 rfl ?_
    refine z_iald (pc := 125) d190_125 shL294 (by decide) h (fun v13 h => ?_)
    refine x_iload_n (pc := 126) d190_126 rfl ?_
    refine z_icmp_eq (pc := 127) (tgt := 179) d190_127 (by decide) h (fun h => ?_) (fun h => ?_)
    · skip
      refine wp_lv (lv' := [(0, .ref 280), (3, .int y0)]) ⟨rfl, rfl, trivial⟩ ?_
      exact t_r_wouldStep_179 y0 s h
    · skip
      refine x_aload_n (pc := 130) d190_130 rfl ?_
      refine y_getr (pc := 131) d190_131 fk9_89 shL280 rfl ?_
      refine x_aload_n (pc := 134) d190_134 rfl ?_
      refine y_getr (pc := 135) d190_135 fk9_55 shL280 rfl ?_
      refine x_iload_n (pc := 138) d190_138 rfl ?_
      refine z_iald (pc := 139) d190_139 shL294 (by decide) h (fun v14 h => ?_)
      refine z_iald (pc := 140) d190_140 shL305 (by decide) h (fun v15 h => ?_)
      refine x_iconst (pc := 141) (v := (1)) d190_141 (by decide) ?_
      refine z_icmp_ne (pc := 142) (tgt := 179) d190_142 (by decide) h (fun h => ?_) (fun h => ?_)
      · skip
        refine wp_lv (lv' := [(0, .ref 280), (3, .int y0)]) ⟨rfl, rfl, trivial⟩ ?_
        exact t_r_wouldStep_179 y0 s h
      · skip
        refine x_aload_n (pc := 145) d190_145 rfl ?_
        refine y_getr (pc := 146) d190_146 fk9_149 shL280 rfl ?_
        refine x_iload_n (pc := 149) d190_149 rfl ?_
        refine z_iald (pc := 150) d190_150 shL325 (by decide) h (fun v16 h => ?_)
        refine z_if_eq (pc := 151) (tgt := 173) d190_151 (by decide) h (fun h => ?_) (fun h => ?_)
        · skip
          refine wp_lv (lv' := [(0, .ref 280)]) ⟨rfl, trivial⟩ ?_
          exact t_r_wouldStep_173 s h
        · skip
          refine x_aload_n (pc := 154) d190_154 rfl ?_
          refine x_aload_n (pc := 155) d190_155 rfl ?_
          refine y_getr (pc := 156) d190_156 fk9_55 shL280 rfl ?_
          refine x_iload_n (pc := 159) d190_159 rfl ?_
          refine z_iald (pc := 160) d190_160 shL294 (by decide) h (fun v17 h => ?_)
          refine x_aload_n (pc := 161) d190_161 rfl ?_
          refine y_getr (pc := 162) d190_162 fk9_149 shL280 rfl ?_
          refine x_iload_n (pc := 165) d190_165 rfl ?_
          refine z_iald (pc := 166) d190_166 shL325 (by decide) h (fun v18 h => ?_)
          refine z_cV2i (pc := 167) d190_167 ml9_410 mv176 shL280 (t_r_stands v17 v18 s) (by decide) (Nat.le_of_ble_eq_true rfl) ⟨Nat.zero_le _, Nat.zero_le _⟩ h (fun v20 s19 h => ?_)
          refine z_if_eq (pc := 170) (tgt := 177) d190_170 (by decide) h (fun h => ?_) (fun h => ?_)
          · skip
            refine x_iconst (pc := 177) (v := (0)) d190_177 (by decide) ?_
            refine wp_lv (lv' := [(0, .ref 280)]) ⟨rfl, trivial⟩ ?_
            exact t_r_wouldStep_178 (0 : Int32) s19 h
          · skip
            refine wp_lv (lv' := [(0, .ref 280)]) ⟨rfl, trivial⟩ ?_
            exact t_r_wouldStep_173 s19 h
def r_wouldStep_107 (x1 : Int32) (x2 : Int32) (s : St) : Option (Int32 × St) := r_wouldStep_108 x1 x2 (0 : Int32) s
set_option maxRecDepth 100000 in
theorem t_r_wouldStep_107 {r : Int32 × St} : ∀ (x1 : Int32) (x2 : Int32) (s : St), r_wouldStep_107 x1 x2 s = some r → Wp (rmd 3 0 0) 190 (zi (fun v s1 => (v, s1) = r)) 0 0 107 [(0, .ref 280), (1, .int x1), (2, .int x2)] [] (mk s) TT := by
  intro x1 x2 s h
  unfold r_wouldStep_107 at h
  refine x_iconst (pc := 107) (v := (0)) d190_107 (by decide) ?_
  refine wp_lv (lv' := [(0, .ref 280), (1, .int x1), (2, .int x2)]) ⟨rfl, rfl, rfl, trivial⟩ ?_
  exact t_r_wouldStep_108 x1 x2 (0 : Int32) s h
def r_wouldStep_103 (x1 : Int32) (x2 : Int32) (s : St) : Option (Int32 × St) := r_wouldStep_108 x1 x2 (1 : Int32) s
set_option maxRecDepth 100000 in
theorem t_r_wouldStep_103 {r : Int32 × St} : ∀ (x1 : Int32) (x2 : Int32) (s : St), r_wouldStep_103 x1 x2 s = some r → Wp (rmd 3 0 0) 190 (zi (fun v s1 => (v, s1) = r)) 0 0 103 [(0, .ref 280), (1, .int x1), (2, .int x2)] [] (mk s) TT := by
  intro x1 x2 s h
  unfold r_wouldStep_103 at h
  refine x_iconst (pc := 103) (v := (1)) d190_103 (by decide) ?_
  refine x_goto (pc := 104) (tgt := 108) d190_104 (by decide) ?_
  refine wp_lv (lv' := [(0, .ref 280), (1, .int x1), (2, .int x2)]) ⟨rfl, rfl, rfl, trivial⟩ ?_
  exact t_r_wouldStep_108 x1 x2 (1 : Int32) s h
def r_wouldStep_78 (x1 : Int32) (x2 : Int32) (s : St) : Option (Int32 × St) := grd (ib x2 480) (s.1 216 0 x2.toNatClampNeg) fun v9 => if v9 = (6 : Int32) then (grd (ib x2 480) (s.1 222 0 x2.toNatClampNeg) fun v21 => grd (ib v21 8) (s.1 238 0 v21.toNatClampNeg) fun v22 => if v22 = 0 then (r_wouldStep_107 x1 x2 s) else (r_wouldStep_103 x1 x2 s)) else (r_wouldStep_107 x1 x2 s)
set_option maxRecDepth 100000 in
theorem t_r_wouldStep_78 {r : Int32 × St} : ∀ (x1 : Int32) (x2 : Int32) (s : St), r_wouldStep_78 x1 x2 s = some r → Wp (rmd 3 0 0) 190 (zi (fun v s1 => (v, s1) = r)) 0 0 78 [(0, .ref 280), (1, .int x1), (2, .int x2)] [] (mk s) TT := by
  intro x1 x2 s h
  unfold r_wouldStep_78 at h
  refine x_aload_n (pc := 78) d190_78 rfl ?_
  refine y_getr (pc := 79) d190_79 fk9_33 shL280 rfl ?_
  refine x_iload_n (pc := 82) d190_82 rfl ?_
  refine z_iald (pc := 83) d190_83 shL287 (by decide) h (fun v9 h => ?_)
  refine x_bipush (pc := 84) (v := (6)) d190_84 (by decide) ?_
  refine z_icmp_ne (pc := 86) (tgt := 107) d190_86 (by decide) h (fun h => ?_) (fun h => ?_)
  · skip
    refine wp_lv (lv' := [(0, .ref 280), (1, .int x1), (2, .int x2)]) ⟨rfl, rfl, rfl, trivial⟩ ?_
    exact t_r_wouldStep_107 x1 x2 s h
  · skip
    refine x_aload_n (pc := 89) d190_89 rfl ?_
    refine y_getr (pc := 90) d190_90 fk9_83 shL280 rfl ?_
    refine x_aload_n (pc := 93) d190_93 rfl ?_
    refine y_getr (pc := 94) d190_94 fk9_52 shL280 rfl ?_
    refine x_iload_n (pc := 97) d190_97 rfl ?_
    refine z_iald (pc := 98) d190_98 shL293 (by decide) h (fun v21 h => ?_)
    refine z_zald (pc := 99) d190_99 shL303 (by decide) h (fun v22 h => ?_)
    refine z_if_eq (pc := 100) (tgt := 107) d190_100 (by decide) h (fun h => ?_) (fun h => ?_)
    · skip
      refine wp_lv (lv' := [(0, .ref 280), (1, .int x1), (2, .int x2)]) ⟨rfl, rfl, rfl, trivial⟩ ?_
      exact t_r_wouldStep_107 x1 x2 s h
    · skip
      refine wp_lv (lv' := [(0, .ref 280), (1, .int x1), (2, .int x2)]) ⟨rfl, rfl, rfl, trivial⟩ ?_
      exact t_r_wouldStep_103 x1 x2 s h
def r_wouldStep_34 (x1 : Int32) (s : St) : Option (Int32 × St) := grd (ib (6 : Int32) 7) (s.1 241 0 (6 : Int32).toNatClampNeg) fun v6 => if 0 ≤ v6 then (grd (ib (6 : Int32) 7) (s.1 241 0 (6 : Int32).toNatClampNeg) fun v7 => grd (ib v7 480) (s.1 216 0 v7.toNatClampNeg) fun v8 => if v8 = (4 : Int32) then (grd (ib v7 480) (s.1 222 0 v7.toNatClampNeg) fun v23 => grd (ib v23 8) (s.1 238 0 v23.toNatClampNeg) fun v24 => if v24 = 0 then (r_wouldStep_103 x1 v7 s) else (r_wouldStep_78 x1 v7 s)) else (r_wouldStep_78 x1 v7 s)) else (some ((1 : Int32), s))
set_option maxRecDepth 100000 in
theorem t_r_wouldStep_34 {r : Int32 × St} : ∀ (x1 : Int32) (s : St), r_wouldStep_34 x1 s = some r → Wp (rmd 3 0 0) 190 (zi (fun v s1 => (v, s1) = r)) 0 0 34 [(0, .ref 280), (1, .int x1)] [] (mk s) TT := by
  intro x1 s h
  unfold r_wouldStep_34 at h
  refine x_aload_n (pc := 34) d190_34 rfl ?_
  refine y_getr (pc := 35) d190_35 fk9_92 shL280 rfl ?_
  refine x_bipush (pc := 38) (v := (6)) d190_38 (by decide) ?_
  refine z_iald (pc := 40) d190_40 shL306 (by decide) h (fun v6 h => ?_)
  refine z_if_ge (pc := 41) (tgt := 46) d190_41 (by decide) h (fun h => ?_) (fun h => ?_)
  · skip
    refine x_aload_n (pc := 46) d190_46 rfl ?_
    refine y_getr (pc := 47) d190_47 fk9_92 shL280 rfl ?_
    refine x_bipush (pc := 50) (v := (6)) d190_50 (by decide) ?_
    refine z_iald (pc := 52) d190_52 shL306 (by decide) h (fun v7 h => ?_)
    refine x_istore_n (pc := 53) d190_53 (by decide) ?_
    refine x_aload_n (pc := 54) d190_54 rfl ?_
    refine y_getr (pc := 55) d190_55 fk9_33 shL280 rfl ?_
    refine x_iload_n (pc := 58) d190_58 rfl ?_
    refine z_iald (pc := 59) d190_59 shL287 (by decide) h (fun v8 h => ?_)
    refine x_iconst (pc := 60) (v := (4)) d190_60 (by decide) ?_
    refine z_icmp_ne (pc := 61) (tgt := 78) d190_61 (by decide) h (fun h => ?_) (fun h => ?_)
    · skip
      refine wp_lv (lv' := [(0, .ref 280), (1, .int x1), (2, .int v7)]) ⟨rfl, rfl, rfl, trivial⟩ ?_
      exact t_r_wouldStep_78 x1 v7 s h
    · skip
      refine x_aload_n (pc := 64) d190_64 rfl ?_
      refine y_getr (pc := 65) d190_65 fk9_83 shL280 rfl ?_
      refine x_aload_n (pc := 68) d190_68 rfl ?_
      refine y_getr (pc := 69) d190_69 fk9_52 shL280 rfl ?_
      refine x_iload_n (pc := 72) d190_72 rfl ?_
      refine z_iald (pc := 73) d190_73 shL293 (by decide) h (fun v23 h => ?_)
      refine z_zald (pc := 74) d190_74 shL303 (by decide) h (fun v24 h => ?_)
      refine z_if_eq (pc := 75) (tgt := 103) d190_75 (by decide) h (fun h => ?_) (fun h => ?_)
      · skip
        refine wp_lv (lv' := [(0, .ref 280), (1, .int x1), (2, .int v7)]) ⟨rfl, rfl, rfl, trivial⟩ ?_
        exact t_r_wouldStep_103 x1 v7 s h
      · skip
        refine wp_lv (lv' := [(0, .ref 280), (1, .int x1), (2, .int v7)]) ⟨rfl, rfl, rfl, trivial⟩ ?_
        exact t_r_wouldStep_78 x1 v7 s h
  · skip
    refine x_iconst (pc := 44) (v := (1)) d190_44 (by decide) ?_
    exact z_zretc (pc := 45) d190_45 rfl (Or.inr rfl) h
def r_wouldStep (a0 : Int32) (s : St) : Option (Int32 × St) := cal (r_copyToSpare a0 s) fun s1 => cal2 (r_settle (6 : Int32) s1) fun v4 s3 => if v4 = 0 then (grd (ib (6 : Int32) 7) (s3.1 242 0 (6 : Int32).toNatClampNeg) fun v5 => if v5 = 0 then (grd (ib (6 : Int32) 7) (s3.1 255 0 (6 : Int32).toNatClampNeg) fun v25 => if 0 < v25 then (some ((1 : Int32), s3)) else (r_wouldStep_34 a0 s3)) else (r_wouldStep_34 a0 s3)) else (some ((1 : Int32), s3))
set_option maxRecDepth 100000 in
theorem t_r_wouldStep (a0 : Int32) (s : St) (r : Int32 × St) (h : r_wouldStep a0 s = some r) : Ri 3 190 [.ref 280, .int a0] s (fun v s1 => (v, s1) = r) := by
  refine ct_of (by decide +kernel) (Nat.le_of_ble_eq_true rfl) ?_
  show Wp _ _ _ _ _ _ [(0, .ref 280), (1, .int a0)] _ _ _
  unfold r_wouldStep at h
  refine x_aload_n (pc := 0) d190_0 rfl ?_
  refine x_iload_n (pc := 1) d190_1 rfl ?_
  refine z_cV1v (pc := 2) d190_2 ml9_435 mv191 shL280 (t_r_copyToSpare a0 s) (by decide) (Nat.le_of_ble_eq_true rfl) ⟨Nat.zero_le _, Nat.zero_le _⟩ h (fun s1 h => ?_)
  refine x_aload_n (pc := 5) d190_5 rfl ?_
  refine x_bipush (pc := 6) (v := (6)) d190_6 (by decide) ?_
  refine z_cV1i (pc := 8) d190_8 ml9_393 mv163 shL280 (t_r_settle (6 : Int32) s1) (by decide) (Nat.le_of_ble_eq_true rfl) ⟨Nat.zero_le _, Nat.zero_le _⟩ h (fun v4 s3 h => ?_)
  refine z_if_ne (pc := 11) (tgt := 44) d190_11 (by decide) h (fun h => ?_) (fun h => ?_)
  · skip
    refine x_iconst (pc := 44) (v := (1)) d190_44 (by decide) ?_
    exact z_zretc (pc := 45) d190_45 rfl (Or.inr rfl) h
  · skip
    refine x_aload_n (pc := 14) d190_14 rfl ?_
    refine y_getr (pc := 15) d190_15 fk9_95 shL280 rfl ?_
    refine x_bipush (pc := 18) (v := (6)) d190_18 (by decide) ?_
    refine z_iald (pc := 20) d190_20 shL307 (by decide) h (fun v5 h => ?_)
    refine z_if_ne (pc := 21) (tgt := 34) d190_21 (by decide) h (fun h => ?_) (fun h => ?_)
    · skip
      refine wp_lv (lv' := [(0, .ref 280), (1, .int a0)]) ⟨rfl, rfl, trivial⟩ ?_
      exact t_r_wouldStep_34 a0 s3 h
    · skip
      refine x_aload_n (pc := 24) d190_24 rfl ?_
      refine y_getr (pc := 25) d190_25 fk9_134 shL280 rfl ?_
      refine x_bipush (pc := 28) (v := (6)) d190_28 (by decide) ?_
      refine z_iald (pc := 30) d190_30 shL320 (by decide) h (fun v25 h => ?_)
      refine z_if_gt (pc := 31) (tgt := 44) d190_31 (by decide) h (fun h => ?_) (fun h => ?_)
      · skip
        refine x_iconst (pc := 44) (v := (1)) d190_44 (by decide) ?_
        exact z_zretc (pc := 45) d190_45 rfl (Or.inr rfl) h
      · skip
        refine wp_lv (lv' := [(0, .ref 280), (1, .int a0)]) ⟨rfl, rfl, trivial⟩ ?_
        exact t_r_wouldStep_34 a0 s3 h
def r_stuck_28 (K2 : Int32 → St → Option (Int32 × St)) (x1 : Int32) (s : St) : Option (Int32 × St) := K2 (x1 + (1 : Int32)) s
set_option maxRecDepth 100000 in
theorem t_r_stuck_28 {r : Int32 × St} (K2 : Int32 → St → Option (Int32 × St)) (hK2 : ∀ (x1 : Int32) (s : St), K2 x1 s = some r → Wp (rmd 4 0 0) 189 (zi (fun v s1 => (v, s1) = r)) 0 0 2 [(0, .ref 280), (1, .int x1)] [] (mk s) TT) : ∀ (x1 : Int32) (s : St), r_stuck_28 K2 x1 s = some r → Wp (rmd 4 0 0) 189 (zi (fun v s1 => (v, s1) = r)) 0 0 28 [(0, .ref 280), (1, .int x1)] [] (mk s) TT := by
  intro x1 s h
  unfold r_stuck_28 at h
  refine y_inc (pc := 28) (c := (1)) d189_28 (by decide) (by decide) rfl ?_
  refine x_goto (pc := 31) (tgt := 2) d189_31 (by decide) ?_
  refine wp_lv (lv' := [(0, .ref 280), (1, .int (x1 + (1 : Int32)))]) ⟨rfl, rfl, trivial⟩ ?_
  exact hK2 (x1 + (1 : Int32)) s h
def r_stuck_2 : Nat → Int32 → St → Option (Int32 × St)
  | 0, _, _ => none
  | n + 1, x1, s => if (6 : Int32) ≤ x1 then (some ((1 : Int32), s)) else (grd (ib x1 7) (s.1 240 0 x1.toNatClampNeg) fun v1 => if v1 = (1 : Int32) then (cal2 (r_wouldStep x1 s) fun v3 s2 => if v3 = 0 then (r_stuck_28 (r_stuck_2 n) x1 s2) else (some ((0 : Int32), s2))) else (r_stuck_28 (r_stuck_2 n) x1 s))
set_option maxRecDepth 100000 in
theorem t_r_stuck_2 {r : Int32 × St} : ∀ (n : Nat) (x1 : Int32) (s : St), r_stuck_2 n x1 s = some r → Wp (rmd 4 0 0) 189 (zi (fun v s1 => (v, s1) = r)) 0 0 2 [(0, .ref 280), (1, .int x1)] [] (mk s) TT := by
  intro n
  induction n with
  | zero =>
    intro x1 s h
    rw [r_stuck_2.eq_1] at h
    cases h
  | succ n ih =>
    intro x1 s h
    rw [r_stuck_2.eq_2] at h
    refine x_iload_n (pc := 2) d189_2 rfl ?_
    refine x_bipush (pc := 3) (v := (6)) d189_3 (by decide) ?_
    refine z_icmp_ge (pc := 5) (tgt := 34) d189_5 (by decide) h (fun h => ?_) (fun h => ?_)
    · skip
      refine x_iconst (pc := 34) (v := (1)) d189_34 (by decide) ?_
      exact z_iret (pc := 35) d189_35 rfl h
    · skip
      refine x_aload_n (pc := 8) d189_8 rfl ?_
      refine y_getr (pc := 9) d189_9 fk9_89 shL280 rfl ?_
      refine x_iload_n (pc := 12) d189_12 rfl ?_
      refine z_iald (pc := 13) d189_13 shL305 (by decide) h (fun v1 h => ?_)
      refine x_iconst (pc := 14) (v := (1)) d189_14 (by decide) ?_
      refine z_icmp_ne (pc := 15) (tgt := 28) d189_15 (by decide) h (fun h => ?_) (fun h => ?_)
      · skip
        refine wp_lv (lv' := [(0, .ref 280), (1, .int x1)]) ⟨rfl, rfl, trivial⟩ ?_
        exact t_r_stuck_28 (r_stuck_2 n) ih x1 s h
      · skip
        refine x_aload_n (pc := 18) d189_18 rfl ?_
        refine x_iload_n (pc := 19) d189_19 rfl ?_
        refine z_cV1i (pc := 20) d189_20 ml9_438 mv190 shL280 (t_r_wouldStep x1 s) (by decide) (Nat.le_of_ble_eq_true rfl) ⟨Nat.zero_le _, Nat.zero_le _⟩ h (fun v3 s2 h => ?_)
        refine z_if_eq (pc := 23) (tgt := 28) d189_23 (by decide) h (fun h => ?_) (fun h => ?_)
        · skip
          refine wp_lv (lv' := [(0, .ref 280), (1, .int x1)]) ⟨rfl, rfl, trivial⟩ ?_
          exact t_r_stuck_28 (r_stuck_2 n) ih x1 s2 h
        · skip
          refine x_iconst (pc := 26) (v := (0)) d189_26 (by decide) ?_
          exact z_iret (pc := 27) d189_27 rfl h
def r_stuck (s : St) : Option (Int32 × St) := r_stuck_2 10 (0 : Int32) s
set_option maxRecDepth 100000 in
theorem t_r_stuck (s : St) (r : Int32 × St) (h : r_stuck s = some r) : Ri 4 189 [.ref 280] s (fun v s1 => (v, s1) = r) := by
  refine ct_of (by decide +kernel) (Nat.le_of_ble_eq_true rfl) ?_
  show Wp _ _ _ _ _ _ [(0, .ref 280)] _ _ _
  unfold r_stuck at h
  refine x_iconst (pc := 0) (v := (0)) d189_0 (by decide) ?_
  refine x_istore_n (pc := 1) d189_1 (by decide) ?_
  refine wp_lv (lv' := [(0, .ref 280), (1, .int (0 : Int32))]) ⟨rfl, rfl, trivial⟩ ?_
  exact t_r_stuck_2 10 (0 : Int32) s h
def r_clear_88 (K38 : Int32 → Int32 → St → Option (Int32 × St)) : Nat → Int32 → Int32 → Int32 → St → Option (Int32 × St)
  | 0, _, _, _, _ => none
  | n + 1, x1, x2, x3, s => if (10 : Int32) ≤ x3 then (K38 x1 (x2 + (1 : Int32)) s) else (grd (ib (((10 : Int32) * x2) + x3) 70) (sl s 245 0 (((10 : Int32) * x2) + x3).toNatClampNeg (0 : Int64)) fun s10 => r_clear_88 K38 n x1 x2 (x3 + (1 : Int32)) s10)
set_option maxRecDepth 100000 in
theorem t_r_clear_88 {r : Int32 × St} (K38 : Int32 → Int32 → St → Option (Int32 × St)) (hK38 : ∀ (x1 : Int32) (x2 : Int32) (s : St), K38 x1 x2 s = some r → Wp (rmd 0 0 0) 196 (zi (fun v s1 => (v, s1) = r)) 0 0 38 [(0, .ref 280), (1, .int x1), (2, .int x2)] [] (mk s) TT) : ∀ (n : Nat) (x1 : Int32) (x2 : Int32) (x3 : Int32) (s : St), r_clear_88 K38 n x1 x2 x3 s = some r → Wp (rmd 0 0 0) 196 (zi (fun v s1 => (v, s1) = r)) 0 0 88 [(0, .ref 280), (1, .int x1), (2, .int x2), (3, .int x3)] [] (mk s) TT := by
  intro n
  induction n with
  | zero =>
    intro x1 x2 x3 s h
    rw [r_clear_88.eq_1] at h
    cases h
  | succ n ih =>
    intro x1 x2 x3 s h
    rw [r_clear_88.eq_2] at h
    refine x_iload_n (pc := 88) d196_88 rfl ?_
    refine x_bipush (pc := 89) (v := (10)) d196_89 (by decide) ?_
    refine z_icmp_ge (pc := 91) (tgt := 112) d196_91 (by decide) h (fun h => ?_) (fun h => ?_)
    · skip
      refine y_inc (pc := 112) (c := (1)) d196_112 (by decide) (by decide) rfl ?_
      refine x_goto (pc := 115) (tgt := 38) d196_115 (by decide) ?_
      refine wp_lv (lv' := [(0, .ref 280), (1, .int x1), (2, .int (x2 + (1 : Int32)))]) ⟨rfl, rfl, rfl, trivial⟩ ?_
      exact hK38 x1 (x2 + (1 : Int32)) s h
    · skip
      refine x_aload_n (pc := 94) d196_94 rfl ?_
      refine y_getr (pc := 95) d196_95 fk9_104 shL280 rfl ?_
      refine x_bipush (pc := 98) (v := (10)) d196_98 (by decide) ?_
      refine x_iload_n (pc := 100) d196_100 rfl ?_
      refine x_imul (pc := 101) d196_101 ?_
      refine x_iload_n (pc := 102) d196_102 rfl ?_
      refine x_iadd (pc := 103) d196_103 ?_
      refine x_lconst (pc := 104) (v := (0)) d196_104 (by decide) ?_
      refine z_last (pc := 105) d196_105 shL310 (by decide) h (fun s10 h => ?_)
      refine y_inc (pc := 106) (c := (1)) d196_106 (by decide) (by decide) rfl ?_
      refine x_goto (pc := 109) (tgt := 88) d196_109 (by decide) ?_
      refine wp_lv (lv' := [(0, .ref 280), (1, .int x1), (2, .int x2), (3, .int (x3 + (1 : Int32)))]) ⟨rfl, rfl, rfl, rfl, trivial⟩ ?_
      exact ih x1 x2 (x3 + (1 : Int32)) s10 h
def r_clear_38 : Nat → Int32 → Int32 → St → Option (Int32 × St)
  | 0, _, _, _ => none
  | n + 1, x1, x2, s => if (6 : Int32) ≤ x2 then (some (x1, s)) else (grd (ib x2 7) (si s 240 0 x2.toNatClampNeg (0 : Int32)) fun s4 => grd (ib x2 7) (si s4 243 0 x2.toNatClampNeg (0 : Int32)) fun s5 => grd (ib x2 7) (sl s5 244 0 x2.toNatClampNeg (0 : Int64)) fun s6 => grd (ib x2 7) (si s6 246 0 x2.toNatClampNeg (0 : Int32)) fun s7 => grd (ib x2 7) (si s7 255 0 x2.toNatClampNeg (0 : Int32)) fun s8 => grd (ib x2 7) (si s8 261 0 x2.toNatClampNeg (0 : Int32)) fun s9 => r_clear_88 (r_clear_38 n) 20 x1 x2 (0 : Int32) s9)
set_option maxRecDepth 100000 in
theorem t_r_clear_38 {r : Int32 × St} : ∀ (n : Nat) (x1 : Int32) (x2 : Int32) (s : St), r_clear_38 n x1 x2 s = some r → Wp (rmd 0 0 0) 196 (zi (fun v s1 => (v, s1) = r)) 0 0 38 [(0, .ref 280), (1, .int x1), (2, .int x2)] [] (mk s) TT := by
  intro n
  induction n with
  | zero =>
    intro x1 x2 s h
    rw [r_clear_38.eq_1] at h
    cases h
  | succ n ih =>
    intro x1 x2 s h
    rw [r_clear_38.eq_2] at h
    refine x_iload_n (pc := 38) d196_38 rfl ?_
    refine x_bipush (pc := 39) (v := (6)) d196_39 (by decide) ?_
    refine z_icmp_ge (pc := 41) (tgt := 118) d196_41 (by decide) h (fun h => ?_) (fun h => ?_)
    · skip
      refine x_iload_n (pc := 118) d196_118 rfl ?_
      exact z_iret (pc := 119) d196_119 rfl h
    · skip
      refine x_aload_n (pc := 44) d196_44 rfl ?_
      refine y_getr (pc := 45) d196_45 fk9_89 shL280 rfl ?_
      refine x_iload_n (pc := 48) d196_48 rfl ?_
      refine x_iconst (pc := 49) (v := (0)) d196_49 (by decide) ?_
      refine z_iast (pc := 50) d196_50 shL305 (by decide) h (fun s4 h => ?_)
      refine x_aload_n (pc := 51) d196_51 rfl ?_
      refine y_getr (pc := 52) d196_52 fk9_98 shL280 rfl ?_
      refine x_iload_n (pc := 55) d196_55 rfl ?_
      refine x_iconst (pc := 56) (v := (0)) d196_56 (by decide) ?_
      refine z_iast (pc := 57) d196_57 shL308 (by decide) h (fun s5 h => ?_)
      refine x_aload_n (pc := 58) d196_58 rfl ?_
      refine y_getr (pc := 59) d196_59 fk9_101 shL280 rfl ?_
      refine x_iload_n (pc := 62) d196_62 rfl ?_
      refine x_lconst (pc := 63) (v := (0)) d196_63 (by decide) ?_
      refine z_last (pc := 64) d196_64 shL309 (by decide) h (fun s6 h => ?_)
      refine x_aload_n (pc := 65) d196_65 rfl ?_
      refine y_getr (pc := 66) d196_66 fk9_107 shL280 rfl ?_
      refine x_iload_n (pc := 69) d196_69 rfl ?_
      refine x_iconst (pc := 70) (v := (0)) d196_70 (by decide) ?_
      refine z_iast (pc := 71) d196_71 shL311 (by decide) h (fun s7 h => ?_)
      refine x_aload_n (pc := 72) d196_72 rfl ?_
      refine y_getr (pc := 73) d196_73 fk9_134 shL280 rfl ?_
      refine x_iload_n (pc := 76) d196_76 rfl ?_
      refine x_iconst (pc := 77) (v := (0)) d196_77 (by decide) ?_
      refine z_iast (pc := 78) d196_78 shL320 (by decide) h (fun s8 h => ?_)
      refine x_aload_n (pc := 79) d196_79 rfl ?_
      refine y_getr (pc := 80) d196_80 fk9_149 shL280 rfl ?_
      refine x_iload_n (pc := 83) d196_83 rfl ?_
      refine x_iconst (pc := 84) (v := (0)) d196_84 (by decide) ?_
      refine z_iast (pc := 85) d196_85 shL325 (by decide) h (fun s9 h => ?_)
      refine x_iconst (pc := 86) (v := (0)) d196_86 (by decide) ?_
      refine x_istore_n (pc := 87) d196_87 (by decide) ?_
      refine wp_lv (lv' := [(0, .ref 280), (1, .int x1), (2, .int x2), (3, .int (0 : Int32))]) ⟨rfl, rfl, rfl, rfl, trivial⟩ ?_
      exact t_r_clear_88 (r_clear_38 n) ih 20 x1 x2 (0 : Int32) s9 h
def r_clear_17 : Nat → Int32 → Int32 → St → Option (Int32 × St)
  | 0, _, _, _ => none
  | n + 1, x1, x2, s => if (8 : Int32) ≤ x2 then (r_clear_38 20 x1 (0 : Int32) s) else (grd (ib x2 8 ∧ zo (0 : Int32)) (si s 238 0 x2.toNatClampNeg (0 : Int32)) fun s11 => r_clear_17 n x1 (x2 + (1 : Int32)) s11)
set_option maxRecDepth 100000 in
theorem t_r_clear_17 {r : Int32 × St} : ∀ (n : Nat) (x1 : Int32) (x2 : Int32) (s : St), r_clear_17 n x1 x2 s = some r → Wp (rmd 0 0 0) 196 (zi (fun v s1 => (v, s1) = r)) 0 0 17 [(0, .ref 280), (1, .int x1), (2, .int x2)] [] (mk s) TT := by
  intro n
  induction n with
  | zero =>
    intro x1 x2 s h
    rw [r_clear_17.eq_1] at h
    cases h
  | succ n ih =>
    intro x1 x2 s h
    rw [r_clear_17.eq_2] at h
    refine x_iload_n (pc := 17) d196_17 rfl ?_
    refine x_bipush (pc := 18) (v := (8)) d196_18 (by decide) ?_
    refine z_icmp_ge (pc := 20) (tgt := 36) d196_20 (by decide) h (fun h => ?_) (fun h => ?_)
    · skip
      refine x_iconst (pc := 36) (v := (0)) d196_36 (by decide) ?_
      refine x_istore_n (pc := 37) d196_37 (by decide) ?_
      refine wp_lv (lv' := [(0, .ref 280), (1, .int x1), (2, .int (0 : Int32))]) ⟨rfl, rfl, rfl, trivial⟩ ?_
      exact t_r_clear_38 20 x1 (0 : Int32) s h
    · skip
      refine x_aload_n (pc := 23) d196_23 rfl ?_
      refine y_getr (pc := 24) d196_24 fk9_83 shL280 rfl ?_
      refine x_iload_n (pc := 27) d196_27 rfl ?_
      refine x_iconst (pc := 28) (v := (0)) d196_28 (by decide) ?_
      refine z_zast (pc := 29) d196_29 shL303 (by decide) h (fun s11 h => ?_)
      refine y_inc (pc := 30) (c := (1)) d196_30 (by decide) (by decide) rfl ?_
      refine x_goto (pc := 33) (tgt := 17) d196_33 (by decide) ?_
      refine wp_lv (lv' := [(0, .ref 280), (1, .int x1), (2, .int (x2 + (1 : Int32)))]) ⟨rfl, rfl, rfl, trivial⟩ ?_
      exact ih x1 (x2 + (1 : Int32)) s11 h
def r_clear (s : St) : Option (Int32 × St) := bnd (s.1 263 0 0) fun v1 => bnd (si s 263 0 0 (0 : Int32)) fun s2 => bnd (si s2 237 0 0 (0 : Int32)) fun s3 => r_clear_17 20 v1 (0 : Int32) s3
set_option maxRecDepth 100000 in
theorem t_r_clear (s : St) (r : Int32 × St) (h : r_clear s = some r) : Ri 0 196 [.ref 280] s (fun v s1 => (v, s1) = r) := by
  refine ct_of (by decide +kernel) (Nat.le_of_ble_eq_true rfl) ?_
  show Wp _ _ _ _ _ _ [(0, .ref 280)] _ _ _
  unfold r_clear at h
  refine x_aload_n (pc := 0) d196_0 rfl ?_
  refine z_geti (pc := 1) d196_1 fk9_350 shL280 rfl h (fun v1 h => ?_)
  refine x_istore_n (pc := 4) d196_4 (by decide) ?_
  refine x_aload_n (pc := 5) d196_5 rfl ?_
  refine x_iconst (pc := 6) (v := (0)) d196_6 (by decide) ?_
  refine z_puti (pc := 7) d196_7 fk9_350 shL280 rfl rfl ⟨rfl, rfl⟩ h (fun s2 h => ?_)
  refine x_aload_n (pc := 10) d196_10 rfl ?_
  refine x_iconst (pc := 11) (v := (0)) d196_11 (by decide) ?_
  refine z_puti (pc := 12) d196_12 fk9_353 shL280 rfl rfl ⟨rfl, rfl⟩ h (fun s3 h => ?_)
  refine x_iconst (pc := 15) (v := (0)) d196_15 (by decide) ?_
  refine x_istore_n (pc := 16) d196_16 (by decide) ?_
  refine wp_lv (lv' := [(0, .ref 280), (1, .int v1), (2, .int (0 : Int32))]) ⟨rfl, rfl, rfl, trivial⟩ ?_
  exact t_r_clear_17 20 v1 (0 : Int32) s3 h
def r_feed_73 (K18 : Int32 → Int32 → Int32 → Int32 → Int32 → Int32 → St → Option (Int32 × St)) (x1 : Int32) (x2 : Int32) (x3 : Int32) (x4 : Int32) (x5 : Int32) (x6 : Int32) (y0 : Int32) (s : St) : Option (Int32 × St) := bnd (s.1 201 0 0) fun v3 => grd (ib v3 800) (si s 200 0 v3.toNatClampNeg (vp_nar .byte ((y0 >>> (((24 : Int32) - ((8 : Int32) * (x6 - x6 / (4 : Int32) * (4 : Int32)))) &&& 31)).toInt8.toInt32))) fun s4 => bnd (s4.1 201 0 0) fun v5 => bnd (si s4 201 0 0 (v5 + (1 : Int32))) fun s6 => K18 x1 x2 x3 x4 x5 (x6 + (1 : Int32)) s6
set_option maxRecDepth 100000 in
theorem t_r_feed_73 {r : Int32 × St} (K18 : Int32 → Int32 → Int32 → Int32 → Int32 → Int32 → St → Option (Int32 × St)) (hK18 : ∀ (x1 : Int32) (x2 : Int32) (x3 : Int32) (x4 : Int32) (x5 : Int32) (x6 : Int32) (s : St), K18 x1 x2 x3 x4 x5 x6 s = some r → Wp (rmd 0 0 0) 124 (zi (fun v s1 => (v, s1) = r)) 0 0 18 [(0, .ref 280), (1, .int x1), (2, .int x2), (3, .int x3), (4, .int x4), (5, .int x5), (6, .int x6)] [] (mk s) TT) : ∀ (x1 : Int32) (x2 : Int32) (x3 : Int32) (x4 : Int32) (x5 : Int32) (x6 : Int32) (y0 : Int32) (s : St), r_feed_73 K18 x1 x2 x3 x4 x5 x6 y0 s = some r → Wp (rmd 0 0 0) 124 (zi (fun v s1 => (v, s1) = r)) 0 0 73 [(0, .ref 280), (1, .int x1), (2, .int x2), (3, .int x3), (4, .int x4), (5, .int x5), (6, .int x6)] [.int y0] (mk s) TT := by
  intro x1 x2 x3 x4 x5 x6 y0 s h
  unfold r_feed_73 at h
  refine x_istore (pc := 73) d124_73 (by decide) ?_
  refine x_aload_n (pc := 75) d124_75 rfl ?_
  refine y_getr (pc := 76) d124_76 fk9_7 shL280 rfl ?_
  refine x_aload_n (pc := 79) d124_79 rfl ?_
  refine z_geti (pc := 80) d124_80 fk9_170 shL280 rfl h (fun v3 h => ?_)
  refine x_iload (pc := 83) d124_83 rfl ?_
  refine x_bipush (pc := 85) (v := (24)) d124_85 (by decide) ?_
  refine x_bipush (pc := 87) (v := (8)) d124_87 (by decide) ?_
  refine x_iload (pc := 89) d124_89 rfl ?_
  refine x_iconst (pc := 91) (v := (4)) d124_91 (by decide) ?_
  refine x_irem (pc := 92) d124_92 (by decide) ?_
  refine x_imul (pc := 93) d124_93 ?_
  refine x_isub (pc := 94) d124_94 ?_
  refine x_ishr (pc := 95) d124_95 ?_
  refine x_i2b (pc := 96) d124_96 ?_
  refine z_bast (pc := 97) d124_97 shL281 (by decide) h (fun s4 h => ?_)
  refine x_aload_n (pc := 98) d124_98 rfl ?_
  refine x_dup (pc := 99) d124_99 rfl ?_
  refine z_geti (pc := 100) d124_100 fk9_170 shL280 rfl h (fun v5 h => ?_)
  refine x_iconst (pc := 103) (v := (1)) d124_103 (by decide) ?_
  refine x_iadd (pc := 104) d124_104 ?_
  refine z_puti (pc := 105) d124_105 fk9_170 shL280 rfl rfl ⟨rfl, rfl⟩ h (fun s6 h => ?_)
  refine y_inc (pc := 108) (c := (1)) d124_108 (by decide) (by decide) rfl ?_
  refine x_goto (pc := 111) (tgt := 18) d124_111 (by decide) ?_
  refine wp_lv (lv' := [(0, .ref 280), (1, .int x1), (2, .int x2), (3, .int x3), (4, .int x4), (5, .int x5), (6, .int (x6 + (1 : Int32)))]) ⟨rfl, rfl, rfl, rfl, rfl, rfl, rfl, trivial⟩ ?_
  exact hK18 x1 x2 x3 x4 x5 (x6 + (1 : Int32)) s6 h
def r_feed_18 : Nat → Int32 → Int32 → Int32 → Int32 → Int32 → Int32 → St → Option (Int32 × St)
  | 0, _, _, _, _, _, _, _ => none
  | n + 1, x1, x2, x3, x4, x5, x6, s => if (20 : Int32) ≤ x6 then (bnd (s.1 201 0 0) fun v2 => some (v2, s)) else (if (x6 / (4 : Int32)) = 0 then (r_feed_73 (r_feed_18 n) x1 x2 x3 x4 x5 x6 x1 s) else (if (x6 / (4 : Int32)) = (1 : Int32) then (r_feed_73 (r_feed_18 n) x1 x2 x3 x4 x5 x6 x2 s) else (if (x6 / (4 : Int32)) = (2 : Int32) then (r_feed_73 (r_feed_18 n) x1 x2 x3 x4 x5 x6 x3 s) else (if (x6 / (4 : Int32)) = (3 : Int32) then (r_feed_73 (r_feed_18 n) x1 x2 x3 x4 x5 x6 x4 s) else (r_feed_73 (r_feed_18 n) x1 x2 x3 x4 x5 x6 x5 s)))))
set_option maxRecDepth 100000 in
theorem t_r_feed_18 {r : Int32 × St} : ∀ (n : Nat) (x1 : Int32) (x2 : Int32) (x3 : Int32) (x4 : Int32) (x5 : Int32) (x6 : Int32) (s : St), r_feed_18 n x1 x2 x3 x4 x5 x6 s = some r → Wp (rmd 0 0 0) 124 (zi (fun v s1 => (v, s1) = r)) 0 0 18 [(0, .ref 280), (1, .int x1), (2, .int x2), (3, .int x3), (4, .int x4), (5, .int x5), (6, .int x6)] [] (mk s) TT := by
  intro n
  induction n with
  | zero =>
    intro x1 x2 x3 x4 x5 x6 s h
    rw [r_feed_18.eq_1] at h
    cases h
  | succ n ih =>
    intro x1 x2 x3 x4 x5 x6 s h
    rw [r_feed_18.eq_2] at h
    refine x_iload (pc := 18) d124_18 rfl ?_
    refine x_bipush (pc := 20) (v := (20)) d124_20 (by decide) ?_
    refine z_icmp_ge (pc := 22) (tgt := 114) d124_22 (by decide) h (fun h => ?_) (fun h => ?_)
    · skip
      refine x_aload_n (pc := 114) d124_114 rfl ?_
      refine z_geti (pc := 115) d124_115 fk9_170 shL280 rfl h (fun v2 h => ?_)
      exact z_iret (pc := 118) d124_118 rfl h
    · skip
      refine x_iload (pc := 25) d124_25 rfl ?_
      refine x_iconst (pc := 27) (v := (4)) d124_27 (by decide) ?_
      refine x_idiv (pc := 28) d124_28 (by decide) ?_
      refine x_istore (pc := 29) d124_29 (by decide) ?_
      refine x_iload (pc := 31) d124_31 rfl ?_
      refine z_if_ne (pc := 33) (tgt := 40) d124_33 (by decide) h (fun h => ?_) (fun h => ?_)
      · skip
        refine x_iload (pc := 40) d124_40 rfl ?_
        refine x_iconst (pc := 42) (v := (1)) d124_42 (by decide) ?_
        refine z_icmp_ne (pc := 43) (tgt := 50) d124_43 (by decide) h (fun h => ?_) (fun h => ?_)
        · skip
          refine x_iload (pc := 50) d124_50 rfl ?_
          refine x_iconst (pc := 52) (v := (2)) d124_52 (by decide) ?_
          refine z_icmp_ne (pc := 53) (tgt := 60) d124_53 (by decide) h (fun h => ?_) (fun h => ?_)
          · skip
            refine x_iload (pc := 60) d124_60 rfl ?_
            refine x_iconst (pc := 62) (v := (3)) d124_62 (by decide) ?_
            refine z_icmp_ne (pc := 63) (tgt := 71) d124_63 (by decide) h (fun h => ?_) (fun h => ?_)
            · skip
              refine x_iload (pc := 71) d124_71 rfl ?_
              refine wp_lv (lv' := [(0, .ref 280), (1, .int x1), (2, .int x2), (3, .int x3), (4, .int x4), (5, .int x5), (6, .int x6)]) ⟨rfl, rfl, rfl, rfl, rfl, rfl, rfl, trivial⟩ ?_
              exact t_r_feed_73 (r_feed_18 n) ih x1 x2 x3 x4 x5 x6 x5 s h
            · skip
              refine x_iload (pc := 66) d124_66 rfl ?_
              refine x_goto (pc := 68) (tgt := 73) d124_68 (by decide) ?_
              refine wp_lv (lv' := [(0, .ref 280), (1, .int x1), (2, .int x2), (3, .int x3), (4, .int x4), (5, .int x5), (6, .int x6)]) ⟨rfl, rfl, rfl, rfl, rfl, rfl, rfl, trivial⟩ ?_
              exact t_r_feed_73 (r_feed_18 n) ih x1 x2 x3 x4 x5 x6 x4 s h
          · skip
            refine x_iload_n (pc := 56) d124_56 rfl ?_
            refine x_goto (pc := 57) (tgt := 73) d124_57 (by decide) ?_
            refine wp_lv (lv' := [(0, .ref 280), (1, .int x1), (2, .int x2), (3, .int x3), (4, .int x4), (5, .int x5), (6, .int x6)]) ⟨rfl, rfl, rfl, rfl, rfl, rfl, rfl, trivial⟩ ?_
            exact t_r_feed_73 (r_feed_18 n) ih x1 x2 x3 x4 x5 x6 x3 s h
        · skip
          refine x_iload_n (pc := 46) d124_46 rfl ?_
          refine x_goto (pc := 47) (tgt := 73) d124_47 (by decide) ?_
          refine wp_lv (lv' := [(0, .ref 280), (1, .int x1), (2, .int x2), (3, .int x3), (4, .int x4), (5, .int x5), (6, .int x6)]) ⟨rfl, rfl, rfl, rfl, rfl, rfl, rfl, trivial⟩ ?_
          exact t_r_feed_73 (r_feed_18 n) ih x1 x2 x3 x4 x5 x6 x2 s h
      · skip
        refine x_iload_n (pc := 36) d124_36 rfl ?_
        refine x_goto (pc := 37) (tgt := 73) d124_37 (by decide) ?_
        refine wp_lv (lv' := [(0, .ref 280), (1, .int x1), (2, .int x2), (3, .int x3), (4, .int x4), (5, .int x5), (6, .int x6)]) ⟨rfl, rfl, rfl, rfl, rfl, rfl, rfl, trivial⟩ ?_
        exact t_r_feed_73 (r_feed_18 n) ih x1 x2 x3 x4 x5 x6 x1 s h
def r_feed (a0 : Int32) (a1 : Int32) (a2 : Int32) (a3 : Int32) (a4 : Int32) (s : St) : Option (Int32 × St) := bnd (s.1 201 0 0) fun v1 => if (v1 + (20 : Int32)) ≤ (800 : Int32) then (r_feed_18 30 a0 a1 a2 a3 a4 (0 : Int32) s) else (some ((-1 : Int32), s))
set_option maxRecDepth 100000 in
theorem t_r_feed (a0 : Int32) (a1 : Int32) (a2 : Int32) (a3 : Int32) (a4 : Int32) (s : St) (r : Int32 × St) (h : r_feed a0 a1 a2 a3 a4 s = some r) : Ri 0 124 [.ref 280, .int a0, .int a1, .int a2, .int a3, .int a4] s (fun v s1 => (v, s1) = r) := by
  refine ct_of (by decide +kernel) (Nat.le_of_ble_eq_true rfl) ?_
  show Wp _ _ _ _ _ _ [(0, .ref 280), (1, .int a0), (2, .int a1), (3, .int a2), (4, .int a3), (5, .int a4)] _ _ _
  unfold r_feed at h
  refine x_aload_n (pc := 0) d124_0 rfl ?_
  refine z_geti (pc := 1) d124_1 fk9_170 shL280 rfl h (fun v1 h => ?_)
  refine x_bipush (pc := 4) (v := (20)) d124_4 (by decide) ?_
  refine x_iadd (pc := 6) d124_6 ?_
  refine x_sipush (pc := 7) (v := (800)) d124_7 (by decide) ?_
  refine z_icmp_le (pc := 10) (tgt := 15) d124_10 (by decide) h (fun h => ?_) (fun h => ?_)
  · skip
    refine x_iconst (pc := 15) (v := (0)) d124_15 (by decide) ?_
    refine x_istore (pc := 16) d124_16 (by decide) ?_
    refine wp_lv (lv' := [(0, .ref 280), (1, .int a0), (2, .int a1), (3, .int a2), (4, .int a3), (5, .int a4), (6, .int (0 : Int32))]) ⟨rfl, rfl, rfl, rfl, rfl, rfl, rfl, trivial⟩ ?_
    exact t_r_feed_18 30 a0 a1 a2 a3 a4 (0 : Int32) s h
  · skip
    refine x_iconst (pc := 13) (v := (-1)) d124_13 (by decide) ?_
    exact z_iret (pc := 14) d124_14 rfl h
