/-! the reference's reading -/
def r_byteAt (a0 : Int32) (s : St) : Option (Int32 × St) := bnd (s.1 201 0 0) fun v1 => if v1 ≤ a0 then (some ((-1 : Int32), s)) else (grd (ib a0 800) (s.1 200 0 a0.toNatClampNeg) fun v2 => some ((v2 &&& (255 : Int32)), s))
set_option maxRecDepth 100000 in
theorem t_r_byteAt (a0 : Int32) (s : St) (r : Int32 × St) (h : r_byteAt a0 s = some r) : Ri 0 129 [.ref 280, .int a0] s (fun v s1 => (v, s1) = r) := by
  refine ct_of (by decide +kernel) (Nat.le_of_ble_eq_true rfl) ?_
  show Wp _ _ _ _ _ _ [(0, .ref 280), (1, .int a0)] _ _ _
  unfold r_byteAt at h
  refine x_iload_n (pc := 0) d129_0 rfl ?_
  refine x_aload_n (pc := 1) d129_1 rfl ?_
  refine z_geti (pc := 2) d129_2 fk9_170 shL280 rfl h (fun v1 h => ?_)
  refine z_icmp_ge (pc := 5) (tgt := 21) d129_5 (by decide) h (fun h => ?_) (fun h => ?_)
  · skip
    refine x_iconst (pc := 21) (v := (-1)) d129_21 (by decide) ?_
    exact z_iret (pc := 22) d129_22 rfl h
  · skip
    refine x_aload_n (pc := 8) d129_8 rfl ?_
    refine y_getr (pc := 9) d129_9 fk9_7 shL280 rfl ?_
    refine x_iload_n (pc := 12) d129_12 rfl ?_
    refine z_bald (pc := 13) d129_13 shL281 (by decide) h (fun v2 h => ?_)
    refine x_sipush (pc := 14) (v := (255)) d129_14 (by decide) ?_
    refine x_iand (pc := 17) d129_17 ?_
    refine x_goto (pc := 18) (tgt := 22) d129_18 (by decide) ?_
    exact z_iret (pc := 22) d129_22 rfl h
def r_isSmall_16 (s : St) : Option (Int32 × St) := some ((0 : Int32), s)
set_option maxRecDepth 100000 in
theorem t_r_isSmall_16 {r : Int32 × St} : ∀ (s : St), r_isSmall_16 s = some r → Wp (rmd 0 0 0) 130 (zi (fun v s1 => (v, s1) = r)) 0 0 16 [] [] (mk s) TT := by
  intro s h
  unfold r_isSmall_16 at h
  refine x_iconst (pc := 16) (v := (0)) d130_16 (by decide) ?_
  exact z_zretc (pc := 17) d130_17 rfl (Or.inl rfl) h
def r_isSmall (a0 : Int32) (s : St) : Option (Int32 × St) := if a0 < (97 : Int32) then (r_isSmall_16 s) else (if (122 : Int32) < a0 then (r_isSmall_16 s) else (some ((1 : Int32), s)))
set_option maxRecDepth 100000 in
theorem t_r_isSmall (a0 : Int32) (s : St) (r : Int32 × St) (h : r_isSmall a0 s = some r) : Ri 0 130 [.int a0] s (fun v s1 => (v, s1) = r) := by
  refine ct_of (by decide +kernel) (Nat.le_of_ble_eq_true rfl) ?_
  show Wp _ _ _ _ _ _ [(0, .int a0)] _ _ _
  unfold r_isSmall at h
  refine x_iload_n (pc := 0) d130_0 rfl ?_
  refine x_bipush (pc := 1) (v := (97)) d130_1 (by decide) ?_
  refine z_icmp_lt (pc := 3) (tgt := 16) d130_3 (by decide) h (fun h => ?_) (fun h => ?_)
  · skip
    refine wp_lv (lv' := []) trivial ?_
    exact t_r_isSmall_16 s h
  · skip
    refine x_iload_n (pc := 6) d130_6 rfl ?_
    refine x_bipush (pc := 7) (v := (122)) d130_7 (by decide) ?_
    refine z_icmp_gt (pc := 9) (tgt := 16) d130_9 (by decide) h (fun h => ?_) (fun h => ?_)
    · skip
      refine wp_lv (lv' := []) trivial ?_
      exact t_r_isSmall_16 s h
    · skip
      refine x_iconst (pc := 12) (v := (1)) d130_12 (by decide) ?_
      refine x_goto (pc := 13) (tgt := 17) d130_13 (by decide) ?_
      exact z_zretc (pc := 17) d130_17 rfl (Or.inr rfl) h
def r_isFigure_16 (s : St) : Option (Int32 × St) := some ((0 : Int32), s)
set_option maxRecDepth 100000 in
theorem t_r_isFigure_16 {r : Int32 × St} : ∀ (s : St), r_isFigure_16 s = some r → Wp (rmd 0 0 0) 132 (zi (fun v s1 => (v, s1) = r)) 0 0 16 [] [] (mk s) TT := by
  intro s h
  unfold r_isFigure_16 at h
  refine x_iconst (pc := 16) (v := (0)) d132_16 (by decide) ?_
  exact z_zretc (pc := 17) d132_17 rfl (Or.inl rfl) h
def r_isFigure (a0 : Int32) (s : St) : Option (Int32 × St) := if a0 < (48 : Int32) then (r_isFigure_16 s) else (if (57 : Int32) < a0 then (r_isFigure_16 s) else (some ((1 : Int32), s)))
set_option maxRecDepth 100000 in
theorem t_r_isFigure (a0 : Int32) (s : St) (r : Int32 × St) (h : r_isFigure a0 s = some r) : Ri 0 132 [.int a0] s (fun v s1 => (v, s1) = r) := by
  refine ct_of (by decide +kernel) (Nat.le_of_ble_eq_true rfl) ?_
  show Wp _ _ _ _ _ _ [(0, .int a0)] _ _ _
  unfold r_isFigure at h
  refine x_iload_n (pc := 0) d132_0 rfl ?_
  refine x_bipush (pc := 1) (v := (48)) d132_1 (by decide) ?_
  refine z_icmp_lt (pc := 3) (tgt := 16) d132_3 (by decide) h (fun h => ?_) (fun h => ?_)
  · skip
    refine wp_lv (lv' := []) trivial ?_
    exact t_r_isFigure_16 s h
  · skip
    refine x_iload_n (pc := 6) d132_6 rfl ?_
    refine x_bipush (pc := 7) (v := (57)) d132_7 (by decide) ?_
    refine z_icmp_gt (pc := 9) (tgt := 16) d132_9 (by decide) h (fun h => ?_) (fun h => ?_)
    · skip
      refine wp_lv (lv' := []) trivial ?_
      exact t_r_isFigure_16 s h
    · skip
      refine x_iconst (pc := 12) (v := (1)) d132_12 (by decide) ?_
      refine x_goto (pc := 13) (tgt := 17) d132_13 (by decide) ?_
      exact z_zretc (pc := 17) d132_17 rfl (Or.inr rfl) h
def r_isSignByte (a0 : Int32) (s : St) : Option (Int32 × St) := if a0 = 35 then (some ((1 : Int32), s)) else if a0 = 40 then (some ((1 : Int32), s)) else if a0 = 41 then (some ((1 : Int32), s)) else if a0 = 42 then (some ((1 : Int32), s)) else if a0 = 43 then (some ((1 : Int32), s)) else if a0 = 45 then (some ((1 : Int32), s)) else if a0 = 59 then (some ((1 : Int32), s)) else if a0 = 60 then (some ((1 : Int32), s)) else if a0 = 61 then (some ((1 : Int32), s)) else if a0 = 123 then (some ((1 : Int32), s)) else if a0 = 125 then (some ((1 : Int32), s)) else (some ((0 : Int32), s))
set_option maxRecDepth 100000 in
theorem t_r_isSignByte (a0 : Int32) (s : St) (r : Int32 × St) (h : r_isSignByte a0 s = some r) : Ri 0 133 [.int a0] s (fun v s1 => (v, s1) = r) := by
  refine ct_of (by decide +kernel) (Nat.le_of_ble_eq_true rfl) ?_
  show Wp _ _ _ _ _ _ [(0, .int a0)] _ _ _
  unfold r_isSignByte at h
  refine x_iload_n (pc := 0) d133_0 rfl ?_
  by_cases hk35 : a0 = 35
  · replace h := ip hk35 h
    refine x_lookup (pc := 1) (tgt := 100) (off := 99) d133_1 (by decide) (by rw [hk35]; decide) (by decide) ?_
    refine x_iconst (pc := 100) (v := (1)) d133_100 (by decide) ?_
    exact z_zretc (pc := 101) d133_101 rfl (Or.inr rfl) h
  replace h := im hk35 h
  by_cases hk40 : a0 = 40
  · replace h := ip hk40 h
    refine x_lookup (pc := 1) (tgt := 100) (off := 99) d133_1 (by decide) (by rw [hk40]; decide) (by decide) ?_
    refine x_iconst (pc := 100) (v := (1)) d133_100 (by decide) ?_
    exact z_zretc (pc := 101) d133_101 rfl (Or.inr rfl) h
  replace h := im hk40 h
  by_cases hk41 : a0 = 41
  · replace h := ip hk41 h
    refine x_lookup (pc := 1) (tgt := 100) (off := 99) d133_1 (by decide) (by rw [hk41]; decide) (by decide) ?_
    refine x_iconst (pc := 100) (v := (1)) d133_100 (by decide) ?_
    exact z_zretc (pc := 101) d133_101 rfl (Or.inr rfl) h
  replace h := im hk41 h
  by_cases hk42 : a0 = 42
  · replace h := ip hk42 h
    refine x_lookup (pc := 1) (tgt := 100) (off := 99) d133_1 (by decide) (by rw [hk42]; decide) (by decide) ?_
    refine x_iconst (pc := 100) (v := (1)) d133_100 (by decide) ?_
    exact z_zretc (pc := 101) d133_101 rfl (Or.inr rfl) h
  replace h := im hk42 h
  by_cases hk43 : a0 = 43
  · replace h := ip hk43 h
    refine x_lookup (pc := 1) (tgt := 100) (off := 99) d133_1 (by decide) (by rw [hk43]; decide) (by decide) ?_
    refine x_iconst (pc := 100) (v := (1)) d133_100 (by decide) ?_
    exact z_zretc (pc := 101) d133_101 rfl (Or.inr rfl) h
  replace h := im hk43 h
  by_cases hk45 : a0 = 45
  · replace h := ip hk45 h
    refine x_lookup (pc := 1) (tgt := 100) (off := 99) d133_1 (by decide) (by rw [hk45]; decide) (by decide) ?_
    refine x_iconst (pc := 100) (v := (1)) d133_100 (by decide) ?_
    exact z_zretc (pc := 101) d133_101 rfl (Or.inr rfl) h
  replace h := im hk45 h
  by_cases hk59 : a0 = 59
  · replace h := ip hk59 h
    refine x_lookup (pc := 1) (tgt := 100) (off := 99) d133_1 (by decide) (by rw [hk59]; decide) (by decide) ?_
    refine x_iconst (pc := 100) (v := (1)) d133_100 (by decide) ?_
    exact z_zretc (pc := 101) d133_101 rfl (Or.inr rfl) h
  replace h := im hk59 h
  by_cases hk60 : a0 = 60
  · replace h := ip hk60 h
    refine x_lookup (pc := 1) (tgt := 100) (off := 99) d133_1 (by decide) (by rw [hk60]; decide) (by decide) ?_
    refine x_iconst (pc := 100) (v := (1)) d133_100 (by decide) ?_
    exact z_zretc (pc := 101) d133_101 rfl (Or.inr rfl) h
  replace h := im hk60 h
  by_cases hk61 : a0 = 61
  · replace h := ip hk61 h
    refine x_lookup (pc := 1) (tgt := 100) (off := 99) d133_1 (by decide) (by rw [hk61]; decide) (by decide) ?_
    refine x_iconst (pc := 100) (v := (1)) d133_100 (by decide) ?_
    exact z_zretc (pc := 101) d133_101 rfl (Or.inr rfl) h
  replace h := im hk61 h
  by_cases hk123 : a0 = 123
  · replace h := ip hk123 h
    refine x_lookup (pc := 1) (tgt := 100) (off := 99) d133_1 (by decide) (by rw [hk123]; decide) (by decide) ?_
    refine x_iconst (pc := 100) (v := (1)) d133_100 (by decide) ?_
    exact z_zretc (pc := 101) d133_101 rfl (Or.inr rfl) h
  replace h := im hk123 h
  by_cases hk125 : a0 = 125
  · replace h := ip hk125 h
    refine x_lookup (pc := 1) (tgt := 100) (off := 99) d133_1 (by decide) (by rw [hk125]; decide) (by decide) ?_
    refine x_iconst (pc := 100) (v := (1)) d133_100 (by decide) ?_
    exact z_zretc (pc := 101) d133_101 rfl (Or.inr rfl) h
  replace h := im hk125 h
  refine x_lookup (pc := 1) (tgt := 102) (off := 101) d133_1 (by decide) (show Op.lookupswitch.offset [(35, 99), (40, 99), (41, 99), (42, 99), (43, 99), (45, 99), (59, 99), (60, 99), (61, 99), (123, 99), (125, 99)] _ _ = _ by rw [lv_osw hk35 (by decide), lv_osw hk40 (by decide), lv_osw hk41 (by decide), lv_osw hk42 (by decide), lv_osw hk43 (by decide), lv_osw hk45 (by decide), lv_osw hk59 (by decide), lv_osw hk60 (by decide), lv_osw hk61 (by decide), lv_osw hk123 (by decide), lv_osw hk125 (by decide)]; rfl) (by decide) ?_
  refine x_iconst (pc := 102) (v := (0)) d133_102 (by decide) ?_
  exact z_zretc (pc := 103) d133_103 rfl (Or.inl rfl) h
def r_wordOf (a0 : Int64) (s : St) : Option (Int32 × St) := if a0 = (1852798053 : Int64) then (some ((0 : Int32), s)) else (if a0 = (26982 : Int64) then (some ((1 : Int32), s)) else (if a0 = (1701606245 : Int64) then (some ((2 : Int32), s)) else (if a0 = (512852847717 : Int64) then (some ((3 : Int32), s)) else (if a0 = (1952541541 : Int64) then (some ((4 : Int32), s)) else (if a0 = (29807 : Int64) then (some ((5 : Int32), s)) else (if a0 = (7370100 : Int64) then (some ((6 : Int32), s)) else (if a0 = (26990 : Int64) then (some ((7 : Int32), s)) else (if a0 = (499968536439 : Int64) then (some ((8 : Int32), s)) else (if a0 = (1936027236 : Int64) then (some ((9 : Int32), s)) else (if a0 = (1835103083 : Int64) then (some ((10 : Int32), s)) else (if a0 = (1751216740 : Int64) then (some ((11 : Int32), s)) else (if a0 = (1869636974 : Int64) then (some ((12 : Int32), s)) else (if a0 = (7631481 : Int64) then (some ((13 : Int32), s)) else (if a0 = (426836779880 : Int64) then (some ((14 : Int32), s)) else (if a0 = (439855772532 : Int64) then (some ((15 : Int32), s)) else (if a0 = (7697253 : Int64) then (some ((16 : Int32), s)) else (if a0 = (1818325876 : Int64) then (some ((17 : Int32), s)) else (if a0 = (131294808271214 : Int64) then (some ((18 : Int32), s)) else (some ((-1 : Int32), s))))))))))))))))))))
set_option maxRecDepth 100000 in
theorem t_r_wordOf (a0 : Int64) (s : St) (r : Int32 × St) (h : r_wordOf a0 s = some r) : Ri 0 131 [.long a0] s (fun v s1 => (v, s1) = r) := by
  refine ct_of (by decide +kernel) (Nat.le_of_ble_eq_true rfl) ?_
  show Wp _ _ _ _ _ _ [(0, .long a0)] _ _ _
  unfold r_wordOf at h
  refine x_lload_n (pc := 0) d131_0 rfl ?_
  refine x_ldc2 (pc := 1) (v := (1852798053)) (gw_t (i := 1068) (by decide +kernel) (by decide +kernel)) d131_1 ?_
  refine z_lif_ne (pc := 4) (tgt := 10) d131_4 d131_5 (by decide) h (fun h => ?_) (fun h => ?_)
  · skip
    refine x_lload_n (pc := 10) d131_10 rfl ?_
    refine x_ldc2 (pc := 11) (v := (26982)) (gw_t (i := 1069) (by decide +kernel) (by decide +kernel)) d131_11 ?_
    refine z_lif_ne (pc := 14) (tgt := 20) d131_14 d131_15 (by decide) h (fun h => ?_) (fun h => ?_)
    · skip
      refine x_lload_n (pc := 20) d131_20 rfl ?_
      refine x_ldc2 (pc := 21) (v := (1701606245)) (gw_t (i := 1070) (by decide +kernel) (by decide +kernel)) d131_21 ?_
      refine z_lif_ne (pc := 24) (tgt := 30) d131_24 d131_25 (by decide) h (fun h => ?_) (fun h => ?_)
      · skip
        refine x_lload_n (pc := 30) d131_30 rfl ?_
        refine x_ldc2 (pc := 31) (v := (512852847717)) (gw_t (i := 1071) (by decide +kernel) (by decide +kernel)) d131_31 ?_
        refine z_lif_ne (pc := 34) (tgt := 40) d131_34 d131_35 (by decide) h (fun h => ?_) (fun h => ?_)
        · skip
          refine x_lload_n (pc := 40) d131_40 rfl ?_
          refine x_ldc2 (pc := 41) (v := (1952541541)) (gw_t (i := 1072) (by decide +kernel) (by decide +kernel)) d131_41 ?_
          refine z_lif_ne (pc := 44) (tgt := 50) d131_44 d131_45 (by decide) h (fun h => ?_) (fun h => ?_)
          · skip
            refine x_lload_n (pc := 50) d131_50 rfl ?_
            refine x_ldc2 (pc := 51) (v := (29807)) (gw_t (i := 1073) (by decide +kernel) (by decide +kernel)) d131_51 ?_
            refine z_lif_ne (pc := 54) (tgt := 60) d131_54 d131_55 (by decide) h (fun h => ?_) (fun h => ?_)
            · skip
              refine x_lload_n (pc := 60) d131_60 rfl ?_
              refine x_ldc2 (pc := 61) (v := (7370100)) (gw_t (i := 1074) (by decide +kernel) (by decide +kernel)) d131_61 ?_
              refine z_lif_ne (pc := 64) (tgt := 71) d131_64 d131_65 (by decide) h (fun h => ?_) (fun h => ?_)
              · skip
                refine x_lload_n (pc := 71) d131_71 rfl ?_
                refine x_ldc2 (pc := 72) (v := (26990)) (gw_t (i := 1075) (by decide +kernel) (by decide +kernel)) d131_72 ?_
                refine z_lif_ne (pc := 75) (tgt := 82) d131_75 d131_76 (by decide) h (fun h => ?_) (fun h => ?_)
                · skip
                  refine x_lload_n (pc := 82) d131_82 rfl ?_
                  refine x_ldc2 (pc := 83) (v := (499968536439)) (gw_t (i := 1076) (by decide +kernel) (by decide +kernel)) d131_83 ?_
                  refine z_lif_ne (pc := 86) (tgt := 93) d131_86 d131_87 (by decide) h (fun h => ?_) (fun h => ?_)
                  · skip
                    refine x_lload_n (pc := 93) d131_93 rfl ?_
                    refine x_ldc2 (pc := 94) (v := (1936027236)) (gw_t (i := 1077) (by decide +kernel) (by decide +kernel)) d131_94 ?_
                    refine z_lif_ne (pc := 97) (tgt := 104) d131_97 d131_98 (by decide) h (fun h => ?_) (fun h => ?_)
                    · skip
                      refine x_lload_n (pc := 104) d131_104 rfl ?_
                      refine x_ldc2 (pc := 105) (v := (1835103083)) (gw_t (i := 1078) (by decide +kernel) (by decide +kernel)) d131_105 ?_
                      refine z_lif_ne (pc := 108) (tgt := 115) d131_108 d131_109 (by decide) h (fun h => ?_) (fun h => ?_)
                      · skip
                        refine x_lload_n (pc := 115) d131_115 rfl ?_
                        refine x_ldc2 (pc := 116) (v := (1751216740)) (gw_t (i := 1079) (by decide +kernel) (by decide +kernel)) d131_116 ?_
                        refine z_lif_ne (pc := 119) (tgt := 126) d131_119 d131_120 (by decide) h (fun h => ?_) (fun h => ?_)
                        · skip
                          refine x_lload_n (pc := 126) d131_126 rfl ?_
                          refine x_ldc2 (pc := 127) (v := (1869636974)) (gw_t (i := 1080) (by decide +kernel) (by decide +kernel)) d131_127 ?_
                          refine z_lif_ne (pc := 130) (tgt := 137) d131_130 d131_131 (by decide) h (fun h => ?_) (fun h => ?_)
                          · skip
                            refine x_lload_n (pc := 137) d131_137 rfl ?_
                            refine x_ldc2 (pc := 138) (v := (7631481)) (gw_t (i := 1081) (by decide +kernel) (by decide +kernel)) d131_138 ?_
                            refine z_lif_ne (pc := 141) (tgt := 148) d131_141 d131_142 (by decide) h (fun h => ?_) (fun h => ?_)
                            · skip
                              refine x_lload_n (pc := 148) d131_148 rfl ?_
                              refine x_ldc2 (pc := 149) (v := (426836779880)) (gw_t (i := 1082) (by decide +kernel) (by decide +kernel)) d131_149 ?_
                              refine z_lif_ne (pc := 152) (tgt := 159) d131_152 d131_153 (by decide) h (fun h => ?_) (fun h => ?_)
                              · skip
                                refine x_lload_n (pc := 159) d131_159 rfl ?_
                                refine x_ldc2 (pc := 160) (v := (439855772532)) (gw_t (i := 1083) (by decide +kernel) (by decide +kernel)) d131_160 ?_
                                refine z_lif_ne (pc := 163) (tgt := 170) d131_163 d131_164 (by decide) h (fun h => ?_) (fun h => ?_)
                                · skip
                                  refine x_lload_n (pc := 170) d131_170 rfl ?_
                                  refine x_ldc2 (pc := 171) (v := (7697253)) (gw_t (i := 1084) (by decide +kernel) (by decide +kernel)) d131_171 ?_
                                  refine z_lif_ne (pc := 174) (tgt := 181) d131_174 d131_175 (by decide) h (fun h => ?_) (fun h => ?_)
                                  · skip
                                    refine x_lload_n (pc := 181) d131_181 rfl ?_
                                    refine x_ldc2 (pc := 182) (v := (1818325876)) (gw_t (i := 1085) (by decide +kernel) (by decide +kernel)) d131_182 ?_
                                    refine z_lif_ne (pc := 185) (tgt := 192) d131_185 d131_186 (by decide) h (fun h => ?_) (fun h => ?_)
                                    · skip
                                      refine x_lload_n (pc := 192) d131_192 rfl ?_
                                      refine x_ldc2 (pc := 193) (v := (131294808271214)) (gw_t (i := 1086) (by decide +kernel) (by decide +kernel)) d131_193 ?_
                                      refine z_lif_ne (pc := 196) (tgt := 203) d131_196 d131_197 (by decide) h (fun h => ?_) (fun h => ?_)
                                      · skip
                                        refine x_iconst (pc := 203) (v := (-1)) d131_203 (by decide) ?_
                                        exact z_iret (pc := 204) d131_204 rfl h
                                      · skip
                                        refine x_bipush (pc := 200) (v := (18)) d131_200 (by decide) ?_
                                        exact z_iret (pc := 202) d131_202 rfl h
                                    · skip
                                      refine x_bipush (pc := 189) (v := (17)) d131_189 (by decide) ?_
                                      exact z_iret (pc := 191) d131_191 rfl h
                                  · skip
                                    refine x_bipush (pc := 178) (v := (16)) d131_178 (by decide) ?_
                                    exact z_iret (pc := 180) d131_180 rfl h
                                · skip
                                  refine x_bipush (pc := 167) (v := (15)) d131_167 (by decide) ?_
                                  exact z_iret (pc := 169) d131_169 rfl h
                              · skip
                                refine x_bipush (pc := 156) (v := (14)) d131_156 (by decide) ?_
                                exact z_iret (pc := 158) d131_158 rfl h
                            · skip
                              refine x_bipush (pc := 145) (v := (13)) d131_145 (by decide) ?_
                              exact z_iret (pc := 147) d131_147 rfl h
                          · skip
                            refine x_bipush (pc := 134) (v := (12)) d131_134 (by decide) ?_
                            exact z_iret (pc := 136) d131_136 rfl h
                        · skip
                          refine x_bipush (pc := 123) (v := (11)) d131_123 (by decide) ?_
                          exact z_iret (pc := 125) d131_125 rfl h
                      · skip
                        refine x_bipush (pc := 112) (v := (10)) d131_112 (by decide) ?_
                        exact z_iret (pc := 114) d131_114 rfl h
                    · skip
                      refine x_bipush (pc := 101) (v := (9)) d131_101 (by decide) ?_
                      exact z_iret (pc := 103) d131_103 rfl h
                  · skip
                    refine x_bipush (pc := 90) (v := (8)) d131_90 (by decide) ?_
                    exact z_iret (pc := 92) d131_92 rfl h
                · skip
                  refine x_bipush (pc := 79) (v := (7)) d131_79 (by decide) ?_
                  exact z_iret (pc := 81) d131_81 rfl h
              · skip
                refine x_bipush (pc := 68) (v := (6)) d131_68 (by decide) ?_
                exact z_iret (pc := 70) d131_70 rfl h
            · skip
              refine x_iconst (pc := 58) (v := (5)) d131_58 (by decide) ?_
              exact z_iret (pc := 59) d131_59 rfl h
          · skip
            refine x_iconst (pc := 48) (v := (4)) d131_48 (by decide) ?_
            exact z_iret (pc := 49) d131_49 rfl h
        · skip
          refine x_iconst (pc := 38) (v := (3)) d131_38 (by decide) ?_
          exact z_iret (pc := 39) d131_39 rfl h
      · skip
        refine x_iconst (pc := 28) (v := (2)) d131_28 (by decide) ?_
        exact z_iret (pc := 29) d131_29 rfl h
    · skip
      refine x_iconst (pc := 18) (v := (1)) d131_18 (by decide) ?_
      exact z_iret (pc := 19) d131_19 rfl h
  · skip
    refine x_iconst (pc := 8) (v := (0)) d131_8 (by decide) ?_
    exact z_iret (pc := 9) d131_9 rfl h
def r_next_26 (K0 : St → Option (St)) (s : St) : Option (St) := bnd (s.1 202 0 0) fun v4 => bnd (si s 202 0 0 (v4 + (1 : Int32))) fun s5 => K0 s5
set_option maxRecDepth 100000 in
theorem t_r_next_26 {r : St} (K0 : St → Option (St)) (hK0 : ∀ (s : St), K0 s = some r → Wp (rmd 1 0 0) 128 (zv (fun s1 => s1 = r)) 0 0 0 [(0, .ref 280)] [] (mk s) TT) : ∀ (s : St), r_next_26 K0 s = some r → Wp (rmd 1 0 0) 128 (zv (fun s1 => s1 = r)) 0 0 26 [(0, .ref 280)] [] (mk s) TT := by
  intro s h
  unfold r_next_26 at h
  refine x_aload_n (pc := 26) d128_26 rfl ?_
  refine x_dup (pc := 27) d128_27 rfl ?_
  refine z_geti (pc := 28) d128_28 fk9_211 shL280 rfl h (fun v4 h => ?_)
  refine x_iconst (pc := 31) (v := (1)) d128_31 (by decide) ?_
  refine x_iadd (pc := 32) d128_32 ?_
  refine z_puti (pc := 33) d128_33 fk9_211 shL280 rfl rfl ⟨rfl, rfl⟩ h (fun s5 h => ?_)
  refine x_goto (pc := 36) (tgt := 0) d128_36 (by decide) ?_
  refine wp_lv (lv' := [(0, .ref 280)]) ⟨rfl, trivial⟩ ?_
  exact hK0 s5 h
def r_next_307 (y0 : Int32) (s : St) : Option (St) := bnd (si s 203 0 0 y0) fun s21 => bnd (s21.1 202 0 0) fun v22 => bnd (si s21 202 0 0 (v22 + (1 : Int32))) fun s23 => some s23
set_option maxRecDepth 100000 in
theorem t_r_next_307 {r : St} : ∀ (y0 : Int32) (s : St), r_next_307 y0 s = some r → Wp (rmd 1 0 0) 128 (zv (fun s1 => s1 = r)) 0 0 307 [(0, .ref 280)] [.int y0, .ref 280] (mk s) TT := by
  intro y0 s h
  unfold r_next_307 at h
  refine z_puti (pc := 307) d128_307 fk9_221 shL280 rfl rfl ⟨rfl, rfl⟩ h (fun s21 h => ?_)
  refine x_aload_n (pc := 310) d128_310 rfl ?_
  refine x_dup (pc := 311) d128_311 rfl ?_
  refine z_geti (pc := 312) d128_312 fk9_211 shL280 rfl h (fun v22 h => ?_)
  refine x_iconst (pc := 315) (v := (1)) d128_315 (by decide) ?_
  refine x_iadd (pc := 316) d128_316 ?_
  refine z_puti (pc := 317) d128_317 fk9_211 shL280 rfl rfl ⟨rfl, rfl⟩ h (fun s23 h => ?_)
  exact z_vret (pc := 320) d128_320 rfl h
def r_next_283 (y0 : Int32) (s : St) : Option (St) := bnd (si s 203 0 0 y0) fun s30 => some s30
set_option maxRecDepth 100000 in
theorem t_r_next_283 {r : St} : ∀ (y0 : Int32) (s : St), r_next_283 y0 s = some r → Wp (rmd 1 0 0) 128 (zv (fun s1 => s1 = r)) 0 0 283 [] [.int y0, .ref 280] (mk s) TT := by
  intro y0 s h
  unfold r_next_283 at h
  refine z_puti (pc := 283) d128_283 fk9_221 shL280 rfl rfl ⟨rfl, rfl⟩ h (fun s30 h => ?_)
  refine x_goto (pc := 286) (tgt := 320) d128_286 (by decide) ?_
  exact z_vret (pc := 320) d128_320 rfl h
def r_next_252 (K202 : Int32 → St → Option (St)) (x2 : Int32) (y0 : Int64) (s : St) : Option (St) := bnd (sl s 206 0 0 y0) fun s32 => bnd (s32.1 202 0 0) fun v33 => bnd (si s32 202 0 0 (v33 + (1 : Int32))) fun s34 => K202 (x2 + (1 : Int32)) s34
set_option maxRecDepth 100000 in
theorem t_r_next_252 {r : St} (K202 : Int32 → St → Option (St)) (hK202 : ∀ (x2 : Int32) (s : St), K202 x2 s = some r → Wp (rmd 1 0 0) 128 (zv (fun s1 => s1 = r)) 0 0 202 [(0, .ref 280), (2, .int x2)] [] (mk s) TT) : ∀ (x2 : Int32) (y0 : Int64) (s : St), r_next_252 K202 x2 y0 s = some r → Wp (rmd 1 0 0) 128 (zv (fun s1 => s1 = r)) 0 0 252 [(0, .ref 280), (2, .int x2)] [.long y0, .ref 280] (mk s) TT := by
  intro x2 y0 s h
  unfold r_next_252 at h
  refine z_putl (pc := 252) d128_252 fk9_238 shL280 rfl rfl rfl h (fun s32 h => ?_)
  refine y_inc (pc := 255) (c := (1)) d128_255 (by decide) (by decide) rfl ?_
  refine x_aload_n (pc := 258) d128_258 rfl ?_
  refine x_dup (pc := 259) d128_259 rfl ?_
  refine z_geti (pc := 260) d128_260 fk9_211 shL280 rfl h (fun v33 h => ?_)
  refine x_iconst (pc := 263) (v := (1)) d128_263 (by decide) ?_
  refine x_iadd (pc := 264) d128_264 ?_
  refine z_puti (pc := 265) d128_265 fk9_211 shL280 rfl rfl ⟨rfl, rfl⟩ h (fun s34 h => ?_)
  refine x_goto (pc := 268) (tgt := 202) d128_268 (by decide) ?_
  refine wp_lv (lv' := [(0, .ref 280), (2, .int (x2 + (1 : Int32)))]) ⟨rfl, rfl, trivial⟩ ?_
  exact hK202 (x2 + (1 : Int32)) s34 h
def r_next_202 : Nat → Int32 → St → Option (St)
  | 0, _, _ => none
  | n + 1, x2, s => bnd (s.1 202 0 0) fun v25 => cal2 (r_byteAt v25 s) fun v27 s26 => cal2 (r_isFigure v27 s26) fun v29 s28 => if v29 = 0 then (if x2 ≤ (9 : Int32) then (r_next_283 (3 : Int32) s28) else (r_next_283 (1 : Int32) s28)) else (if (9 : Int32) ≤ x2 then (bnd (s28.2 206 0 0) fun v31 => r_next_252 (r_next_202 n) x2 v31 s28) else (bnd (s28.2 206 0 0) fun v35 => bnd (s28.1 202 0 0) fun v36 => cal2 (r_byteAt v36 s28) fun v38 s37 => r_next_252 (r_next_202 n) x2 ((((10 : Int64) * v35) + v38.toInt64) - (48 : Int64)) s37))
set_option maxRecDepth 100000 in
theorem t_r_next_202 {r : St} : ∀ (n : Nat) (x2 : Int32) (s : St), r_next_202 n x2 s = some r → Wp (rmd 1 0 0) 128 (zv (fun s1 => s1 = r)) 0 0 202 [(0, .ref 280), (2, .int x2)] [] (mk s) TT := by
  intro n
  induction n with
  | zero =>
    intro x2 s h
    rw [r_next_202.eq_1] at h
    cases h
  | succ n ih =>
    intro x2 s h
    rw [r_next_202.eq_2] at h
    refine x_aload_n (pc := 202) d128_202 rfl ?_
    refine x_aload_n (pc := 203) d128_203 rfl ?_
    refine z_geti (pc := 204) d128_204 fk9_211 shL280 rfl h (fun v25 h => ?_)
    refine z_cV1i (pc := 207) d128_207 ml9_214 mv129 shL280 (t_r_byteAt v25 s) (by decide) (Nat.le_of_ble_eq_true rfl) ⟨Nat.zero_le _, Nat.zero_le _⟩ h (fun v27 s26 h => ?_)
    refine z_cS1i (pc := 210) d128_210 ml9_235 mv132 (t_r_isFigure v27 s26) (by decide) (Nat.le_of_ble_eq_true rfl) ⟨Nat.zero_le _, Nat.zero_le _⟩ h (fun v29 s28 h => ?_)
    refine z_if_eq (pc := 213) (tgt := 271) d128_213 (by decide) h (fun h => ?_) (fun h => ?_)
    · skip
      refine x_aload_n (pc := 271) d128_271 rfl ?_
      refine x_iload_n (pc := 272) d128_272 rfl ?_
      refine x_bipush (pc := 273) (v := (9)) d128_273 (by decide) ?_
      refine z_icmp_le (pc := 275) (tgt := 282) d128_275 (by decide) h (fun h => ?_) (fun h => ?_)
      · skip
        refine x_iconst (pc := 282) (v := (3)) d128_282 (by decide) ?_
        refine wp_lv (lv' := []) trivial ?_
        exact t_r_next_283 (3 : Int32) s28 h
      · skip
        refine x_iconst (pc := 278) (v := (1)) d128_278 (by decide) ?_
        refine x_goto (pc := 279) (tgt := 283) d128_279 (by decide) ?_
        refine wp_lv (lv' := []) trivial ?_
        exact t_r_next_283 (1 : Int32) s28 h
    · skip
      refine x_aload_n (pc := 216) d128_216 rfl ?_
      refine x_iload_n (pc := 217) d128_217 rfl ?_
      refine x_bipush (pc := 218) (v := (9)) d128_218 (by decide) ?_
      refine z_icmp_ge (pc := 220) (tgt := 248) d128_220 (by decide) h (fun h => ?_) (fun h => ?_)
      · skip
        refine x_aload_n (pc := 248) d128_248 rfl ?_
        refine z_getl (pc := 249) d128_249 fk9_238 shL280 rfl h (fun v31 h => ?_)
        refine wp_lv (lv' := [(0, .ref 280), (2, .int x2)]) ⟨rfl, rfl, trivial⟩ ?_
        exact t_r_next_252 (r_next_202 n) ih x2 v31 s28 h
      · skip
        refine x_ldc2 (pc := 223) (v := (10)) (gw_t (i := 1090) (by decide +kernel) (by decide +kernel)) d128_223 ?_
        refine x_aload_n (pc := 226) d128_226 rfl ?_
        refine z_getl (pc := 227) d128_227 fk9_238 shL280 rfl h (fun v35 h => ?_)
        refine x_lmul (pc := 230) d128_230 ?_
        refine x_aload_n (pc := 231) d128_231 rfl ?_
        refine x_aload_n (pc := 232) d128_232 rfl ?_
        refine z_geti (pc := 233) d128_233 fk9_211 shL280 rfl h (fun v36 h => ?_)
        refine z_cV1i (pc := 236) d128_236 ml9_214 mv129 shL280 (t_r_byteAt v36 s28) (by decide) (Nat.le_of_ble_eq_true rfl) ⟨Nat.zero_le _, Nat.zero_le _⟩ h (fun v38 s37 h => ?_)
        refine x_i2l (pc := 239) d128_239 ?_
        refine x_ladd (pc := 240) d128_240 ?_
        refine x_ldc2 (pc := 241) (v := (48)) (gw_t (i := 1091) (by decide +kernel) (by decide +kernel)) d128_241 ?_
        refine x_lsub (pc := 244) d128_244 ?_
        refine x_goto (pc := 245) (tgt := 252) d128_245 (by decide) ?_
        refine wp_lv (lv' := [(0, .ref 280), (2, .int x2)]) ⟨rfl, rfl, trivial⟩ ?_
        exact t_r_next_252 (r_next_202 n) ih x2 ((((10 : Int64) * v35) + v38.toInt64) - (48 : Int64)) s37 h
def r_next_182 (y0 : Int32) (s : St) : Option (St) := bnd (si s 203 0 0 y0) fun s45 => some s45
set_option maxRecDepth 100000 in
theorem t_r_next_182 {r : St} : ∀ (y0 : Int32) (s : St), r_next_182 y0 s = some r → Wp (rmd 1 0 0) 128 (zv (fun s1 => s1 = r)) 0 0 182 [] [.int y0, .ref 280] (mk s) TT := by
  intro y0 s h
  unfold r_next_182 at h
  refine z_puti (pc := 182) d128_182 fk9_221 shL280 rfl rfl ⟨rfl, rfl⟩ h (fun s45 h => ?_)
  refine x_goto (pc := 185) (tgt := 320) d128_185 (by decide) ?_
  exact z_vret (pc := 320) d128_320 rfl h
def r_next_156 (x2 : Int32) (y0 : Int32) (s : St) : Option (St) := if x2 = (1 : Int32) then (r_next_182 (2 : Int32) s) else (if 0 ≤ y0 then (r_next_182 ((10 : Int32) + y0) s) else (r_next_182 (1 : Int32) s))
set_option maxRecDepth 100000 in
theorem t_r_next_156 {r : St} : ∀ (x2 : Int32) (y0 : Int32) (s : St), r_next_156 x2 y0 s = some r → Wp (rmd 1 0 0) 128 (zv (fun s1 => s1 = r)) 0 0 156 [(0, .ref 280), (2, .int x2)] [.int y0] (mk s) TT := by
  intro x2 y0 s h
  unfold r_next_156 at h
  refine x_istore (pc := 156) d128_156 (by decide) ?_
  refine x_aload_n (pc := 158) d128_158 rfl ?_
  refine x_iload_n (pc := 159) d128_159 rfl ?_
  refine x_iconst (pc := 160) (v := (1)) d128_160 (by decide) ?_
  refine z_icmp_ne (pc := 161) (tgt := 168) d128_161 (by decide) h (fun h => ?_) (fun h => ?_)
  · skip
    refine x_iload (pc := 168) d128_168 rfl ?_
    refine z_if_ge (pc := 170) (tgt := 177) d128_170 (by decide) h (fun h => ?_) (fun h => ?_)
    · skip
      refine x_bipush (pc := 177) (v := (10)) d128_177 (by decide) ?_
      refine x_iload (pc := 179) d128_179 rfl ?_
      refine x_iadd (pc := 181) d128_181 ?_
      refine wp_lv (lv' := []) trivial ?_
      exact t_r_next_182 ((10 : Int32) + y0) s h
    · skip
      refine x_iconst (pc := 173) (v := (1)) d128_173 (by decide) ?_
      refine x_goto (pc := 174) (tgt := 182) d128_174 (by decide) ?_
      refine wp_lv (lv' := []) trivial ?_
      exact t_r_next_182 (1 : Int32) s h
  · skip
    refine x_iconst (pc := 164) (v := (2)) d128_164 (by decide) ?_
    refine x_goto (pc := 165) (tgt := 182) d128_165 (by decide) ?_
    refine wp_lv (lv' := []) trivial ?_
    exact t_r_next_182 (2 : Int32) s h
def r_next_117 (K79 : Int32 → Int32 → Int64 → St → Option (St)) (x1 : Int32) (x2 : Int32) (y0 : Int64) (s : St) : Option (St) := bnd (s.1 202 0 0) fun v48 => bnd (si s 202 0 0 (v48 + (1 : Int32))) fun s49 => K79 x1 (x2 + (1 : Int32)) y0 s49
set_option maxRecDepth 100000 in
theorem t_r_next_117 {r : St} (K79 : Int32 → Int32 → Int64 → St → Option (St)) (hK79 : ∀ (x1 : Int32) (x2 : Int32) (x3 : Int64) (s : St), K79 x1 x2 x3 s = some r → Wp (rmd 1 0 0) 128 (zv (fun s1 => s1 = r)) 0 0 79 [(0, .ref 280), (1, .int x1), (2, .int x2), (3, .long x3)] [] (mk s) TT) : ∀ (x1 : Int32) (x2 : Int32) (y0 : Int64) (s : St), r_next_117 K79 x1 x2 y0 s = some r → Wp (rmd 1 0 0) 128 (zv (fun s1 => s1 = r)) 0 0 117 [(0, .ref 280), (1, .int x1), (2, .int x2)] [.long y0] (mk s) TT := by
  intro x1 x2 y0 s h
  unfold r_next_117 at h
  refine x_lstore_n (pc := 117) d128_117 (by decide) ?_
  refine y_inc (pc := 118) (c := (1)) d128_118 (by decide) (by decide) rfl ?_
  refine x_aload_n (pc := 121) d128_121 rfl ?_
  refine x_dup (pc := 122) d128_122 rfl ?_
  refine z_geti (pc := 123) d128_123 fk9_211 shL280 rfl h (fun v48 h => ?_)
  refine x_iconst (pc := 126) (v := (1)) d128_126 (by decide) ?_
  refine x_iadd (pc := 127) d128_127 ?_
  refine z_puti (pc := 128) d128_128 fk9_211 shL280 rfl rfl ⟨rfl, rfl⟩ h (fun s49 h => ?_)
  refine x_goto (pc := 131) (tgt := 79) d128_131 (by decide) ?_
  refine wp_lv (lv' := [(0, .ref 280), (1, .int x1), (2, .int (x2 + (1 : Int32))), (3, .long y0)]) ⟨rfl, rfl, rfl, rfl, trivial⟩ ?_
  exact hK79 x1 (x2 + (1 : Int32)) y0 s49 h
def r_next_79 : Nat → Int32 → Int32 → Int64 → St → Option (St)
  | 0, _, _, _, _ => none
  | n + 1, x1, x2, x3, s => bnd (s.1 202 0 0) fun v39 => cal2 (r_byteAt v39 s) fun v41 s40 => cal2 (r_isSmall v41 s40) fun v43 s42 => if v43 = 0 then (bnd (si s42 205 0 0 (x1 - (97 : Int32))) fun s44 => if (7 : Int32) ≤ x2 then (r_next_156 x2 (-1 : Int32) s44) else (cal2 (r_wordOf x3 s44) fun v47 s46 => r_next_156 x2 v47 s46)) else (if (7 : Int32) ≤ x2 then (r_next_117 (r_next_79 n) x1 x2 x3 s42) else (bnd (s42.1 202 0 0) fun v50 => cal2 (r_byteAt v50 s42) fun v52 s51 => r_next_117 (r_next_79 n) x1 x2 ((x3 <<< ((8 : Int32).toInt64 &&& 63)) ||| v52.toInt64) s51))
set_option maxRecDepth 100000 in
theorem t_r_next_79 {r : St} : ∀ (n : Nat) (x1 : Int32) (x2 : Int32) (x3 : Int64) (s : St), r_next_79 n x1 x2 x3 s = some r → Wp (rmd 1 0 0) 128 (zv (fun s1 => s1 = r)) 0 0 79 [(0, .ref 280), (1, .int x1), (2, .int x2), (3, .long x3)] [] (mk s) TT := by
  intro n
  induction n with
  | zero =>
    intro x1 x2 x3 s h
    rw [r_next_79.eq_1] at h
    cases h
  | succ n ih =>
    intro x1 x2 x3 s h
    rw [r_next_79.eq_2] at h
    refine x_aload_n (pc := 79) d128_79 rfl ?_
    refine x_aload_n (pc := 80) d128_80 rfl ?_
    refine z_geti (pc := 81) d128_81 fk9_211 shL280 rfl h (fun v39 h => ?_)
    refine z_cV1i (pc := 84) d128_84 ml9_214 mv129 shL280 (t_r_byteAt v39 s) (by decide) (Nat.le_of_ble_eq_true rfl) ⟨Nat.zero_le _, Nat.zero_le _⟩ h (fun v41 s40 h => ?_)
    refine z_cS1i (pc := 87) d128_87 ml9_224 mv130 (t_r_isSmall v41 s40) (by decide) (Nat.le_of_ble_eq_true rfl) ⟨Nat.zero_le _, Nat.zero_le _⟩ h (fun v43 s42 h => ?_)
    refine z_if_eq (pc := 90) (tgt := 134) d128_90 (by decide) h (fun h => ?_) (fun h => ?_)
    · skip
      refine x_aload_n (pc := 134) d128_134 rfl ?_
      refine x_iload_n (pc := 135) d128_135 rfl ?_
      refine x_bipush (pc := 136) (v := (97)) d128_136 (by decide) ?_
      refine x_isub (pc := 138) d128_138 ?_
      refine z_puti (pc := 139) d128_139 fk9_228 shL280 rfl rfl ⟨rfl, rfl⟩ h (fun s44 h => ?_)
      refine x_iload_n (pc := 142) d128_142 rfl ?_
      refine x_bipush (pc := 143) (v := (7)) d128_143 (by decide) ?_
      refine z_icmp_ge (pc := 145) (tgt := 155) d128_145 (by decide) h (fun h => ?_) (fun h => ?_)
      · skip
        refine x_iconst (pc := 155) (v := (-1)) d128_155 (by decide) ?_
        refine wp_lv (lv' := [(0, .ref 280), (2, .int x2)]) ⟨rfl, rfl, trivial⟩ ?_
        exact t_r_next_156 x2 (-1 : Int32) s44 h
      · skip
        refine x_lload_n (pc := 148) d128_148 rfl ?_
        refine z_cS1i (pc := 149) d128_149 ml9_231 mv131 (t_r_wordOf x3 s44) (by decide) (Nat.le_of_ble_eq_true rfl) ⟨Nat.zero_le _, Nat.zero_le _⟩ h (fun v47 s46 h => ?_)
        refine x_goto (pc := 152) (tgt := 156) d128_152 (by decide) ?_
        refine wp_lv (lv' := [(0, .ref 280), (2, .int x2)]) ⟨rfl, rfl, trivial⟩ ?_
        exact t_r_next_156 x2 v47 s46 h
    · skip
      refine x_iload_n (pc := 93) d128_93 rfl ?_
      refine x_bipush (pc := 94) (v := (7)) d128_94 (by decide) ?_
      refine z_icmp_ge (pc := 96) (tgt := 116) d128_96 (by decide) h (fun h => ?_) (fun h => ?_)
      · skip
        refine x_lload_n (pc := 116) d128_116 rfl ?_
        refine wp_lv (lv' := [(0, .ref 280), (1, .int x1), (2, .int x2)]) ⟨rfl, rfl, rfl, trivial⟩ ?_
        exact t_r_next_117 (r_next_79 n) ih x1 x2 x3 s42 h
      · skip
        refine x_lload_n (pc := 99) d128_99 rfl ?_
        refine x_bipush (pc := 100) (v := (8)) d128_100 (by decide) ?_
        refine x_lshl (pc := 102) d128_102 ?_
        refine x_aload_n (pc := 103) d128_103 rfl ?_
        refine x_aload_n (pc := 104) d128_104 rfl ?_
        refine z_geti (pc := 105) d128_105 fk9_211 shL280 rfl h (fun v50 h => ?_)
        refine z_cV1i (pc := 108) d128_108 ml9_214 mv129 shL280 (t_r_byteAt v50 s42) (by decide) (Nat.le_of_ble_eq_true rfl) ⟨Nat.zero_le _, Nat.zero_le _⟩ h (fun v52 s51 h => ?_)
        refine x_i2l (pc := 111) d128_111 ?_
        refine x_lor (pc := 112) d128_112 ?_
        refine x_goto (pc := 113) (tgt := 117) d128_113 (by decide) ?_
        refine wp_lv (lv' := [(0, .ref 280), (1, .int x1), (2, .int x2)]) ⟨rfl, rfl, rfl, trivial⟩ ?_
        exact t_r_next_117 (r_next_79 n) ih x1 x2 ((x3 <<< ((8 : Int32).toInt64 &&& 63)) ||| v52.toInt64) s51 h
def r_next_0 : Nat → St → Option (St)
  | 0, _ => none
  | n + 1, s => bnd (s.1 202 0 0) fun v1 => cal2 (r_byteAt v1 s) fun v3 s2 => if v3 = (32 : Int32) then (r_next_26 (r_next_0 n) s2) else (bnd (s2.1 202 0 0) fun v6 => cal2 (r_byteAt v6 s2) fun v8 s7 => if v8 = (10 : Int32) then (r_next_26 (r_next_0 n) s7) else (bnd (s7.1 202 0 0) fun v9 => bnd (si s7 204 0 0 v9) fun s10 => bnd (s10.1 202 0 0) fun v11 => cal2 (r_byteAt v11 s10) fun v13 s12 => if 0 ≤ v13 then (cal2 (r_isSmall v13 s12) fun v15 s14 => if v15 = 0 then (cal2 (r_isFigure v13 s14) fun v17 s16 => if v17 = 0 then (bnd (si s16 207 0 0 v13) fun s18 => cal2 (r_isSignByte v13 s18) fun v20 s19 => if v20 = 0 then (r_next_307 (1 : Int32) s19) else (r_next_307 (4 : Int32) s19)) else (bnd (sl s16 206 0 0 (0 : Int64)) fun s24 => r_next_202 900 (0 : Int32) s24)) else (r_next_79 900 v13 (0 : Int32) (0 : Int64) s14)) else (bnd (si s12 203 0 0 (0 : Int32)) fun s53 => some s53)))
set_option maxRecDepth 100000 in
theorem t_r_next_0 {r : St} : ∀ (n : Nat) (s : St), r_next_0 n s = some r → Wp (rmd 1 0 0) 128 (zv (fun s1 => s1 = r)) 0 0 0 [(0, .ref 280)] [] (mk s) TT := by
  intro n
  induction n with
  | zero =>
    intro s h
    rw [r_next_0.eq_1] at h
    cases h
  | succ n ih =>
    intro s h
    rw [r_next_0.eq_2] at h
    refine x_aload_n (pc := 0) d128_0 rfl ?_
    refine x_aload_n (pc := 1) d128_1 rfl ?_
    refine z_geti (pc := 2) d128_2 fk9_211 shL280 rfl h (fun v1 h => ?_)
    refine z_cV1i (pc := 5) d128_5 ml9_214 mv129 shL280 (t_r_byteAt v1 s) (by decide) (Nat.le_of_ble_eq_true rfl) ⟨Nat.zero_le _, Nat.zero_le _⟩ h (fun v3 s2 h => ?_)
    refine x_bipush (pc := 8) (v := (32)) d128_8 (by decide) ?_
    refine z_icmp_eq (pc := 10) (tgt := 26) d128_10 (by decide) h (fun h => ?_) (fun h => ?_)
    · skip
      refine wp_lv (lv' := [(0, .ref 280)]) ⟨rfl, trivial⟩ ?_
      exact t_r_next_26 (r_next_0 n) ih s2 h
    · skip
      refine x_aload_n (pc := 13) d128_13 rfl ?_
      refine x_aload_n (pc := 14) d128_14 rfl ?_
      refine z_geti (pc := 15) d128_15 fk9_211 shL280 rfl h (fun v6 h => ?_)
      refine z_cV1i (pc := 18) d128_18 ml9_214 mv129 shL280 (t_r_byteAt v6 s2) (by decide) (Nat.le_of_ble_eq_true rfl) ⟨Nat.zero_le _, Nat.zero_le _⟩ h (fun v8 s7 h => ?_)
      refine x_bipush (pc := 21) (v := (10)) d128_21 (by decide) ?_
      refine z_icmp_ne (pc := 23) (tgt := 39) d128_23 (by decide) h (fun h => ?_) (fun h => ?_)
      · skip
        refine x_aload_n (pc := 39) d128_39 rfl ?_
        refine x_aload_n (pc := 40) d128_40 rfl ?_
        refine z_geti (pc := 41) d128_41 fk9_211 shL280 rfl h (fun v9 h => ?_)
        refine z_puti (pc := 44) d128_44 fk9_218 shL280 rfl rfl ⟨rfl, rfl⟩ h (fun s10 h => ?_)
        refine x_aload_n (pc := 47) d128_47 rfl ?_
        refine x_aload_n (pc := 48) d128_48 rfl ?_
        refine z_geti (pc := 49) d128_49 fk9_211 shL280 rfl h (fun v11 h => ?_)
        refine z_cV1i (pc := 52) d128_52 ml9_214 mv129 shL280 (t_r_byteAt v11 s10) (by decide) (Nat.le_of_ble_eq_true rfl) ⟨Nat.zero_le _, Nat.zero_le _⟩ h (fun v13 s12 h => ?_)
        refine x_istore_n (pc := 55) d128_55 (by decide) ?_
        refine x_iload_n (pc := 56) d128_56 rfl ?_
        refine z_if_ge (pc := 57) (tgt := 68) d128_57 (by decide) h (fun h => ?_) (fun h => ?_)
        · skip
          refine x_iload_n (pc := 68) d128_68 rfl ?_
          refine z_cS1i (pc := 69) d128_69 ml9_224 mv130 (t_r_isSmall v13 s12) (by decide) (Nat.le_of_ble_eq_true rfl) ⟨Nat.zero_le _, Nat.zero_le _⟩ h (fun v15 s14 h => ?_)
          refine z_if_eq (pc := 72) (tgt := 188) d128_72 (by decide) h (fun h => ?_) (fun h => ?_)
          · skip
            refine x_iload_n (pc := 188) d128_188 rfl ?_
            refine z_cS1i (pc := 189) d128_189 ml9_235 mv132 (t_r_isFigure v13 s14) (by decide) (Nat.le_of_ble_eq_true rfl) ⟨Nat.zero_le _, Nat.zero_le _⟩ h (fun v17 s16 h => ?_)
            refine z_if_eq (pc := 192) (tgt := 289) d128_192 (by decide) h (fun h => ?_) (fun h => ?_)
            · skip
              refine x_aload_n (pc := 289) d128_289 rfl ?_
              refine x_iload_n (pc := 290) d128_290 rfl ?_
              refine z_puti (pc := 291) d128_291 fk9_246 shL280 rfl rfl ⟨rfl, rfl⟩ h (fun s18 h => ?_)
              refine x_aload_n (pc := 294) d128_294 rfl ?_
              refine x_iload_n (pc := 295) d128_295 rfl ?_
              refine z_cS1i (pc := 296) d128_296 ml9_249 mv133 (t_r_isSignByte v13 s18) (by decide) (Nat.le_of_ble_eq_true rfl) ⟨Nat.zero_le _, Nat.zero_le _⟩ h (fun v20 s19 h => ?_)
              refine z_if_eq (pc := 299) (tgt := 306) d128_299 (by decide) h (fun h => ?_) (fun h => ?_)
              · skip
                refine x_iconst (pc := 306) (v := (1)) d128_306 (by decide) ?_
                refine wp_lv (lv' := [(0, .ref 280)]) ⟨rfl, trivial⟩ ?_
                exact t_r_next_307 (1 : Int32) s19 h
              · skip
                refine x_iconst (pc := 302) (v := (4)) d128_302 (by decide) ?_
                refine x_goto (pc := 303) (tgt := 307) d128_303 (by decide) ?_
                refine wp_lv (lv' := [(0, .ref 280)]) ⟨rfl, trivial⟩ ?_
                exact t_r_next_307 (4 : Int32) s19 h
            · skip
              refine x_iconst (pc := 195) (v := (0)) d128_195 (by decide) ?_
              refine x_istore_n (pc := 196) d128_196 (by decide) ?_
              refine x_aload_n (pc := 197) d128_197 rfl ?_
              refine x_lconst (pc := 198) (v := (0)) d128_198 (by decide) ?_
              refine z_putl (pc := 199) d128_199 fk9_238 shL280 rfl rfl rfl h (fun s24 h => ?_)
              refine wp_lv (lv' := [(0, .ref 280), (2, .int (0 : Int32))]) ⟨rfl, rfl, trivial⟩ ?_
              exact t_r_next_202 900 (0 : Int32) s24 h
          · skip
            refine x_iconst (pc := 75) (v := (0)) d128_75 (by decide) ?_
            refine x_istore_n (pc := 76) d128_76 (by decide) ?_
            refine x_lconst (pc := 77) (v := (0)) d128_77 (by decide) ?_
            refine x_lstore_n (pc := 78) d128_78 (by decide) ?_
            refine wp_lv (lv' := [(0, .ref 280), (1, .int v13), (2, .int (0 : Int32)), (3, .long (0 : Int64))]) ⟨rfl, rfl, rfl, rfl, trivial⟩ ?_
            exact t_r_next_79 900 v13 (0 : Int32) (0 : Int64) s14 h
        · skip
          refine x_aload_n (pc := 60) d128_60 rfl ?_
          refine x_iconst (pc := 61) (v := (0)) d128_61 (by decide) ?_
          refine z_puti (pc := 62) d128_62 fk9_221 shL280 rfl rfl ⟨rfl, rfl⟩ h (fun s53 h => ?_)
          refine x_goto (pc := 65) (tgt := 320) d128_65 (by decide) ?_
          exact z_vret (pc := 320) d128_320 rfl h
      · skip
        refine wp_lv (lv' := [(0, .ref 280)]) ⟨rfl, trivial⟩ ?_
        exact t_r_next_26 (r_next_0 n) ih s7 h
def r_next (s : St) : Option (St) := r_next_0 900 s
set_option maxRecDepth 100000 in
theorem t_r_next (s : St) (r : St) (h : r_next s = some r) : Rv 1 128 [.ref 280] s (fun s1 => s1 = r) := by
  refine ct_of (by decide +kernel) (Nat.le_of_ble_eq_true rfl) ?_
  show Wp _ _ _ _ _ _ [(0, .ref 280)] _ _ _
  unfold r_next at h
  refine wp_lv (lv' := [(0, .ref 280)]) ⟨rfl, trivial⟩ ?_
  exact t_r_next_0 900 s h
def r_misplaced (s : St) : Option (St) := bnd (s.1 208 0 0) fun v1 => if v1 = 0 then (bnd (si s 208 0 0 (1 : Int32)) fun s2 => bnd (s2.1 204 0 0) fun v3 => bnd (si s2 209 0 0 v3) fun s4 => some s4) else (some s)
set_option maxRecDepth 100000 in
theorem t_r_misplaced (s : St) (r : St) (h : r_misplaced s = some r) : Rv 0 135 [.ref 280] s (fun s1 => s1 = r) := by
  refine ct_of (by decide +kernel) (Nat.le_of_ble_eq_true rfl) ?_
  show Wp _ _ _ _ _ _ [(0, .ref 280)] _ _ _
  unfold r_misplaced at h
  refine x_aload_n (pc := 0) d135_0 rfl ?_
  refine z_geti (pc := 1) d135_1 fk9_252 shL280 rfl h (fun v1 h => ?_)
  refine z_if_ne (pc := 4) (tgt := 20) d135_4 (by decide) h (fun h => ?_) (fun h => ?_)
  · skip
    exact z_vret (pc := 20) d135_20 rfl h
  · skip
    refine x_aload_n (pc := 7) d135_7 rfl ?_
    refine x_iconst (pc := 8) (v := (1)) d135_8 (by decide) ?_
    refine z_puti (pc := 9) d135_9 fk9_252 shL280 rfl rfl ⟨rfl, rfl⟩ h (fun s2 h => ?_)
    refine x_aload_n (pc := 12) d135_12 rfl ?_
    refine x_aload_n (pc := 13) d135_13 rfl ?_
    refine z_geti (pc := 14) d135_14 fk9_218 shL280 rfl h (fun v3 h => ?_)
    refine z_puti (pc := 17) d135_17 fk9_13 shL280 rfl rfl ⟨rfl, rfl⟩ h (fun s4 h => ?_)
    exact z_vret (pc := 20) d135_20 rfl h
def r_isSign_20 (s : St) : Option (Int32 × St) := some ((0 : Int32), s)
set_option maxRecDepth 100000 in
theorem t_r_isSign_20 {r : Int32 × St} : ∀ (s : St), r_isSign_20 s = some r → Wp (rmd 0 0 0) 134 (zi (fun v s1 => (v, s1) = r)) 0 0 20 [] [] (mk s) TT := by
  intro s h
  unfold r_isSign_20 at h
  refine x_iconst (pc := 20) (v := (0)) d134_20 (by decide) ?_
  exact z_zretc (pc := 21) d134_21 rfl (Or.inl rfl) h
def r_isSign (a0 : Int32) (s : St) : Option (Int32 × St) := bnd (s.1 203 0 0) fun v1 => if v1 = (4 : Int32) then (bnd (s.1 207 0 0) fun v2 => if v2 = a0 then (some ((1 : Int32), s)) else (r_isSign_20 s)) else (r_isSign_20 s)
set_option maxRecDepth 100000 in
theorem t_r_isSign (a0 : Int32) (s : St) (r : Int32 × St) (h : r_isSign a0 s = some r) : Ri 0 134 [.ref 280, .int a0] s (fun v s1 => (v, s1) = r) := by
  refine ct_of (by decide +kernel) (Nat.le_of_ble_eq_true rfl) ?_
  show Wp _ _ _ _ _ _ [(0, .ref 280), (1, .int a0)] _ _ _
  unfold r_isSign at h
  refine x_aload_n (pc := 0) d134_0 rfl ?_
  refine z_geti (pc := 1) d134_1 fk9_221 shL280 rfl h (fun v1 h => ?_)
  refine x_iconst (pc := 4) (v := (4)) d134_4 (by decide) ?_
  refine z_icmp_ne (pc := 5) (tgt := 20) d134_5 (by decide) h (fun h => ?_) (fun h => ?_)
  · skip
    refine wp_lv (lv' := []) trivial ?_
    exact t_r_isSign_20 s h
  · skip
    refine x_aload_n (pc := 8) d134_8 rfl ?_
    refine z_geti (pc := 9) d134_9 fk9_246 shL280 rfl h (fun v2 h => ?_)
    refine x_iload_n (pc := 12) d134_12 rfl ?_
    refine z_icmp_ne (pc := 13) (tgt := 20) d134_13 (by decide) h (fun h => ?_) (fun h => ?_)
    · skip
      refine wp_lv (lv' := []) trivial ?_
      exact t_r_isSign_20 s h
    · skip
      refine x_iconst (pc := 16) (v := (1)) d134_16 (by decide) ?_
      refine x_goto (pc := 17) (tgt := 21) d134_17 (by decide) ?_
      exact z_zretc (pc := 21) d134_21 rfl (Or.inr rfl) h
def r_take_12 (s : St) : Option (St) := bnd (s.1 208 0 0) fun v3 => if v3 = 0 then (cal (r_next  s) fun s4 => some s4) else (some s)
set_option maxRecDepth 100000 in
theorem t_r_take_12 {r : St} : ∀ (s : St), r_take_12 s = some r → Wp (rmd 2 0 0) 144 (zv (fun s1 => s1 = r)) 0 0 12 [(0, .ref 280)] [] (mk s) TT := by
  intro s h
  unfold r_take_12 at h
  refine x_aload_n (pc := 12) d144_12 rfl ?_
  refine z_geti (pc := 13) d144_13 fk9_252 shL280 rfl h (fun v3 h => ?_)
  refine z_if_ne (pc := 16) (tgt := 23) d144_16 (by decide) h (fun h => ?_) (fun h => ?_)
  · skip
    exact z_vret (pc := 23) d144_23 rfl h
  · skip
    refine x_aload_n (pc := 19) d144_19 rfl ?_
    refine z_cV0v (pc := 20) d144_20 ml9_262 mv128 shL280 (t_r_next  s) (by decide) (Nat.le_of_ble_eq_true rfl) ⟨Nat.zero_le _, Nat.zero_le _⟩ h (fun s4 h => ?_)
    exact z_vret (pc := 23) d144_23 rfl h
def r_take (a0 : Int32) (s : St) : Option (St) := cal2 (r_isSign a0 s) fun v2 s1 => if v2 = 0 then (cal (r_misplaced  s1) fun s6 => r_take_12 s6) else (r_take_12 s1)
set_option maxRecDepth 100000 in
theorem t_r_take (a0 : Int32) (s : St) (r : St) (h : r_take a0 s = some r) : Rv 2 144 [.ref 280, .int a0] s (fun s1 => s1 = r) := by
  refine ct_of (by decide +kernel) (Nat.le_of_ble_eq_true rfl) ?_
  show Wp _ _ _ _ _ _ [(0, .ref 280), (1, .int a0)] _ _ _
  unfold r_take at h
  refine x_aload_n (pc := 0) d144_0 rfl ?_
  refine x_iload_n (pc := 1) d144_1 rfl ?_
  refine z_cV1i (pc := 2) d144_2 ml9_256 mv134 shL280 (t_r_isSign a0 s) (by decide) (Nat.le_of_ble_eq_true rfl) ⟨Nat.zero_le _, Nat.zero_le _⟩ h (fun v2 s1 h => ?_)
  refine z_if_ne (pc := 5) (tgt := 12) d144_5 (by decide) h (fun h => ?_) (fun h => ?_)
  · skip
    refine wp_lv (lv' := [(0, .ref 280)]) ⟨rfl, trivial⟩ ?_
    exact t_r_take_12 s1 h
  · skip
    refine x_aload_n (pc := 8) d144_8 rfl ?_
    refine z_cV0v (pc := 9) d144_9 ml9_259 mv135 shL280 (t_r_misplaced  s1) (by decide) (Nat.le_of_ble_eq_true rfl) ⟨Nat.zero_le _, Nat.zero_le _⟩ h (fun s6 h => ?_)
    refine wp_lv (lv' := [(0, .ref 280)]) ⟨rfl, trivial⟩ ?_
    exact t_r_take_12 s6 h
def r_takeWord_15 (s : St) : Option (St) := bnd (s.1 208 0 0) fun v2 => if v2 = 0 then (cal (r_next  s) fun s3 => some s3) else (some s)
set_option maxRecDepth 100000 in
theorem t_r_takeWord_15 {r : St} : ∀ (s : St), r_takeWord_15 s = some r → Wp (rmd 2 0 0) 137 (zv (fun s1 => s1 = r)) 0 0 15 [(0, .ref 280)] [] (mk s) TT := by
  intro s h
  unfold r_takeWord_15 at h
  refine x_aload_n (pc := 15) d137_15 rfl ?_
  refine z_geti (pc := 16) d137_16 fk9_252 shL280 rfl h (fun v2 h => ?_)
  refine z_if_ne (pc := 19) (tgt := 26) d137_19 (by decide) h (fun h => ?_) (fun h => ?_)
  · skip
    exact z_vret (pc := 26) d137_26 rfl h
  · skip
    refine x_aload_n (pc := 22) d137_22 rfl ?_
    refine z_cV0v (pc := 23) d137_23 ml9_262 mv128 shL280 (t_r_next  s) (by decide) (Nat.le_of_ble_eq_true rfl) ⟨Nat.zero_le _, Nat.zero_le _⟩ h (fun s3 h => ?_)
    exact z_vret (pc := 26) d137_26 rfl h
def r_takeWord (a0 : Int32) (s : St) : Option (St) := bnd (s.1 203 0 0) fun v1 => if v1 = ((10 : Int32) + a0) then (r_takeWord_15 s) else (cal (r_misplaced  s) fun s5 => r_takeWord_15 s5)
set_option maxRecDepth 100000 in
theorem t_r_takeWord (a0 : Int32) (s : St) (r : St) (h : r_takeWord a0 s = some r) : Rv 2 137 [.ref 280, .int a0] s (fun s1 => s1 = r) := by
  refine ct_of (by decide +kernel) (Nat.le_of_ble_eq_true rfl) ?_
  show Wp _ _ _ _ _ _ [(0, .ref 280), (1, .int a0)] _ _ _
  unfold r_takeWord at h
  refine x_aload_n (pc := 0) d137_0 rfl ?_
  refine z_geti (pc := 1) d137_1 fk9_221 shL280 rfl h (fun v1 h => ?_)
  refine x_bipush (pc := 4) (v := (10)) d137_4 (by decide) ?_
  refine x_iload_n (pc := 6) d137_6 rfl ?_
  refine x_iadd (pc := 7) d137_7 ?_
  refine z_icmp_eq (pc := 8) (tgt := 15) d137_8 (by decide) h (fun h => ?_) (fun h => ?_)
  · skip
    refine wp_lv (lv' := [(0, .ref 280)]) ⟨rfl, trivial⟩ ?_
    exact t_r_takeWord_15 s h
  · skip
    refine x_aload_n (pc := 11) d137_11 rfl ?_
    refine z_cV0v (pc := 12) d137_12 ml9_259 mv135 shL280 (t_r_misplaced  s) (by decide) (Nat.le_of_ble_eq_true rfl) ⟨Nat.zero_le _, Nat.zero_le _⟩ h (fun s5 h => ?_)
    refine wp_lv (lv' := [(0, .ref 280)]) ⟨rfl, trivial⟩ ?_
    exact t_r_takeWord_15 s5 h
def r_isLocal_21 (s : St) : Option (Int32 × St) := some ((0 : Int32), s)
set_option maxRecDepth 100000 in
theorem t_r_isLocal_21 {r : Int32 × St} : ∀ (s : St), r_isLocal_21 s = some r → Wp (rmd 0 0 0) 140 (zi (fun v s1 => (v, s1) = r)) 0 0 21 [] [] (mk s) TT := by
  intro s h
  unfold r_isLocal_21 at h
  refine x_iconst (pc := 21) (v := (0)) d140_21 (by decide) ?_
  exact z_zretc (pc := 22) d140_22 rfl (Or.inl rfl) h
def r_isLocal (s : St) : Option (Int32 × St) := bnd (s.1 203 0 0) fun v1 => if v1 = (2 : Int32) then (bnd (s.1 205 0 0) fun v2 => if v2 < (16 : Int32) then (r_isLocal_21 s) else (some ((1 : Int32), s))) else (r_isLocal_21 s)
set_option maxRecDepth 100000 in
theorem t_r_isLocal (s : St) (r : Int32 × St) (h : r_isLocal s = some r) : Ri 0 140 [.ref 280] s (fun v s1 => (v, s1) = r) := by
  refine ct_of (by decide +kernel) (Nat.le_of_ble_eq_true rfl) ?_
  show Wp _ _ _ _ _ _ [(0, .ref 280)] _ _ _
  unfold r_isLocal at h
  refine x_aload_n (pc := 0) d140_0 rfl ?_
  refine z_geti (pc := 1) d140_1 fk9_221 shL280 rfl h (fun v1 h => ?_)
  refine x_iconst (pc := 4) (v := (2)) d140_4 (by decide) ?_
  refine z_icmp_ne (pc := 5) (tgt := 21) d140_5 (by decide) h (fun h => ?_) (fun h => ?_)
  · skip
    refine wp_lv (lv' := []) trivial ?_
    exact t_r_isLocal_21 s h
  · skip
    refine x_aload_n (pc := 8) d140_8 rfl ?_
    refine z_geti (pc := 9) d140_9 fk9_228 shL280 rfl h (fun v2 h => ?_)
    refine x_bipush (pc := 12) (v := (16)) d140_12 (by decide) ?_
    refine z_icmp_lt (pc := 14) (tgt := 21) d140_14 (by decide) h (fun h => ?_) (fun h => ?_)
    · skip
      refine wp_lv (lv' := []) trivial ?_
      exact t_r_isLocal_21 s h
    · skip
      refine x_iconst (pc := 17) (v := (1)) d140_17 (by decide) ?_
      refine x_goto (pc := 18) (tgt := 22) d140_18 (by decide) ?_
      exact z_zretc (pc := 22) d140_22 rfl (Or.inr rfl) h
def r_act (a0 : Int32) (a1 : Int32) (a2 : Int64) (s : St) : Option (St) := bnd (s.1 227 0 0) fun v1 => bnd (s.1 227 0 0) fun v2 => grd (ib v2 12) (s.1 215 0 v2.toNatClampNeg) fun v3 => bnd (s.1 227 0 0) fun v4 => grd (ib v4 12) (s.1 215 0 v4.toNatClampNeg) fun v5 => grd (ib v4 12) (si s 215 0 v4.toNatClampNeg (v5 + (1 : Int32))) fun s6 => grd (ib (((200 : Int32) * v1) + v3) 2400) (si s6 224 0 (((200 : Int32) * v1) + v3).toNatClampNeg a0) fun s7 => grd (ib (((200 : Int32) * v1) + v3) 2400) (si s7 225 0 (((200 : Int32) * v1) + v3).toNatClampNeg a1) fun s8 => grd (ib (((200 : Int32) * v1) + v3) 2400) (sl s8 226 0 (((200 : Int32) * v1) + v3).toNatClampNeg a2) fun s9 => some s9
set_option maxRecDepth 100000 in
theorem t_r_act (a0 : Int32) (a1 : Int32) (a2 : Int64) (s : St) (r : St) (h : r_act a0 a1 a2 s = some r) : Rv 0 148 [.ref 280, .int a0, .int a1, .long a2] s (fun s1 => s1 = r) := by
  refine ct_of (by decide +kernel) (Nat.le_of_ble_eq_true rfl) ?_
  show Wp _ _ _ _ _ _ [(0, .ref 280), (1, .int a0), (2, .int a1), (3, .long a2)] _ _ _
  unfold r_act at h
  refine x_sipush (pc := 0) (v := (200)) d148_0 (by decide) ?_
  refine x_aload_n (pc := 3) d148_3 rfl ?_
  refine z_geti (pc := 4) d148_4 fk9_265 shL280 rfl h (fun v1 h => ?_)
  refine x_imul (pc := 7) d148_7 ?_
  refine x_aload_n (pc := 8) d148_8 rfl ?_
  refine y_getr (pc := 9) d148_9 fk9_30 shL280 rfl ?_
  refine x_aload_n (pc := 12) d148_12 rfl ?_
  refine z_geti (pc := 13) d148_13 fk9_265 shL280 rfl h (fun v2 h => ?_)
  refine z_iald (pc := 16) d148_16 shL286 (by decide) h (fun v3 h => ?_)
  refine x_iadd (pc := 17) d148_17 ?_
  refine x_istore (pc := 18) d148_18 (by decide) ?_
  refine x_aload_n (pc := 20) d148_20 rfl ?_
  refine y_getr (pc := 21) d148_21 fk9_30 shL280 rfl ?_
  refine x_aload_n (pc := 24) d148_24 rfl ?_
  refine z_geti (pc := 25) d148_25 fk9_265 shL280 rfl h (fun v4 h => ?_)
  refine x_dup2 (pc := 28) d148_28 rfl rfl ?_
  refine z_iald (pc := 29) d148_29 shL286 (by decide) h (fun v5 h => ?_)
  refine x_iconst (pc := 30) (v := (1)) d148_30 (by decide) ?_
  refine x_iadd (pc := 31) d148_31 ?_
  refine z_iast (pc := 32) d148_32 shL286 (by decide) h (fun s6 h => ?_)
  refine x_aload_n (pc := 33) d148_33 rfl ?_
  refine y_getr (pc := 34) d148_34 fk9_58 shL280 rfl ?_
  refine x_iload (pc := 37) d148_37 rfl ?_
  refine x_iload_n (pc := 39) d148_39 rfl ?_
  refine z_iast (pc := 40) d148_40 shL295 (by decide) h (fun s7 h => ?_)
  refine x_aload_n (pc := 41) d148_41 rfl ?_
  refine y_getr (pc := 42) d148_42 fk9_61 shL280 rfl ?_
  refine x_iload (pc := 45) d148_45 rfl ?_
  refine x_iload_n (pc := 47) d148_47 rfl ?_
  refine z_iast (pc := 48) d148_48 shL296 (by decide) h (fun s8 h => ?_)
  refine x_aload_n (pc := 49) d148_49 rfl ?_
  refine y_getr (pc := 50) d148_50 fk9_64 shL280 rfl ?_
  refine x_iload (pc := 53) d148_53 rfl ?_
  refine x_lload_n (pc := 55) d148_55 rfl ?_
  refine z_last (pc := 56) d148_56 shL297 (by decide) h (fun s9 h => ?_)
  exact z_vret (pc := 57) d148_57 rfl h
def r_strengthOf_22 (s : St) : Option (Int32 × St) := some ((2 : Int32), s)
set_option maxRecDepth 100000 in
theorem t_r_strengthOf_22 {r : Int32 × St} : ∀ (s : St), r_strengthOf_22 s = some r → Wp (rmd 0 0 0) 151 (zi (fun v s1 => (v, s1) = r)) 0 0 22 [] [] (mk s) TT := by
  intro s h
  unfold r_strengthOf_22 at h
  refine x_iconst (pc := 22) (v := (2)) d151_22 (by decide) ?_
  refine x_goto (pc := 23) (tgt := 49) d151_23 (by decide) ?_
  exact z_iret (pc := 49) d151_49 rfl h
def r_strengthOf_44 (s : St) : Option (Int32 × St) := some ((1 : Int32), s)
set_option maxRecDepth 100000 in
theorem t_r_strengthOf_44 {r : Int32 × St} : ∀ (s : St), r_strengthOf_44 s = some r → Wp (rmd 0 0 0) 151 (zi (fun v s1 => (v, s1) = r)) 0 0 44 [] [] (mk s) TT := by
  intro s h
  unfold r_strengthOf_44 at h
  refine x_iconst (pc := 44) (v := (1)) d151_44 (by decide) ?_
  refine x_goto (pc := 45) (tgt := 49) d151_45 (by decide) ?_
  exact z_iret (pc := 49) d151_49 rfl h
def r_strengthOf (a0 : Int32) (s : St) : Option (Int32 × St) := if a0 = (42 : Int32) then (some ((3 : Int32), s)) else (if a0 = (43 : Int32) then (r_strengthOf_22 s) else (if a0 = (45 : Int32) then (r_strengthOf_22 s) else (if a0 = (60 : Int32) then (r_strengthOf_44 s) else (if a0 = (61 : Int32) then (r_strengthOf_44 s) else (if a0 = (35 : Int32) then (r_strengthOf_44 s) else (some ((0 : Int32), s)))))))
set_option maxRecDepth 100000 in
theorem t_r_strengthOf (a0 : Int32) (s : St) (r : Int32 × St) (h : r_strengthOf a0 s = some r) : Ri 0 151 [.int a0] s (fun v s1 => (v, s1) = r) := by
  refine ct_of (by decide +kernel) (Nat.le_of_ble_eq_true rfl) ?_
  show Wp _ _ _ _ _ _ [(0, .int a0)] _ _ _
  unfold r_strengthOf at h
  refine x_iload_n (pc := 0) d151_0 rfl ?_
  refine x_bipush (pc := 1) (v := (42)) d151_1 (by decide) ?_
  refine z_icmp_ne (pc := 3) (tgt := 10) d151_3 (by decide) h (fun h => ?_) (fun h => ?_)
  · skip
    refine x_iload_n (pc := 10) d151_10 rfl ?_
    refine x_bipush (pc := 11) (v := (43)) d151_11 (by decide) ?_
    refine z_icmp_eq (pc := 13) (tgt := 22) d151_13 (by decide) h (fun h => ?_) (fun h => ?_)
    · skip
      refine wp_lv (lv' := []) trivial ?_
      exact t_r_strengthOf_22 s h
    · skip
      refine x_iload_n (pc := 16) d151_16 rfl ?_
      refine x_bipush (pc := 17) (v := (45)) d151_17 (by decide) ?_
      refine z_icmp_ne (pc := 19) (tgt := 26) d151_19 (by decide) h (fun h => ?_) (fun h => ?_)
      · skip
        refine x_iload_n (pc := 26) d151_26 rfl ?_
        refine x_bipush (pc := 27) (v := (60)) d151_27 (by decide) ?_
        refine z_icmp_eq (pc := 29) (tgt := 44) d151_29 (by decide) h (fun h => ?_) (fun h => ?_)
        · skip
          refine wp_lv (lv' := []) trivial ?_
          exact t_r_strengthOf_44 s h
        · skip
          refine x_iload_n (pc := 32) d151_32 rfl ?_
          refine x_bipush (pc := 33) (v := (61)) d151_33 (by decide) ?_
          refine z_icmp_eq (pc := 35) (tgt := 44) d151_35 (by decide) h (fun h => ?_) (fun h => ?_)
          · skip
            refine wp_lv (lv' := []) trivial ?_
            exact t_r_strengthOf_44 s h
          · skip
            refine x_iload_n (pc := 38) d151_38 rfl ?_
            refine x_bipush (pc := 39) (v := (35)) d151_39 (by decide) ?_
            refine z_icmp_ne (pc := 41) (tgt := 48) d151_41 (by decide) h (fun h => ?_) (fun h => ?_)
            · skip
              refine x_iconst (pc := 48) (v := (0)) d151_48 (by decide) ?_
              exact z_iret (pc := 49) d151_49 rfl h
            · skip
              refine wp_lv (lv' := []) trivial ?_
              exact t_r_strengthOf_44 s h
      · skip
        refine wp_lv (lv' := []) trivial ?_
        exact t_r_strengthOf_22 s h
  · skip
    refine x_iconst (pc := 6) (v := (3)) d151_6 (by decide) ?_
    refine x_goto (pc := 7) (tgt := 49) d151_7 (by decide) ?_
    exact z_iret (pc := 49) d151_49 rfl h
def r_reduce_0 : Nat → Int32 → St → Option (St)
  | 0, _, _ => none
  | n + 1, x1, s => bnd (s.1 229 0 0) fun v1 => if v1 ≤ 0 then (some s) else (bnd (s.1 229 0 0) fun v2 => grd (ib (v2 - (1 : Int32)) 64) (s.1 228 0 (v2 - (1 : Int32)).toNatClampNeg) fun v3 => if v3 = (40 : Int32) then (some s) else (bnd (s.1 229 0 0) fun v4 => grd (ib (v4 - (1 : Int32)) 64) (s.1 228 0 (v4 - (1 : Int32)).toNatClampNeg) fun v5 => if v5 = (1000 : Int32) then (some s) else (bnd (s.1 229 0 0) fun v6 => grd (ib (v6 - (1 : Int32)) 64) (s.1 228 0 (v6 - (1 : Int32)).toNatClampNeg) fun v7 => cal2 (r_strengthOf v7 s) fun v9 s8 => if v9 < x1 then (some s8) else (bnd (s8.1 229 0 0) fun v10 => bnd (si s8 229 0 0 (v10 - (1 : Int32))) fun s11 => bnd (s11.1 229 0 0) fun v12 => grd (ib v12 64) (s11.1 228 0 v12.toNatClampNeg) fun v13 => cal (r_act v13 (-1 : Int32) (0 : Int64) s11) fun s14 => r_reduce_0 n x1 s14))))
set_option maxRecDepth 100000 in
theorem t_r_reduce_0 {r : St} : ∀ (n : Nat) (x1 : Int32) (s : St), r_reduce_0 n x1 s = some r → Wp (rmd 1 0 0) 150 (zv (fun s1 => s1 = r)) 0 0 0 [(0, .ref 280), (1, .int x1)] [] (mk s) TT := by
  intro n
  induction n with
  | zero =>
    intro x1 s h
    rw [r_reduce_0.eq_1] at h
    cases h
  | succ n ih =>
    intro x1 s h
    rw [r_reduce_0.eq_2] at h
    refine x_aload_n (pc := 0) d150_0 rfl ?_
    refine z_geti (pc := 1) d150_1 fk9_268 shL280 rfl h (fun v1 h => ?_)
    refine z_if_le (pc := 4) (tgt := 86) d150_4 (by decide) h (fun h => ?_) (fun h => ?_)
    · skip
      exact z_vret (pc := 86) d150_86 rfl h
    · skip
      refine x_aload_n (pc := 7) d150_7 rfl ?_
      refine y_getr (pc := 8) d150_8 fk9_68 shL280 rfl ?_
      refine x_aload_n (pc := 11) d150_11 rfl ?_
      refine z_geti (pc := 12) d150_12 fk9_268 shL280 rfl h (fun v2 h => ?_)
      refine x_iconst (pc := 15) (v := (1)) d150_15 (by decide) ?_
      refine x_isub (pc := 16) d150_16 ?_
      refine z_iald (pc := 17) d150_17 shL298 (by decide) h (fun v3 h => ?_)
      refine x_bipush (pc := 18) (v := (40)) d150_18 (by decide) ?_
      refine z_icmp_eq (pc := 20) (tgt := 86) d150_20 (by decide) h (fun h => ?_) (fun h => ?_)
      · skip
        exact z_vret (pc := 86) d150_86 rfl h
      · skip
        refine x_aload_n (pc := 23) d150_23 rfl ?_
        refine y_getr (pc := 24) d150_24 fk9_68 shL280 rfl ?_
        refine x_aload_n (pc := 27) d150_27 rfl ?_
        refine z_geti (pc := 28) d150_28 fk9_268 shL280 rfl h (fun v4 h => ?_)
        refine x_iconst (pc := 31) (v := (1)) d150_31 (by decide) ?_
        refine x_isub (pc := 32) d150_32 ?_
        refine z_iald (pc := 33) d150_33 shL298 (by decide) h (fun v5 h => ?_)
        refine x_sipush (pc := 34) (v := (1000)) d150_34 (by decide) ?_
        refine z_icmp_eq (pc := 37) (tgt := 86) d150_37 (by decide) h (fun h => ?_) (fun h => ?_)
        · skip
          exact z_vret (pc := 86) d150_86 rfl h
        · skip
          refine x_aload_n (pc := 40) d150_40 rfl ?_
          refine y_getr (pc := 41) d150_41 fk9_68 shL280 rfl ?_
          refine x_aload_n (pc := 44) d150_44 rfl ?_
          refine z_geti (pc := 45) d150_45 fk9_268 shL280 rfl h (fun v6 h => ?_)
          refine x_iconst (pc := 48) (v := (1)) d150_48 (by decide) ?_
          refine x_isub (pc := 49) d150_49 ?_
          refine z_iald (pc := 50) d150_50 shL298 (by decide) h (fun v7 h => ?_)
          refine z_cS1i (pc := 51) d150_51 ml9_271 mv151 (t_r_strengthOf v7 s) (by decide) (Nat.le_of_ble_eq_true rfl) ⟨Nat.zero_le _, Nat.zero_le _⟩ h (fun v9 s8 h => ?_)
          refine x_iload_n (pc := 54) d150_54 rfl ?_
          refine z_icmp_lt (pc := 55) (tgt := 86) d150_55 (by decide) h (fun h => ?_) (fun h => ?_)
          · skip
            exact z_vret (pc := 86) d150_86 rfl h
          · skip
            refine x_aload_n (pc := 58) d150_58 rfl ?_
            refine x_dup (pc := 59) d150_59 rfl ?_
            refine z_geti (pc := 60) d150_60 fk9_268 shL280 rfl h (fun v10 h => ?_)
            refine x_iconst (pc := 63) (v := (1)) d150_63 (by decide) ?_
            refine x_isub (pc := 64) d150_64 ?_
            refine z_puti (pc := 65) d150_65 fk9_268 shL280 rfl rfl ⟨rfl, rfl⟩ h (fun s11 h => ?_)
            refine x_aload_n (pc := 68) d150_68 rfl ?_
            refine x_aload_n (pc := 69) d150_69 rfl ?_
            refine y_getr (pc := 70) d150_70 fk9_68 shL280 rfl ?_
            refine x_aload_n (pc := 73) d150_73 rfl ?_
            refine z_geti (pc := 74) d150_74 fk9_268 shL280 rfl h (fun v12 h => ?_)
            refine z_iald (pc := 77) d150_77 shL298 (by decide) h (fun v13 h => ?_)
            refine x_iconst (pc := 78) (v := (-1)) d150_78 (by decide) ?_
            refine x_lconst (pc := 79) (v := (0)) d150_79 (by decide) ?_
            refine z_cV3v (pc := 80) d150_80 ml9_274 mv148 shL280 (t_r_act v13 (-1 : Int32) (0 : Int64) s11) (by decide) (Nat.le_of_ble_eq_true rfl) ⟨Nat.zero_le _, Nat.zero_le _⟩ h (fun s14 h => ?_)
            refine x_goto (pc := 83) (tgt := 0) d150_83 (by decide) ?_
            refine wp_lv (lv' := [(0, .ref 280), (1, .int x1)]) ⟨rfl, rfl, trivial⟩ ?_
            exact ih x1 s14 h
def r_reduce (a0 : Int32) (s : St) : Option (St) := r_reduce_0 70 a0 s
set_option maxRecDepth 100000 in
theorem t_r_reduce (a0 : Int32) (s : St) (r : St) (h : r_reduce a0 s = some r) : Rv 1 150 [.ref 280, .int a0] s (fun s1 => s1 = r) := by
  refine ct_of (by decide +kernel) (Nat.le_of_ble_eq_true rfl) ?_
  show Wp _ _ _ _ _ _ [(0, .ref 280), (1, .int a0)] _ _ _
  unfold r_reduce at h
  refine wp_lv (lv' := [(0, .ref 280), (1, .int a0)]) ⟨rfl, rfl, trivial⟩ ?_
  exact t_r_reduce_0 70 a0 s h
def r_operandIsThere_0 : Nat → St → Option (St)
  | 0, _ => none
  | n + 1, s => bnd (s.1 229 0 0) fun v1 => if v1 ≤ 0 then (some s) else (bnd (s.1 229 0 0) fun v2 => grd (ib (v2 - (1 : Int32)) 64) (s.1 228 0 (v2 - (1 : Int32)).toNatClampNeg) fun v3 => if v3 = (1000 : Int32) then (bnd (s.1 229 0 0) fun v4 => bnd (si s 229 0 0 (v4 - (1 : Int32))) fun s5 => bnd (s5.1 230 0 0) fun v6 => bnd (si s5 230 0 0 (v6 - (1 : Int32))) fun s7 => cal (r_act (3 : Int32) (-1 : Int32) (0 : Int64) s7) fun s8 => r_operandIsThere_0 n s8) else (some s))
set_option maxRecDepth 100000 in
theorem t_r_operandIsThere_0 {r : St} : ∀ (n : Nat) (s : St), r_operandIsThere_0 n s = some r → Wp (rmd 1 0 0) 149 (zv (fun s1 => s1 = r)) 0 0 0 [(0, .ref 280)] [] (mk s) TT := by
  intro n
  induction n with
  | zero =>
    intro s h
    rw [r_operandIsThere_0.eq_1] at h
    cases h
  | succ n ih =>
    intro s h
    rw [r_operandIsThere_0.eq_2] at h
    refine x_aload_n (pc := 0) d149_0 rfl ?_
    refine z_geti (pc := 1) d149_1 fk9_268 shL280 rfl h (fun v1 h => ?_)
    refine z_if_le (pc := 4) (tgt := 54) d149_4 (by decide) h (fun h => ?_) (fun h => ?_)
    · skip
      exact z_vret (pc := 54) d149_54 rfl h
    · skip
      refine x_aload_n (pc := 7) d149_7 rfl ?_
      refine y_getr (pc := 8) d149_8 fk9_68 shL280 rfl ?_
      refine x_aload_n (pc := 11) d149_11 rfl ?_
      refine z_geti (pc := 12) d149_12 fk9_268 shL280 rfl h (fun v2 h => ?_)
      refine x_iconst (pc := 15) (v := (1)) d149_15 (by decide) ?_
      refine x_isub (pc := 16) d149_16 ?_
      refine z_iald (pc := 17) d149_17 shL298 (by decide) h (fun v3 h => ?_)
      refine x_sipush (pc := 18) (v := (1000)) d149_18 (by decide) ?_
      refine z_icmp_ne (pc := 21) (tgt := 54) d149_21 (by decide) h (fun h => ?_) (fun h => ?_)
      · skip
        exact z_vret (pc := 54) d149_54 rfl h
      · skip
        refine x_aload_n (pc := 24) d149_24 rfl ?_
        refine x_dup (pc := 25) d149_25 rfl ?_
        refine z_geti (pc := 26) d149_26 fk9_268 shL280 rfl h (fun v4 h => ?_)
        refine x_iconst (pc := 29) (v := (1)) d149_29 (by decide) ?_
        refine x_isub (pc := 30) d149_30 ?_
        refine z_puti (pc := 31) d149_31 fk9_268 shL280 rfl rfl ⟨rfl, rfl⟩ h (fun s5 h => ?_)
        refine x_aload_n (pc := 34) d149_34 rfl ?_
        refine x_dup (pc := 35) d149_35 rfl ?_
        refine z_geti (pc := 36) d149_36 fk9_278 shL280 rfl h (fun v6 h => ?_)
        refine x_iconst (pc := 39) (v := (1)) d149_39 (by decide) ?_
        refine x_isub (pc := 40) d149_40 ?_
        refine z_puti (pc := 41) d149_41 fk9_278 shL280 rfl rfl ⟨rfl, rfl⟩ h (fun s7 h => ?_)
        refine x_aload_n (pc := 44) d149_44 rfl ?_
        refine x_iconst (pc := 45) (v := (3)) d149_45 (by decide) ?_
        refine x_iconst (pc := 46) (v := (-1)) d149_46 (by decide) ?_
        refine x_lconst (pc := 47) (v := (0)) d149_47 (by decide) ?_
        refine z_cV3v (pc := 48) d149_48 ml9_274 mv148 shL280 (t_r_act (3 : Int32) (-1 : Int32) (0 : Int64) s7) (by decide) (Nat.le_of_ble_eq_true rfl) ⟨Nat.zero_le _, Nat.zero_le _⟩ h (fun s8 h => ?_)
        refine x_goto (pc := 51) (tgt := 0) d149_51 (by decide) ?_
        refine wp_lv (lv' := [(0, .ref 280)]) ⟨rfl, trivial⟩ ?_
        exact ih s8 h
def r_operandIsThere (s : St) : Option (St) := r_operandIsThere_0 70 s
set_option maxRecDepth 100000 in
theorem t_r_operandIsThere (s : St) (r : St) (h : r_operandIsThere s = some r) : Rv 1 149 [.ref 280] s (fun s1 => s1 = r) := by
  refine ct_of (by decide +kernel) (Nat.le_of_ble_eq_true rfl) ?_
  show Wp _ _ _ _ _ _ [(0, .ref 280)] _ _ _
  unfold r_operandIsThere at h
  refine wp_lv (lv' := [(0, .ref 280)]) ⟨rfl, trivial⟩ ?_
  exact t_r_operandIsThere_0 70 s h
def r_readUnary_80 (s : St) : Option (Int32 × St) := cal (r_misplaced  s) fun s3 => some ((0 : Int32), s3)
set_option maxRecDepth 100000 in
theorem t_r_readUnary_80 {r : Int32 × St} : ∀ (s : St), r_readUnary_80 s = some r → Wp (rmd 2 0 0) 147 (zi (fun v s1 => (v, s1) = r)) 0 0 80 [(0, .ref 280)] [] (mk s) TT := by
  intro s h
  unfold r_readUnary_80 at h
  refine x_aload_n (pc := 80) d147_80 rfl ?_
  refine z_cV0v (pc := 81) d147_81 ml9_259 mv135 shL280 (t_r_misplaced  s) (by decide) (Nat.le_of_ble_eq_true rfl) ⟨Nat.zero_le _, Nat.zero_le _⟩ h (fun s3 h => ?_)
  refine x_iconst (pc := 84) (v := (0)) d147_84 (by decide) ?_
  exact z_zretc (pc := 85) d147_85 rfl (Or.inl rfl) h
def r_readUnary_230 (y0 : Int64) (y1 : Int32) (y2 : Int32) (s : St) : Option (Int32 × St) := cal (r_act y2 y1 y0 s) fun s13 => cal (r_next  s13) fun s15 => cal (r_operandIsThere  s15) fun s17 => some ((0 : Int32), s17)
set_option maxRecDepth 100000 in
theorem t_r_readUnary_230 {r : Int32 × St} : ∀ (y0 : Int64) (y1 : Int32) (y2 : Int32) (s : St), r_readUnary_230 y0 y1 y2 s = some r → Wp (rmd 2 0 0) 147 (zi (fun v s1 => (v, s1) = r)) 0 0 230 [(0, .ref 280)] [.long y0, .int y1, .int y2, .ref 280] (mk s) TT := by
  intro y0 y1 y2 s h
  unfold r_readUnary_230 at h
  refine z_cV3v (pc := 230) d147_230 ml9_274 mv148 shL280 (t_r_act y2 y1 y0 s) (by decide) (Nat.le_of_ble_eq_true rfl) ⟨Nat.zero_le _, Nat.zero_le _⟩ h (fun s13 h => ?_)
  refine x_aload_n (pc := 233) d147_233 rfl ?_
  refine z_cV0v (pc := 234) d147_234 ml9_262 mv128 shL280 (t_r_next  s13) (by decide) (Nat.le_of_ble_eq_true rfl) ⟨Nat.zero_le _, Nat.zero_le _⟩ h (fun s15 h => ?_)
  refine x_aload_n (pc := 237) d147_237 rfl ?_
  refine z_cV0v (pc := 238) d147_238 ml9_292 mv149 shL280 (t_r_operandIsThere  s15) (by decide) (Nat.le_of_ble_eq_true rfl) ⟨Nat.zero_le _, Nat.zero_le _⟩ h (fun s17 h => ?_)
  refine x_iconst (pc := 241) (v := (0)) d147_241 (by decide) ?_
  exact z_zretc (pc := 242) d147_242 rfl (Or.inl rfl) h
def r_readUnary_214 (y0 : Int32) (y1 : Int32) (s : St) : Option (Int32 × St) := bnd (s.1 203 0 0) fun v12 => if v12 = (3 : Int32) then (bnd (s.2 206 0 0) fun v19 => r_readUnary_230 v19 y0 y1 s) else (r_readUnary_230 (0 : Int64) y0 y1 s)
set_option maxRecDepth 100000 in
theorem t_r_readUnary_214 {r : Int32 × St} : ∀ (y0 : Int32) (y1 : Int32) (s : St), r_readUnary_214 y0 y1 s = some r → Wp (rmd 2 0 0) 147 (zi (fun v s1 => (v, s1) = r)) 0 0 214 [(0, .ref 280)] [.int y0, .int y1, .ref 280] (mk s) TT := by
  intro y0 y1 s h
  unfold r_readUnary_214 at h
  refine x_aload_n (pc := 214) d147_214 rfl ?_
  refine z_geti (pc := 215) d147_215 fk9_221 shL280 rfl h (fun v12 h => ?_)
  refine x_iconst (pc := 218) (v := (3)) d147_218 (by decide) ?_
  refine z_icmp_ne (pc := 219) (tgt := 229) d147_219 (by decide) h (fun h => ?_) (fun h => ?_)
  · skip
    refine x_lconst (pc := 229) (v := (0)) d147_229 (by decide) ?_
    refine wp_lv (lv' := [(0, .ref 280)]) ⟨rfl, trivial⟩ ?_
    exact t_r_readUnary_230 (0 : Int64) y0 y1 s h
  · skip
    refine x_aload_n (pc := 222) d147_222 rfl ?_
    refine z_getl (pc := 223) d147_223 fk9_238 shL280 rfl h (fun v19 h => ?_)
    refine x_goto (pc := 226) (tgt := 230) d147_226 (by decide) ?_
    refine wp_lv (lv' := [(0, .ref 280)]) ⟨rfl, trivial⟩ ?_
    exact t_r_readUnary_230 v19 y0 y1 s h
def r_readUnary_198 (y0 : Int32) (s : St) : Option (Int32 × St) := bnd (s.1 203 0 0) fun v11 => if v11 = (2 : Int32) then (bnd (s.1 205 0 0) fun v20 => r_readUnary_214 v20 y0 s) else (r_readUnary_214 (-1 : Int32) y0 s)
set_option maxRecDepth 100000 in
theorem t_r_readUnary_198 {r : Int32 × St} : ∀ (y0 : Int32) (s : St), r_readUnary_198 y0 s = some r → Wp (rmd 2 0 0) 147 (zi (fun v s1 => (v, s1) = r)) 0 0 198 [(0, .ref 280)] [.int y0, .ref 280] (mk s) TT := by
  intro y0 s h
  unfold r_readUnary_198 at h
  refine x_aload_n (pc := 198) d147_198 rfl ?_
  refine z_geti (pc := 199) d147_199 fk9_221 shL280 rfl h (fun v11 h => ?_)
  refine x_iconst (pc := 202) (v := (2)) d147_202 (by decide) ?_
  refine z_icmp_ne (pc := 203) (tgt := 213) d147_203 (by decide) h (fun h => ?_) (fun h => ?_)
  · skip
    refine x_iconst (pc := 213) (v := (-1)) d147_213 (by decide) ?_
    refine wp_lv (lv' := [(0, .ref 280)]) ⟨rfl, trivial⟩ ?_
    exact t_r_readUnary_214 (-1 : Int32) y0 s h
  · skip
    refine x_aload_n (pc := 206) d147_206 rfl ?_
    refine z_geti (pc := 207) d147_207 fk9_228 shL280 rfl h (fun v20 h => ?_)
    refine x_goto (pc := 210) (tgt := 214) d147_210 (by decide) ?_
    refine wp_lv (lv' := [(0, .ref 280)]) ⟨rfl, trivial⟩ ?_
    exact t_r_readUnary_214 v20 y0 s h
def r_readUnary_178 (s : St) : Option (Int32 × St) := cal (r_next  s) fun s31 => some ((1 : Int32), s31)
set_option maxRecDepth 100000 in
theorem t_r_readUnary_178 {r : Int32 × St} : ∀ (s : St), r_readUnary_178 s = some r → Wp (rmd 2 0 0) 147 (zi (fun v s1 => (v, s1) = r)) 0 0 178 [(0, .ref 280)] [] (mk s) TT := by
  intro s h
  unfold r_readUnary_178 at h
  refine x_aload_n (pc := 178) d147_178 rfl ?_
  refine z_cV0v (pc := 179) d147_179 ml9_262 mv128 shL280 (t_r_next  s) (by decide) (Nat.le_of_ble_eq_true rfl) ⟨Nat.zero_le _, Nat.zero_le _⟩ h (fun s31 h => ?_)
  refine x_iconst (pc := 182) (v := (1)) d147_182 (by decide) ?_
  exact z_zretc (pc := 183) d147_183 rfl (Or.inr rfl) h
def r_readUnary_138 (y0 : Int32) (y1 : Int32) (s : St) : Option (Int32 × St) := grd (ib y1 64) (si s 228 0 y1.toNatClampNeg y0) fun s26 => bnd (s26.1 229 0 0) fun v27 => bnd (si s26 229 0 0 (v27 + (1 : Int32))) fun s28 => cal2 (r_isSign (40 : Int32) s28) fun v30 s29 => if v30 = 0 then (r_readUnary_178 s29) else (bnd (s29.1 232 0 0) fun v33 => bnd (si s29 232 0 0 (v33 + (1 : Int32))) fun s34 => bnd (s34.1 232 0 0) fun v35 => grd (ib v35 16 ∧ zo (0 : Int32)) (si s34 231 0 v35.toNatClampNeg (0 : Int32)) fun s36 => r_readUnary_178 s36)
set_option maxRecDepth 100000 in
theorem t_r_readUnary_138 {r : Int32 × St} : ∀ (y0 : Int32) (y1 : Int32) (s : St), r_readUnary_138 y0 y1 s = some r → Wp (rmd 2 0 0) 147 (zi (fun v s1 => (v, s1) = r)) 0 0 138 [(0, .ref 280)] [.int y0, .int y1, .ref 298] (mk s) TT := by
  intro y0 y1 s h
  unfold r_readUnary_138 at h
  refine z_iast (pc := 138) d147_138 shL298 (by decide) h (fun s26 h => ?_)
  refine x_aload_n (pc := 139) d147_139 rfl ?_
  refine x_dup (pc := 140) d147_140 rfl ?_
  refine z_geti (pc := 141) d147_141 fk9_268 shL280 rfl h (fun v27 h => ?_)
  refine x_iconst (pc := 144) (v := (1)) d147_144 (by decide) ?_
  refine x_iadd (pc := 145) d147_145 ?_
  refine z_puti (pc := 146) d147_146 fk9_268 shL280 rfl rfl ⟨rfl, rfl⟩ h (fun s28 h => ?_)
  refine x_aload_n (pc := 149) d147_149 rfl ?_
  refine x_bipush (pc := 150) (v := (40)) d147_150 (by decide) ?_
  refine z_cV1i (pc := 152) d147_152 ml9_256 mv134 shL280 (t_r_isSign (40 : Int32) s28) (by decide) (Nat.le_of_ble_eq_true rfl) ⟨Nat.zero_le _, Nat.zero_le _⟩ h (fun v30 s29 h => ?_)
  refine z_if_eq (pc := 155) (tgt := 178) d147_155 (by decide) h (fun h => ?_) (fun h => ?_)
  · skip
    refine wp_lv (lv' := [(0, .ref 280)]) ⟨rfl, trivial⟩ ?_
    exact t_r_readUnary_178 s29 h
  · skip
    refine x_aload_n (pc := 158) d147_158 rfl ?_
    refine x_dup (pc := 159) d147_159 rfl ?_
    refine z_geti (pc := 160) d147_160 fk9_281 shL280 rfl h (fun v33 h => ?_)
    refine x_iconst (pc := 163) (v := (1)) d147_163 (by decide) ?_
    refine x_iadd (pc := 164) d147_164 ?_
    refine z_puti (pc := 165) d147_165 fk9_281 shL280 rfl rfl ⟨rfl, rfl⟩ h (fun s34 h => ?_)
    refine x_aload_n (pc := 168) d147_168 rfl ?_
    refine y_getr (pc := 169) d147_169 fk9_71 shL280 rfl ?_
    refine x_aload_n (pc := 172) d147_172 rfl ?_
    refine z_geti (pc := 173) d147_173 fk9_281 shL280 rfl h (fun v35 h => ?_)
    refine x_iconst (pc := 176) (v := (0)) d147_176 (by decide) ?_
    refine z_zast (pc := 177) d147_177 shL299 (by decide) h (fun s36 h => ?_)
    refine wp_lv (lv' := [(0, .ref 280)]) ⟨rfl, trivial⟩ ?_
    exact t_r_readUnary_178 s36 h
def r_readUnary_86 (x1 : Int32) (s : St) : Option (Int32 × St) := bnd (s.1 227 0 0) fun v7 => grd (ib v7 12) (s.1 212 0 v7.toNatClampNeg) fun v8 => grd (ib v7 12) (si s 212 0 v7.toNatClampNeg (v8 + (1 : Int32))) fun s9 => if x1 = 0 then (bnd (s9.1 203 0 0) fun v10 => if v10 = (3 : Int32) then (r_readUnary_198 (1 : Int32) s9) else (r_readUnary_198 (2 : Int32) s9)) else (bnd (s9.1 230 0 0) fun v21 => bnd (si s9 230 0 0 (v21 + (1 : Int32))) fun s22 => bnd (s22.1 229 0 0) fun v23 => cal2 (r_isSign (40 : Int32) s22) fun v25 s24 => if v25 = 0 then (r_readUnary_138 (1000 : Int32) v23 s24) else (r_readUnary_138 (40 : Int32) v23 s24))
set_option maxRecDepth 100000 in
theorem t_r_readUnary_86 {r : Int32 × St} : ∀ (x1 : Int32) (s : St), r_readUnary_86 x1 s = some r → Wp (rmd 2 0 0) 147 (zi (fun v s1 => (v, s1) = r)) 0 0 86 [(0, .ref 280), (1, .int x1)] [] (mk s) TT := by
  intro x1 s h
  unfold r_readUnary_86 at h
  refine x_aload_n (pc := 86) d147_86 rfl ?_
  refine y_getr (pc := 87) d147_87 fk9_21 shL280 rfl ?_
  refine x_aload_n (pc := 90) d147_90 rfl ?_
  refine z_geti (pc := 91) d147_91 fk9_265 shL280 rfl h (fun v7 h => ?_)
  refine x_dup2 (pc := 94) d147_94 rfl rfl ?_
  refine z_iald (pc := 95) d147_95 shL283 (by decide) h (fun v8 h => ?_)
  refine x_iconst (pc := 96) (v := (1)) d147_96 (by decide) ?_
  refine x_iadd (pc := 97) d147_97 ?_
  refine z_iast (pc := 98) d147_98 shL283 (by decide) h (fun s9 h => ?_)
  refine x_iload_n (pc := 99) d147_99 rfl ?_
  refine z_if_eq (pc := 100) (tgt := 184) d147_100 (by decide) h (fun h => ?_) (fun h => ?_)
  · skip
    refine x_aload_n (pc := 184) d147_184 rfl ?_
    refine x_aload_n (pc := 185) d147_185 rfl ?_
    refine z_geti (pc := 186) d147_186 fk9_221 shL280 rfl h (fun v10 h => ?_)
    refine x_iconst (pc := 189) (v := (3)) d147_189 (by decide) ?_
    refine z_icmp_ne (pc := 190) (tgt := 197) d147_190 (by decide) h (fun h => ?_) (fun h => ?_)
    · skip
      refine x_iconst (pc := 197) (v := (2)) d147_197 (by decide) ?_
      refine wp_lv (lv' := [(0, .ref 280)]) ⟨rfl, trivial⟩ ?_
      exact t_r_readUnary_198 (2 : Int32) s9 h
    · skip
      refine x_iconst (pc := 193) (v := (1)) d147_193 (by decide) ?_
      refine x_goto (pc := 194) (tgt := 198) d147_194 (by decide) ?_
      refine wp_lv (lv' := [(0, .ref 280)]) ⟨rfl, trivial⟩ ?_
      exact t_r_readUnary_198 (1 : Int32) s9 h
  · skip
    refine x_aload_n (pc := 103) d147_103 rfl ?_
    refine x_dup (pc := 104) d147_104 rfl ?_
    refine z_geti (pc := 105) d147_105 fk9_278 shL280 rfl h (fun v21 h => ?_)
    refine x_iconst (pc := 108) (v := (1)) d147_108 (by decide) ?_
    refine x_iadd (pc := 109) d147_109 ?_
    refine z_puti (pc := 110) d147_110 fk9_278 shL280 rfl rfl ⟨rfl, rfl⟩ h (fun s22 h => ?_)
    refine x_aload_n (pc := 113) d147_113 rfl ?_
    refine y_getr (pc := 114) d147_114 fk9_68 shL280 rfl ?_
    refine x_aload_n (pc := 117) d147_117 rfl ?_
    refine z_geti (pc := 118) d147_118 fk9_268 shL280 rfl h (fun v23 h => ?_)
    refine x_aload_n (pc := 121) d147_121 rfl ?_
    refine x_bipush (pc := 122) (v := (40)) d147_122 (by decide) ?_
    refine z_cV1i (pc := 124) d147_124 ml9_256 mv134 shL280 (t_r_isSign (40 : Int32) s22) (by decide) (Nat.le_of_ble_eq_true rfl) ⟨Nat.zero_le _, Nat.zero_le _⟩ h (fun v25 s24 h => ?_)
    refine z_if_eq (pc := 127) (tgt := 135) d147_127 (by decide) h (fun h => ?_) (fun h => ?_)
    · skip
      refine x_sipush (pc := 135) (v := (1000)) d147_135 (by decide) ?_
      refine wp_lv (lv' := [(0, .ref 280)]) ⟨rfl, trivial⟩ ?_
      exact t_r_readUnary_138 (1000 : Int32) v23 s24 h
    · skip
      refine x_bipush (pc := 130) (v := (40)) d147_130 (by decide) ?_
      refine x_goto (pc := 132) (tgt := 138) d147_132 (by decide) ?_
      refine wp_lv (lv' := [(0, .ref 280)]) ⟨rfl, trivial⟩ ?_
      exact t_r_readUnary_138 (40 : Int32) v23 s24 h
def r_readUnary_48 (x1 : Int32) (y0 : Int32) (s : St) : Option (Int32 × St) := if y0 = 0 then (r_readUnary_80 s) else (bnd (s.1 227 0 0) fun v5 => grd (ib v5 12) (s.1 212 0 v5.toNatClampNeg) fun v6 => if v6 = (60 : Int32) then (r_readUnary_80 s) else (if x1 = 0 then (r_readUnary_86 x1 s) else (bnd (s.1 230 0 0) fun v37 => if v37 = (8 : Int32) then (r_readUnary_80 s) else (r_readUnary_86 x1 s))))
set_option maxRecDepth 100000 in
theorem t_r_readUnary_48 {r : Int32 × St} : ∀ (x1 : Int32) (y0 : Int32) (s : St), r_readUnary_48 x1 y0 s = some r → Wp (rmd 2 0 0) 147 (zi (fun v s1 => (v, s1) = r)) 0 0 48 [(0, .ref 280), (1, .int x1)] [.int y0] (mk s) TT := by
  intro x1 y0 s h
  unfold r_readUnary_48 at h
  refine x_istore_n (pc := 48) d147_48 (by decide) ?_
  refine x_iload_n (pc := 49) d147_49 rfl ?_
  refine z_if_eq (pc := 50) (tgt := 80) d147_50 (by decide) h (fun h => ?_) (fun h => ?_)
  · skip
    refine wp_lv (lv' := [(0, .ref 280)]) ⟨rfl, trivial⟩ ?_
    exact t_r_readUnary_80 s h
  · skip
    refine x_aload_n (pc := 53) d147_53 rfl ?_
    refine y_getr (pc := 54) d147_54 fk9_21 shL280 rfl ?_
    refine x_aload_n (pc := 57) d147_57 rfl ?_
    refine z_geti (pc := 58) d147_58 fk9_265 shL280 rfl h (fun v5 h => ?_)
    refine z_iald (pc := 61) d147_61 shL283 (by decide) h (fun v6 h => ?_)
    refine x_bipush (pc := 62) (v := (60)) d147_62 (by decide) ?_
    refine z_icmp_eq (pc := 64) (tgt := 80) d147_64 (by decide) h (fun h => ?_) (fun h => ?_)
    · skip
      refine wp_lv (lv' := [(0, .ref 280)]) ⟨rfl, trivial⟩ ?_
      exact t_r_readUnary_80 s h
    · skip
      refine x_iload_n (pc := 67) d147_67 rfl ?_
      refine z_if_eq (pc := 68) (tgt := 86) d147_68 (by decide) h (fun h => ?_) (fun h => ?_)
      · skip
        refine wp_lv (lv' := [(0, .ref 280), (1, .int x1)]) ⟨rfl, rfl, trivial⟩ ?_
        exact t_r_readUnary_86 x1 s h
      · skip
        refine x_aload_n (pc := 71) d147_71 rfl ?_
        refine z_geti (pc := 72) d147_72 fk9_278 shL280 rfl h (fun v37 h => ?_)
        refine x_bipush (pc := 75) (v := (8)) d147_75 (by decide) ?_
        refine z_icmp_ne (pc := 77) (tgt := 86) d147_77 (by decide) h (fun h => ?_) (fun h => ?_)
        · skip
          refine wp_lv (lv' := [(0, .ref 280), (1, .int x1)]) ⟨rfl, rfl, trivial⟩ ?_
          exact t_r_readUnary_86 x1 s h
        · skip
          refine wp_lv (lv' := [(0, .ref 280)]) ⟨rfl, trivial⟩ ?_
          exact t_r_readUnary_80 s h
def r_readUnary_43 (x1 : Int32) (s : St) : Option (Int32 × St) := r_readUnary_48 x1 (1 : Int32) s
set_option maxRecDepth 100000 in
theorem t_r_readUnary_43 {r : Int32 × St} : ∀ (x1 : Int32) (s : St), r_readUnary_43 x1 s = some r → Wp (rmd 2 0 0) 147 (zi (fun v s1 => (v, s1) = r)) 0 0 43 [(0, .ref 280), (1, .int x1)] [] (mk s) TT := by
  intro x1 s h
  unfold r_readUnary_43 at h
  refine x_iconst (pc := 43) (v := (1)) d147_43 (by decide) ?_
  refine x_goto (pc := 44) (tgt := 48) d147_44 (by decide) ?_
  refine wp_lv (lv' := [(0, .ref 280), (1, .int x1)]) ⟨rfl, rfl, trivial⟩ ?_
  exact t_r_readUnary_48 x1 (1 : Int32) s h
def r_readUnary_23 (y0 : Int32) (s : St) : Option (Int32 × St) := if y0 = 0 then (bnd (s.1 203 0 0) fun v38 => if v38 = (3 : Int32) then (r_readUnary_43 y0 s) else (cal2 (r_isLocal  s) fun v40 s39 => if v40 = 0 then (r_readUnary_48 y0 (0 : Int32) s39) else (r_readUnary_43 y0 s39))) else (r_readUnary_43 y0 s)
set_option maxRecDepth 100000 in
theorem t_r_readUnary_23 {r : Int32 × St} : ∀ (y0 : Int32) (s : St), r_readUnary_23 y0 s = some r → Wp (rmd 2 0 0) 147 (zi (fun v s1 => (v, s1) = r)) 0 0 23 [(0, .ref 280)] [.int y0] (mk s) TT := by
  intro y0 s h
  unfold r_readUnary_23 at h
  refine x_istore_n (pc := 23) d147_23 (by decide) ?_
  refine x_iload_n (pc := 24) d147_24 rfl ?_
  refine z_if_ne (pc := 25) (tgt := 43) d147_25 (by decide) h (fun h => ?_) (fun h => ?_)
  · skip
    refine wp_lv (lv' := [(0, .ref 280), (1, .int y0)]) ⟨rfl, rfl, trivial⟩ ?_
    exact t_r_readUnary_43 y0 s h
  · skip
    refine x_aload_n (pc := 28) d147_28 rfl ?_
    refine z_geti (pc := 29) d147_29 fk9_221 shL280 rfl h (fun v38 h => ?_)
    refine x_iconst (pc := 32) (v := (3)) d147_32 (by decide) ?_
    refine z_icmp_eq (pc := 33) (tgt := 43) d147_33 (by decide) h (fun h => ?_) (fun h => ?_)
    · skip
      refine wp_lv (lv' := [(0, .ref 280), (1, .int y0)]) ⟨rfl, rfl, trivial⟩ ?_
      exact t_r_readUnary_43 y0 s h
    · skip
      refine x_aload_n (pc := 36) d147_36 rfl ?_
      refine z_cV0i (pc := 37) d147_37 ml9_295 mv140 shL280 (t_r_isLocal  s) (by decide) (Nat.le_of_ble_eq_true rfl) ⟨Nat.zero_le _, Nat.zero_le _⟩ h (fun v40 s39 h => ?_)
      refine z_if_eq (pc := 40) (tgt := 47) d147_40 (by decide) h (fun h => ?_) (fun h => ?_)
      · skip
        refine x_iconst (pc := 47) (v := (0)) d147_47 (by decide) ?_
        refine wp_lv (lv' := [(0, .ref 280), (1, .int y0)]) ⟨rfl, rfl, trivial⟩ ?_
        exact t_r_readUnary_48 y0 (0 : Int32) s39 h
      · skip
        refine wp_lv (lv' := [(0, .ref 280), (1, .int y0)]) ⟨rfl, rfl, trivial⟩ ?_
        exact t_r_readUnary_43 y0 s39 h
def r_readUnary_18 (s : St) : Option (Int32 × St) := r_readUnary_23 (1 : Int32) s
set_option maxRecDepth 100000 in
theorem t_r_readUnary_18 {r : Int32 × St} : ∀ (s : St), r_readUnary_18 s = some r → Wp (rmd 2 0 0) 147 (zi (fun v s1 => (v, s1) = r)) 0 0 18 [(0, .ref 280)] [] (mk s) TT := by
  intro s h
  unfold r_readUnary_18 at h
  refine x_iconst (pc := 18) (v := (1)) d147_18 (by decide) ?_
  refine x_goto (pc := 19) (tgt := 23) d147_19 (by decide) ?_
  refine wp_lv (lv' := [(0, .ref 280)]) ⟨rfl, trivial⟩ ?_
  exact t_r_readUnary_23 (1 : Int32) s h
def r_readUnary (s : St) : Option (Int32 × St) := cal2 (r_isSign (45 : Int32) s) fun v2 s1 => if v2 = 0 then (cal2 (r_isSign (40 : Int32) s1) fun v42 s41 => if v42 = 0 then (r_readUnary_23 (0 : Int32) s41) else (r_readUnary_18 s41)) else (r_readUnary_18 s1)
set_option maxRecDepth 100000 in
theorem t_r_readUnary (s : St) (r : Int32 × St) (h : r_readUnary s = some r) : Ri 2 147 [.ref 280] s (fun v s1 => (v, s1) = r) := by
  refine ct_of (by decide +kernel) (Nat.le_of_ble_eq_true rfl) ?_
  show Wp _ _ _ _ _ _ [(0, .ref 280)] _ _ _
  unfold r_readUnary at h
  refine x_aload_n (pc := 0) d147_0 rfl ?_
  refine x_bipush (pc := 1) (v := (45)) d147_1 (by decide) ?_
  refine z_cV1i (pc := 3) d147_3 ml9_256 mv134 shL280 (t_r_isSign (45 : Int32) s) (by decide) (Nat.le_of_ble_eq_true rfl) ⟨Nat.zero_le _, Nat.zero_le _⟩ h (fun v2 s1 h => ?_)
  refine z_if_ne (pc := 6) (tgt := 18) d147_6 (by decide) h (fun h => ?_) (fun h => ?_)
  · skip
    refine wp_lv (lv' := [(0, .ref 280)]) ⟨rfl, trivial⟩ ?_
    exact t_r_readUnary_18 s1 h
  · skip
    refine x_aload_n (pc := 9) d147_9 rfl ?_
    refine x_bipush (pc := 10) (v := (40)) d147_10 (by decide) ?_
    refine z_cV1i (pc := 12) d147_12 ml9_256 mv134 shL280 (t_r_isSign (40 : Int32) s1) (by decide) (Nat.le_of_ble_eq_true rfl) ⟨Nat.zero_le _, Nat.zero_le _⟩ h (fun v42 s41 h => ?_)
    refine z_if_eq (pc := 15) (tgt := 22) d147_15 (by decide) h (fun h => ?_) (fun h => ?_)
    · skip
      refine x_iconst (pc := 22) (v := (0)) d147_22 (by decide) ?_
      refine wp_lv (lv' := [(0, .ref 280)]) ⟨rfl, trivial⟩ ?_
      exact t_r_readUnary_23 (0 : Int32) s41 h
    · skip
      refine wp_lv (lv' := [(0, .ref 280)]) ⟨rfl, trivial⟩ ?_
      exact t_r_readUnary_18 s41 h
def r_exp_285 (x1 : Int32) (s : St) : Option (Int32 × St) := cal (r_reduce (1 : Int32) s) fun s9 => cal (r_act (4 : Int32) (-1 : Int32) (0 : Int64) s9) fun s11 => some (x1, s11)
set_option maxRecDepth 100000 in
theorem t_r_exp_285 {r : Int32 × St} : ∀ (x1 : Int32) (s : St), r_exp_285 x1 s = some r → Wp (rmd 3 0 0) 146 (zi (fun v s1 => (v, s1) = r)) 0 0 285 [(0, .ref 280), (1, .int x1)] [] (mk s) TT := by
  intro x1 s h
  unfold r_exp_285 at h
  refine x_aload_n (pc := 285) d146_285 rfl ?_
  refine x_iconst (pc := 286) (v := (1)) d146_286 (by decide) ?_
  refine z_cV1v (pc := 287) d146_287 ml9_288 mv150 shL280 (t_r_reduce (1 : Int32) s) (by decide) (Nat.le_of_ble_eq_true rfl) ⟨Nat.zero_le _, Nat.zero_le _⟩ h (fun s9 h => ?_)
  refine x_aload_n (pc := 290) d146_290 rfl ?_
  refine x_iconst (pc := 291) (v := (4)) d146_291 (by decide) ?_
  refine x_iconst (pc := 292) (v := (-1)) d146_292 (by decide) ?_
  refine x_lconst (pc := 293) (v := (0)) d146_293 (by decide) ?_
  refine z_cV3v (pc := 294) d146_294 ml9_274 mv148 shL280 (t_r_act (4 : Int32) (-1 : Int32) (0 : Int64) s9) (by decide) (Nat.le_of_ble_eq_true rfl) ⟨Nat.zero_le _, Nat.zero_le _⟩ h (fun s11 h => ?_)
  refine x_iload_n (pc := 297) d146_297 rfl ?_
  exact z_iret (pc := 298) d146_298 rfl h
def r_exp_274 (x1 : Int32) (s : St) : Option (Int32 × St) := bnd (s.1 232 0 0) fun v8 => if v8 ≤ 0 then (r_exp_285 x1 s) else (cal (r_misplaced  s) fun s13 => r_exp_285 x1 s13)
set_option maxRecDepth 100000 in
theorem t_r_exp_274 {r : Int32 × St} : ∀ (x1 : Int32) (s : St), r_exp_274 x1 s = some r → Wp (rmd 3 0 0) 146 (zi (fun v s1 => (v, s1) = r)) 0 0 274 [(0, .ref 280), (1, .int x1)] [] (mk s) TT := by
  intro x1 s h
  unfold r_exp_274 at h
  refine x_aload_n (pc := 274) d146_274 rfl ?_
  refine z_geti (pc := 275) d146_275 fk9_281 shL280 rfl h (fun v8 h => ?_)
  refine z_if_le (pc := 278) (tgt := 285) d146_278 (by decide) h (fun h => ?_) (fun h => ?_)
  · skip
    refine wp_lv (lv' := [(0, .ref 280), (1, .int x1)]) ⟨rfl, rfl, trivial⟩ ?_
    exact t_r_exp_285 x1 s h
  · skip
    refine x_aload_n (pc := 281) d146_281 rfl ?_
    refine z_cV0v (pc := 282) d146_282 ml9_259 mv135 shL280 (t_r_misplaced  s) (by decide) (Nat.le_of_ble_eq_true rfl) ⟨Nat.zero_le _, Nat.zero_le _⟩ h (fun s13 h => ?_)
    refine wp_lv (lv' := [(0, .ref 280), (1, .int x1)]) ⟨rfl, rfl, trivial⟩ ?_
    exact t_r_exp_285 x1 s13 h
def r_exp_269 (K45 : Int32 → Int32 → Int32 → St → Option (Int32 × St)) (x1 : Int32) (x2 : Int32) (s : St) : Option (Int32 × St) := K45 x1 x2 (0 : Int32) s
set_option maxRecDepth 100000 in
theorem t_r_exp_269 {r : Int32 × St} (K45 : Int32 → Int32 → Int32 → St → Option (Int32 × St)) (hK45 : ∀ (x1 : Int32) (x2 : Int32) (x3 : Int32) (s : St), K45 x1 x2 x3 s = some r → Wp (rmd 3 0 0) 146 (zi (fun v s1 => (v, s1) = r)) 0 0 45 [(0, .ref 280), (1, .int x1), (2, .int x2), (3, .int x3)] [] (mk s) TT) : ∀ (x1 : Int32) (x2 : Int32) (s : St), r_exp_269 K45 x1 x2 s = some r → Wp (rmd 3 0 0) 146 (zi (fun v s1 => (v, s1) = r)) 0 0 269 [(0, .ref 280), (1, .int x1), (2, .int x2)] [] (mk s) TT := by
  intro x1 x2 s h
  unfold r_exp_269 at h
  refine x_iconst (pc := 269) (v := (0)) d146_269 (by decide) ?_
  refine x_istore_n (pc := 270) d146_270 (by decide) ?_
  refine x_goto (pc := 271) (tgt := 45) d146_271 (by decide) ?_
  refine wp_lv (lv' := [(0, .ref 280), (1, .int x1), (2, .int x2), (3, .int (0 : Int32))]) ⟨rfl, rfl, rfl, rfl, trivial⟩ ?_
  exact hK45 x1 x2 (0 : Int32) s h
def r_exp_234 (K45 : Int32 → Int32 → Int32 → St → Option (Int32 × St)) (x1 : Int32) (x3 : Int32) (y0 : Int32) (s : St) : Option (Int32 × St) := cal (r_reduce y0 s) fun s32 => bnd (s32.1 229 0 0) fun v34 => bnd (s32.1 207 0 0) fun v35 => grd (ib v34 64) (si s32 228 0 v34.toNatClampNeg v35) fun s36 => bnd (s36.1 229 0 0) fun v37 => bnd (si s36 229 0 0 (v37 + (1 : Int32))) fun s38 => cal (r_next  s38) fun s39 => K45 x1 (1 : Int32) x3 s39
set_option maxRecDepth 100000 in
theorem t_r_exp_234 {r : Int32 × St} (K45 : Int32 → Int32 → Int32 → St → Option (Int32 × St)) (hK45 : ∀ (x1 : Int32) (x2 : Int32) (x3 : Int32) (s : St), K45 x1 x2 x3 s = some r → Wp (rmd 3 0 0) 146 (zi (fun v s1 => (v, s1) = r)) 0 0 45 [(0, .ref 280), (1, .int x1), (2, .int x2), (3, .int x3)] [] (mk s) TT) : ∀ (x1 : Int32) (x3 : Int32) (y0 : Int32) (s : St), r_exp_234 K45 x1 x3 y0 s = some r → Wp (rmd 3 0 0) 146 (zi (fun v s1 => (v, s1) = r)) 0 0 234 [(0, .ref 280), (1, .int x1), (3, .int x3)] [.int y0, .ref 280] (mk s) TT := by
  intro x1 x3 y0 s h
  unfold r_exp_234 at h
  refine z_cV1v (pc := 234) d146_234 ml9_288 mv150 shL280 (t_r_reduce y0 s) (by decide) (Nat.le_of_ble_eq_true rfl) ⟨Nat.zero_le _, Nat.zero_le _⟩ h (fun s32 h => ?_)
  refine x_aload_n (pc := 237) d146_237 rfl ?_
  refine y_getr (pc := 238) d146_238 fk9_68 shL280 rfl ?_
  refine x_aload_n (pc := 241) d146_241 rfl ?_
  refine z_geti (pc := 242) d146_242 fk9_268 shL280 rfl h (fun v34 h => ?_)
  refine x_aload_n (pc := 245) d146_245 rfl ?_
  refine z_geti (pc := 246) d146_246 fk9_246 shL280 rfl h (fun v35 h => ?_)
  refine z_iast (pc := 249) d146_249 shL298 (by decide) h (fun s36 h => ?_)
  refine x_aload_n (pc := 250) d146_250 rfl ?_
  refine x_dup (pc := 251) d146_251 rfl ?_
  refine z_geti (pc := 252) d146_252 fk9_268 shL280 rfl h (fun v37 h => ?_)
  refine x_iconst (pc := 255) (v := (1)) d146_255 (by decide) ?_
  refine x_iadd (pc := 256) d146_256 ?_
  refine z_puti (pc := 257) d146_257 fk9_268 shL280 rfl rfl ⟨rfl, rfl⟩ h (fun s38 h => ?_)
  refine x_aload_n (pc := 260) d146_260 rfl ?_
  refine z_cV0v (pc := 261) d146_261 ml9_262 mv128 shL280 (t_r_next  s38) (by decide) (Nat.le_of_ble_eq_true rfl) ⟨Nat.zero_le _, Nat.zero_le _⟩ h (fun s39 h => ?_)
  refine x_iconst (pc := 264) (v := (1)) d146_264 (by decide) ?_
  refine x_istore_n (pc := 265) d146_265 (by decide) ?_
  refine x_goto (pc := 266) (tgt := 45) d146_266 (by decide) ?_
  refine wp_lv (lv' := [(0, .ref 280), (1, .int x1), (2, .int (1 : Int32)), (3, .int x3)]) ⟨rfl, rfl, rfl, rfl, trivial⟩ ?_
  exact hK45 x1 (1 : Int32) x3 s39 h
def r_exp_220 (K45 : Int32 → Int32 → Int32 → St → Option (Int32 × St)) (x1 : Int32) (x3 : Int32) (x4 : Int32) (y0 : Int32) (y1 : Int32) (s : St) : Option (Int32 × St) := grd (ib y1 16 ∧ zo y0) (si s 231 0 y1.toNatClampNeg y0) fun s31 => if x4 = (1 : Int32) then (r_exp_234 K45 x1 x3 (2 : Int32) s31) else (r_exp_234 K45 x1 x3 x4 s31)
set_option maxRecDepth 100000 in
theorem t_r_exp_220 {r : Int32 × St} (K45 : Int32 → Int32 → Int32 → St → Option (Int32 × St)) (hK45 : ∀ (x1 : Int32) (x2 : Int32) (x3 : Int32) (s : St), K45 x1 x2 x3 s = some r → Wp (rmd 3 0 0) 146 (zi (fun v s1 => (v, s1) = r)) 0 0 45 [(0, .ref 280), (1, .int x1), (2, .int x2), (3, .int x3)] [] (mk s) TT) : ∀ (x1 : Int32) (x3 : Int32) (x4 : Int32) (y0 : Int32) (y1 : Int32) (s : St), r_exp_220 K45 x1 x3 x4 y0 y1 s = some r → Wp (rmd 3 0 0) 146 (zi (fun v s1 => (v, s1) = r)) 0 0 220 [(0, .ref 280), (1, .int x1), (3, .int x3), (4, .int x4)] [.int y0, .int y1, .ref 299] (mk s) TT := by
  intro x1 x3 x4 y0 y1 s h
  unfold r_exp_220 at h
  refine z_zast (pc := 220) d146_220 shL299 (by decide) h (fun s31 h => ?_)
  refine x_aload_n (pc := 221) d146_221 rfl ?_
  refine x_iload (pc := 222) d146_222 rfl ?_
  refine x_iconst (pc := 224) (v := (1)) d146_224 (by decide) ?_
  refine z_icmp_ne (pc := 225) (tgt := 232) d146_225 (by decide) h (fun h => ?_) (fun h => ?_)
  · skip
    refine x_iload (pc := 232) d146_232 rfl ?_
    refine wp_lv (lv' := [(0, .ref 280), (1, .int x1), (3, .int x3)]) ⟨rfl, rfl, rfl, trivial⟩ ?_
    exact t_r_exp_234 K45 hK45 x1 x3 x4 s31 h
  · skip
    refine x_iconst (pc := 228) (v := (2)) d146_228 (by decide) ?_
    refine x_goto (pc := 229) (tgt := 234) d146_229 (by decide) ?_
    refine wp_lv (lv' := [(0, .ref 280), (1, .int x1), (3, .int x3)]) ⟨rfl, rfl, rfl, trivial⟩ ?_
    exact t_r_exp_234 K45 hK45 x1 x3 (2 : Int32) s31 h
def r_exp_215 (K45 : Int32 → Int32 → Int32 → St → Option (Int32 × St)) (x1 : Int32) (x3 : Int32) (x4 : Int32) (y0 : Int32) (s : St) : Option (Int32 × St) := r_exp_220 K45 x1 x3 x4 (1 : Int32) y0 s
set_option maxRecDepth 100000 in
theorem t_r_exp_215 {r : Int32 × St} (K45 : Int32 → Int32 → Int32 → St → Option (Int32 × St)) (hK45 : ∀ (x1 : Int32) (x2 : Int32) (x3 : Int32) (s : St), K45 x1 x2 x3 s = some r → Wp (rmd 3 0 0) 146 (zi (fun v s1 => (v, s1) = r)) 0 0 45 [(0, .ref 280), (1, .int x1), (2, .int x2), (3, .int x3)] [] (mk s) TT) : ∀ (x1 : Int32) (x3 : Int32) (x4 : Int32) (y0 : Int32) (s : St), r_exp_215 K45 x1 x3 x4 y0 s = some r → Wp (rmd 3 0 0) 146 (zi (fun v s1 => (v, s1) = r)) 0 0 215 [(0, .ref 280), (1, .int x1), (3, .int x3), (4, .int x4)] [.int y0, .ref 299] (mk s) TT := by
  intro x1 x3 x4 y0 s h
  unfold r_exp_215 at h
  refine x_iconst (pc := 215) (v := (1)) d146_215 (by decide) ?_
  refine x_goto (pc := 216) (tgt := 220) d146_216 (by decide) ?_
  refine wp_lv (lv' := [(0, .ref 280), (1, .int x1), (3, .int x3), (4, .int x4)]) ⟨rfl, rfl, rfl, rfl, trivial⟩ ?_
  exact t_r_exp_220 K45 hK45 x1 x3 x4 (1 : Int32) y0 s h
def r_exp_180 (K45 : Int32 → Int32 → Int32 → St → Option (Int32 × St)) (x1 : Int32) (x3 : Int32) (s : St) : Option (Int32 × St) := bnd (s.1 207 0 0) fun v25 => cal2 (r_strengthOf v25 s) fun v27 s26 => bnd (s26.1 232 0 0) fun v28 => bnd (s26.1 232 0 0) fun v29 => grd (ib v29 16) (s26.1 231 0 v29.toNatClampNeg) fun v30 => if v30 = 0 then (if v27 = (1 : Int32) then (r_exp_215 K45 x1 x3 v27 v28 s26) else (r_exp_220 K45 x1 x3 v27 (0 : Int32) v28 s26)) else (r_exp_215 K45 x1 x3 v27 v28 s26)
set_option maxRecDepth 100000 in
theorem t_r_exp_180 {r : Int32 × St} (K45 : Int32 → Int32 → Int32 → St → Option (Int32 × St)) (hK45 : ∀ (x1 : Int32) (x2 : Int32) (x3 : Int32) (s : St), K45 x1 x2 x3 s = some r → Wp (rmd 3 0 0) 146 (zi (fun v s1 => (v, s1) = r)) 0 0 45 [(0, .ref 280), (1, .int x1), (2, .int x2), (3, .int x3)] [] (mk s) TT) : ∀ (x1 : Int32) (x3 : Int32) (s : St), r_exp_180 K45 x1 x3 s = some r → Wp (rmd 3 0 0) 146 (zi (fun v s1 => (v, s1) = r)) 0 0 180 [(0, .ref 280), (1, .int x1), (3, .int x3)] [] (mk s) TT := by
  intro x1 x3 s h
  unfold r_exp_180 at h
  refine x_aload_n (pc := 180) d146_180 rfl ?_
  refine z_geti (pc := 181) d146_181 fk9_246 shL280 rfl h (fun v25 h => ?_)
  refine z_cS1i (pc := 184) d146_184 ml9_271 mv151 (t_r_strengthOf v25 s) (by decide) (Nat.le_of_ble_eq_true rfl) ⟨Nat.zero_le _, Nat.zero_le _⟩ h (fun v27 s26 h => ?_)
  refine x_istore (pc := 187) d146_187 (by decide) ?_
  refine x_aload_n (pc := 189) d146_189 rfl ?_
  refine y_getr (pc := 190) d146_190 fk9_71 shL280 rfl ?_
  refine x_aload_n (pc := 193) d146_193 rfl ?_
  refine z_geti (pc := 194) d146_194 fk9_281 shL280 rfl h (fun v28 h => ?_)
  refine x_aload_n (pc := 197) d146_197 rfl ?_
  refine y_getr (pc := 198) d146_198 fk9_71 shL280 rfl ?_
  refine x_aload_n (pc := 201) d146_201 rfl ?_
  refine z_geti (pc := 202) d146_202 fk9_281 shL280 rfl h (fun v29 h => ?_)
  refine z_zald (pc := 205) d146_205 shL299 (by decide) h (fun v30 h => ?_)
  refine z_if_ne (pc := 206) (tgt := 215) d146_206 (by decide) h (fun h => ?_) (fun h => ?_)
  · skip
    refine wp_lv (lv' := [(0, .ref 280), (1, .int x1), (3, .int x3), (4, .int v27)]) ⟨rfl, rfl, rfl, rfl, trivial⟩ ?_
    exact t_r_exp_215 K45 hK45 x1 x3 v27 v28 s26 h
  · skip
    refine x_iload (pc := 209) d146_209 rfl ?_
    refine x_iconst (pc := 211) (v := (1)) d146_211 (by decide) ?_
    refine z_icmp_ne (pc := 212) (tgt := 219) d146_212 (by decide) h (fun h => ?_) (fun h => ?_)
    · skip
      refine x_iconst (pc := 219) (v := (0)) d146_219 (by decide) ?_
      refine wp_lv (lv' := [(0, .ref 280), (1, .int x1), (3, .int x3), (4, .int v27)]) ⟨rfl, rfl, rfl, rfl, trivial⟩ ?_
      exact t_r_exp_220 K45 hK45 x1 x3 v27 (0 : Int32) v28 s26 h
    · skip
      refine wp_lv (lv' := [(0, .ref 280), (1, .int x1), (3, .int x3), (4, .int v27)]) ⟨rfl, rfl, rfl, rfl, trivial⟩ ?_
      exact t_r_exp_215 K45 hK45 x1 x3 v27 v28 s26 h
def r_exp_149 (K45 : Int32 → Int32 → Int32 → St → Option (Int32 × St)) (x1 : Int32) (x2 : Int32) (x3 : Int32) (s : St) : Option (Int32 × St) := bnd (s.1 203 0 0) fun v19 => if v19 = (4 : Int32) then (bnd (s.1 207 0 0) fun v20 => cal2 (r_strengthOf v20 s) fun v22 s21 => if v22 = (1 : Int32) then (bnd (s21.1 232 0 0) fun v23 => grd (ib v23 16) (s21.1 231 0 v23.toNatClampNeg) fun v24 => if v24 = 0 then (r_exp_180 K45 x1 x3 s21) else (r_exp_269 K45 x1 x2 s21)) else (r_exp_269 K45 x1 x2 s21)) else (r_exp_269 K45 x1 x2 s)
set_option maxRecDepth 100000 in
theorem t_r_exp_149 {r : Int32 × St} (K45 : Int32 → Int32 → Int32 → St → Option (Int32 × St)) (hK45 : ∀ (x1 : Int32) (x2 : Int32) (x3 : Int32) (s : St), K45 x1 x2 x3 s = some r → Wp (rmd 3 0 0) 146 (zi (fun v s1 => (v, s1) = r)) 0 0 45 [(0, .ref 280), (1, .int x1), (2, .int x2), (3, .int x3)] [] (mk s) TT) : ∀ (x1 : Int32) (x2 : Int32) (x3 : Int32) (s : St), r_exp_149 K45 x1 x2 x3 s = some r → Wp (rmd 3 0 0) 146 (zi (fun v s1 => (v, s1) = r)) 0 0 149 [(0, .ref 280), (1, .int x1), (2, .int x2), (3, .int x3)] [] (mk s) TT := by
  intro x1 x2 x3 s h
  unfold r_exp_149 at h
  refine x_aload_n (pc := 149) d146_149 rfl ?_
  refine z_geti (pc := 150) d146_150 fk9_221 shL280 rfl h (fun v19 h => ?_)
  refine x_iconst (pc := 153) (v := (4)) d146_153 (by decide) ?_
  refine z_icmp_ne (pc := 154) (tgt := 269) d146_154 (by decide) h (fun h => ?_) (fun h => ?_)
  · skip
    refine wp_lv (lv' := [(0, .ref 280), (1, .int x1), (2, .int x2)]) ⟨rfl, rfl, rfl, trivial⟩ ?_
    exact t_r_exp_269 K45 hK45 x1 x2 s h
  · skip
    refine x_aload_n (pc := 157) d146_157 rfl ?_
    refine z_geti (pc := 158) d146_158 fk9_246 shL280 rfl h (fun v20 h => ?_)
    refine z_cS1i (pc := 161) d146_161 ml9_271 mv151 (t_r_strengthOf v20 s) (by decide) (Nat.le_of_ble_eq_true rfl) ⟨Nat.zero_le _, Nat.zero_le _⟩ h (fun v22 s21 h => ?_)
    refine x_iconst (pc := 164) (v := (1)) d146_164 (by decide) ?_
    refine z_icmp_ne (pc := 165) (tgt := 269) d146_165 (by decide) h (fun h => ?_) (fun h => ?_)
    · skip
      refine wp_lv (lv' := [(0, .ref 280), (1, .int x1), (2, .int x2)]) ⟨rfl, rfl, rfl, trivial⟩ ?_
      exact t_r_exp_269 K45 hK45 x1 x2 s21 h
    · skip
      refine x_aload_n (pc := 168) d146_168 rfl ?_
      refine y_getr (pc := 169) d146_169 fk9_71 shL280 rfl ?_
      refine x_aload_n (pc := 172) d146_172 rfl ?_
      refine z_geti (pc := 173) d146_173 fk9_281 shL280 rfl h (fun v23 h => ?_)
      refine z_zald (pc := 176) d146_176 shL299 (by decide) h (fun v24 h => ?_)
      refine z_if_ne (pc := 177) (tgt := 269) d146_177 (by decide) h (fun h => ?_) (fun h => ?_)
      · skip
        refine wp_lv (lv' := [(0, .ref 280), (1, .int x1), (2, .int x2)]) ⟨rfl, rfl, rfl, trivial⟩ ?_
        exact t_r_exp_269 K45 hK45 x1 x2 s21 h
      · skip
        refine wp_lv (lv' := [(0, .ref 280), (1, .int x1), (3, .int x3)]) ⟨rfl, rfl, rfl, trivial⟩ ?_
        exact t_r_exp_180 K45 hK45 x1 x3 s21 h
def r_exp_130 (K45 : Int32 → Int32 → Int32 → St → Option (Int32 × St)) (x1 : Int32) (x2 : Int32) (x3 : Int32) (s : St) : Option (Int32 × St) := bnd (s.1 203 0 0) fun v18 => if v18 = (4 : Int32) then (bnd (s.1 207 0 0) fun v41 => cal2 (r_strengthOf v41 s) fun v43 s42 => if (1 : Int32) < v43 then (r_exp_180 K45 x1 x3 s42) else (r_exp_149 K45 x1 x2 x3 s42)) else (r_exp_149 K45 x1 x2 x3 s)
set_option maxRecDepth 100000 in
theorem t_r_exp_130 {r : Int32 × St} (K45 : Int32 → Int32 → Int32 → St → Option (Int32 × St)) (hK45 : ∀ (x1 : Int32) (x2 : Int32) (x3 : Int32) (s : St), K45 x1 x2 x3 s = some r → Wp (rmd 3 0 0) 146 (zi (fun v s1 => (v, s1) = r)) 0 0 45 [(0, .ref 280), (1, .int x1), (2, .int x2), (3, .int x3)] [] (mk s) TT) : ∀ (x1 : Int32) (x2 : Int32) (x3 : Int32) (s : St), r_exp_130 K45 x1 x2 x3 s = some r → Wp (rmd 3 0 0) 146 (zi (fun v s1 => (v, s1) = r)) 0 0 130 [(0, .ref 280), (1, .int x1), (2, .int x2), (3, .int x3)] [] (mk s) TT := by
  intro x1 x2 x3 s h
  unfold r_exp_130 at h
  refine x_aload_n (pc := 130) d146_130 rfl ?_
  refine z_geti (pc := 131) d146_131 fk9_221 shL280 rfl h (fun v18 h => ?_)
  refine x_iconst (pc := 134) (v := (4)) d146_134 (by decide) ?_
  refine z_icmp_ne (pc := 135) (tgt := 149) d146_135 (by decide) h (fun h => ?_) (fun h => ?_)
  · skip
    refine wp_lv (lv' := [(0, .ref 280), (1, .int x1), (2, .int x2), (3, .int x3)]) ⟨rfl, rfl, rfl, rfl, trivial⟩ ?_
    exact t_r_exp_149 K45 hK45 x1 x2 x3 s h
  · skip
    refine x_aload_n (pc := 138) d146_138 rfl ?_
    refine z_geti (pc := 139) d146_139 fk9_246 shL280 rfl h (fun v41 h => ?_)
    refine z_cS1i (pc := 142) d146_142 ml9_271 mv151 (t_r_strengthOf v41 s) (by decide) (Nat.le_of_ble_eq_true rfl) ⟨Nat.zero_le _, Nat.zero_le _⟩ h (fun v43 s42 h => ?_)
    refine x_iconst (pc := 145) (v := (1)) d146_145 (by decide) ?_
    refine z_icmp_gt (pc := 146) (tgt := 180) d146_146 (by decide) h (fun h => ?_) (fun h => ?_)
    · skip
      refine wp_lv (lv' := [(0, .ref 280), (1, .int x1), (3, .int x3)]) ⟨rfl, rfl, rfl, trivial⟩ ?_
      exact t_r_exp_180 K45 hK45 x1 x3 s42 h
    · skip
      refine wp_lv (lv' := [(0, .ref 280), (1, .int x1), (2, .int x2), (3, .int x3)]) ⟨rfl, rfl, rfl, rfl, trivial⟩ ?_
      exact t_r_exp_149 K45 hK45 x1 x2 x3 s42 h
def r_exp_45 : Nat → Int32 → Int32 → Int32 → St → Option (Int32 × St)
  | 0, _, _, _, _ => none
  | n + 1, x1, x2, x3, s => if x3 = 0 then (r_exp_274 x1 s) else (bnd (s.1 208 0 0) fun v15 => if v15 = 0 then (if x2 = 0 then (cal2 (r_isSign (41 : Int32) s) fun v17 s16 => if v17 = 0 then (r_exp_130 (r_exp_45 n) x1 x2 x3 s16) else (bnd (s16.1 232 0 0) fun v44 => if v44 ≤ 0 then (r_exp_130 (r_exp_45 n) x1 x2 x3 s16) else (cal (r_reduce (1 : Int32) s16) fun s45 => bnd (s45.1 229 0 0) fun v47 => bnd (si s45 229 0 0 (v47 - (1 : Int32))) fun s48 => bnd (s48.1 232 0 0) fun v49 => bnd (si s48 232 0 0 (v49 - (1 : Int32))) fun s50 => bnd (s50.1 230 0 0) fun v51 => bnd (si s50 230 0 0 (v51 - (1 : Int32))) fun s52 => cal (r_next  s52) fun s53 => cal (r_operandIsThere  s53) fun s55 => r_exp_45 n x1 x2 x3 s55))) else (cal2 (r_readUnary  s) fun v58 s57 => r_exp_45 n x1 v58 x3 s57)) else (r_exp_274 x1 s))
set_option maxRecDepth 100000 in
theorem t_r_exp_45 {r : Int32 × St} : ∀ (n : Nat) (x1 : Int32) (x2 : Int32) (x3 : Int32) (s : St), r_exp_45 n x1 x2 x3 s = some r → Wp (rmd 3 0 0) 146 (zi (fun v s1 => (v, s1) = r)) 0 0 45 [(0, .ref 280), (1, .int x1), (2, .int x2), (3, .int x3)] [] (mk s) TT := by
  intro n
  induction n with
  | zero =>
    intro x1 x2 x3 s h
    rw [r_exp_45.eq_1] at h
    cases h
  | succ n ih =>
    intro x1 x2 x3 s h
    rw [r_exp_45.eq_2] at h
    refine x_iload_n (pc := 45) d146_45 rfl ?_
    refine z_if_eq (pc := 46) (tgt := 274) d146_46 (by decide) h (fun h => ?_) (fun h => ?_)
    · skip
      refine wp_lv (lv' := [(0, .ref 280), (1, .int x1)]) ⟨rfl, rfl, trivial⟩ ?_
      exact t_r_exp_274 x1 s h
    · skip
      refine x_aload_n (pc := 49) d146_49 rfl ?_
      refine z_geti (pc := 50) d146_50 fk9_252 shL280 rfl h (fun v15 h => ?_)
      refine z_if_ne (pc := 53) (tgt := 274) d146_53 (by decide) h (fun h => ?_) (fun h => ?_)
      · skip
        refine wp_lv (lv' := [(0, .ref 280), (1, .int x1)]) ⟨rfl, rfl, trivial⟩ ?_
        exact t_r_exp_274 x1 s h
      · skip
        refine x_iload_n (pc := 56) d146_56 rfl ?_
        refine z_if_eq (pc := 57) (tgt := 68) d146_57 (by decide) h (fun h => ?_) (fun h => ?_)
        · skip
          refine x_aload_n (pc := 68) d146_68 rfl ?_
          refine x_bipush (pc := 69) (v := (41)) d146_69 (by decide) ?_
          refine z_cV1i (pc := 71) d146_71 ml9_256 mv134 shL280 (t_r_isSign (41 : Int32) s) (by decide) (Nat.le_of_ble_eq_true rfl) ⟨Nat.zero_le _, Nat.zero_le _⟩ h (fun v17 s16 h => ?_)
          refine z_if_eq (pc := 74) (tgt := 130) d146_74 (by decide) h (fun h => ?_) (fun h => ?_)
          · skip
            refine wp_lv (lv' := [(0, .ref 280), (1, .int x1), (2, .int x2), (3, .int x3)]) ⟨rfl, rfl, rfl, rfl, trivial⟩ ?_
            exact t_r_exp_130 (r_exp_45 n) ih x1 x2 x3 s16 h
          · skip
            refine x_aload_n (pc := 77) d146_77 rfl ?_
            refine z_geti (pc := 78) d146_78 fk9_281 shL280 rfl h (fun v44 h => ?_)
            refine z_if_le (pc := 81) (tgt := 130) d146_81 (by decide) h (fun h => ?_) (fun h => ?_)
            · skip
              refine wp_lv (lv' := [(0, .ref 280), (1, .int x1), (2, .int x2), (3, .int x3)]) ⟨rfl, rfl, rfl, rfl, trivial⟩ ?_
              exact t_r_exp_130 (r_exp_45 n) ih x1 x2 x3 s16 h
            · skip
              refine x_aload_n (pc := 84) d146_84 rfl ?_
              refine x_iconst (pc := 85) (v := (1)) d146_85 (by decide) ?_
              refine z_cV1v (pc := 86) d146_86 ml9_288 mv150 shL280 (t_r_reduce (1 : Int32) s16) (by decide) (Nat.le_of_ble_eq_true rfl) ⟨Nat.zero_le _, Nat.zero_le _⟩ h (fun s45 h => ?_)
              refine x_aload_n (pc := 89) d146_89 rfl ?_
              refine x_dup (pc := 90) d146_90 rfl ?_
              refine z_geti (pc := 91) d146_91 fk9_268 shL280 rfl h (fun v47 h => ?_)
              refine x_iconst (pc := 94) (v := (1)) d146_94 (by decide) ?_
              refine x_isub (pc := 95) d146_95 ?_
              refine z_puti (pc := 96) d146_96 fk9_268 shL280 rfl rfl ⟨rfl, rfl⟩ h (fun s48 h => ?_)
              refine x_aload_n (pc := 99) d146_99 rfl ?_
              refine x_dup (pc := 100) d146_100 rfl ?_
              refine z_geti (pc := 101) d146_101 fk9_281 shL280 rfl h (fun v49 h => ?_)
              refine x_iconst (pc := 104) (v := (1)) d146_104 (by decide) ?_
              refine x_isub (pc := 105) d146_105 ?_
              refine z_puti (pc := 106) d146_106 fk9_281 shL280 rfl rfl ⟨rfl, rfl⟩ h (fun s50 h => ?_)
              refine x_aload_n (pc := 109) d146_109 rfl ?_
              refine x_dup (pc := 110) d146_110 rfl ?_
              refine z_geti (pc := 111) d146_111 fk9_278 shL280 rfl h (fun v51 h => ?_)
              refine x_iconst (pc := 114) (v := (1)) d146_114 (by decide) ?_
              refine x_isub (pc := 115) d146_115 ?_
              refine z_puti (pc := 116) d146_116 fk9_278 shL280 rfl rfl ⟨rfl, rfl⟩ h (fun s52 h => ?_)
              refine x_aload_n (pc := 119) d146_119 rfl ?_
              refine z_cV0v (pc := 120) d146_120 ml9_262 mv128 shL280 (t_r_next  s52) (by decide) (Nat.le_of_ble_eq_true rfl) ⟨Nat.zero_le _, Nat.zero_le _⟩ h (fun s53 h => ?_)
              refine x_aload_n (pc := 123) d146_123 rfl ?_
              refine z_cV0v (pc := 124) d146_124 ml9_292 mv149 shL280 (t_r_operandIsThere  s53) (by decide) (Nat.le_of_ble_eq_true rfl) ⟨Nat.zero_le _, Nat.zero_le _⟩ h (fun s55 h => ?_)
              refine x_goto (pc := 127) (tgt := 45) d146_127 (by decide) ?_
              refine wp_lv (lv' := [(0, .ref 280), (1, .int x1), (2, .int x2), (3, .int x3)]) ⟨rfl, rfl, rfl, rfl, trivial⟩ ?_
              exact ih x1 x2 x3 s55 h
        · skip
          refine x_aload_n (pc := 60) d146_60 rfl ?_
          refine z_cV0i (pc := 61) d146_61 ml9_284 mv147 shL280 (t_r_readUnary  s) (by decide) (Nat.le_of_ble_eq_true rfl) ⟨Nat.zero_le _, Nat.zero_le _⟩ h (fun v58 s57 h => ?_)
          refine x_istore_n (pc := 64) d146_64 (by decide) ?_
          refine x_goto (pc := 65) (tgt := 45) d146_65 (by decide) ?_
          refine wp_lv (lv' := [(0, .ref 280), (1, .int x1), (2, .int v58), (3, .int x3)]) ⟨rfl, rfl, rfl, rfl, trivial⟩ ?_
          exact ih x1 v58 x3 s57 h
def r_exp (s : St) : Option (Int32 × St) := bnd (s.1 227 0 0) fun v1 => bnd (s.1 227 0 0) fun v2 => grd (ib v2 12) (s.1 215 0 v2.toNatClampNeg) fun v3 => bnd (si s 229 0 0 (0 : Int32)) fun s4 => bnd (si s4 230 0 0 (0 : Int32)) fun s5 => bnd (si s5 232 0 0 (0 : Int32)) fun s6 => grd (ib (0 : Int32) 16 ∧ zo (0 : Int32)) (si s6 231 0 (0 : Int32).toNatClampNeg (0 : Int32)) fun s7 => r_exp_45 900 (((200 : Int32) * v1) + v3) (1 : Int32) (1 : Int32) s7
set_option maxRecDepth 100000 in
theorem t_r_exp (s : St) (r : Int32 × St) (h : r_exp s = some r) : Ri 3 146 [.ref 280] s (fun v s1 => (v, s1) = r) := by
  refine ct_of (by decide +kernel) (Nat.le_of_ble_eq_true rfl) ?_
  show Wp _ _ _ _ _ _ [(0, .ref 280)] _ _ _
  unfold r_exp at h
  refine x_sipush (pc := 0) (v := (200)) d146_0 (by decide) ?_
  refine x_aload_n (pc := 3) d146_3 rfl ?_
  refine z_geti (pc := 4) d146_4 fk9_265 shL280 rfl h (fun v1 h => ?_)
  refine x_imul (pc := 7) d146_7 ?_
  refine x_aload_n (pc := 8) d146_8 rfl ?_
  refine y_getr (pc := 9) d146_9 fk9_30 shL280 rfl ?_
  refine x_aload_n (pc := 12) d146_12 rfl ?_
  refine z_geti (pc := 13) d146_13 fk9_265 shL280 rfl h (fun v2 h => ?_)
  refine z_iald (pc := 16) d146_16 shL286 (by decide) h (fun v3 h => ?_)
  refine x_iadd (pc := 17) d146_17 ?_
  refine x_istore_n (pc := 18) d146_18 (by decide) ?_
  refine x_aload_n (pc := 19) d146_19 rfl ?_
  refine x_iconst (pc := 20) (v := (0)) d146_20 (by decide) ?_
  refine z_puti (pc := 21) d146_21 fk9_268 shL280 rfl rfl ⟨rfl, rfl⟩ h (fun s4 h => ?_)
  refine x_aload_n (pc := 24) d146_24 rfl ?_
  refine x_iconst (pc := 25) (v := (0)) d146_25 (by decide) ?_
  refine z_puti (pc := 26) d146_26 fk9_278 shL280 rfl rfl ⟨rfl, rfl⟩ h (fun s5 h => ?_)
  refine x_aload_n (pc := 29) d146_29 rfl ?_
  refine x_iconst (pc := 30) (v := (0)) d146_30 (by decide) ?_
  refine z_puti (pc := 31) d146_31 fk9_281 shL280 rfl rfl ⟨rfl, rfl⟩ h (fun s6 h => ?_)
  refine x_aload_n (pc := 34) d146_34 rfl ?_
  refine y_getr (pc := 35) d146_35 fk9_71 shL280 rfl ?_
  refine x_iconst (pc := 38) (v := (0)) d146_38 (by decide) ?_
  refine x_iconst (pc := 39) (v := (0)) d146_39 (by decide) ?_
  refine z_zast (pc := 40) d146_40 shL299 (by decide) h (fun s7 h => ?_)
  refine x_iconst (pc := 41) (v := (1)) d146_41 (by decide) ?_
  refine x_istore_n (pc := 42) d146_42 (by decide) ?_
  refine x_iconst (pc := 43) (v := (1)) d146_43 (by decide) ?_
  refine x_istore_n (pc := 44) d146_44 (by decide) ?_
  refine wp_lv (lv' := [(0, .ref 280), (1, .int (((200 : Int32) * v1) + v3)), (2, .int (1 : Int32)), (3, .int (1 : Int32))]) ⟨rfl, rfl, rfl, rfl, trivial⟩ ?_
  exact t_r_exp_45 900 (((200 : Int32) * v1) + v3) (1 : Int32) (1 : Int32) s7 h
def r_openBody_25 (s : St) : Option (St) := cal (r_misplaced  s) fun s2 => some s2
set_option maxRecDepth 100000 in
theorem t_r_openBody_25 {r : St} : ∀ (s : St), r_openBody_25 s = some r → Wp (rmd 2 0 0) 138 (zv (fun s1 => s1 = r)) 0 0 25 [(0, .ref 280)] [] (mk s) TT := by
  intro s h
  unfold r_openBody_25 at h
  refine x_aload_n (pc := 25) d138_25 rfl ?_
  refine z_cV0v (pc := 26) d138_26 ml9_259 mv135 shL280 (t_r_misplaced  s) (by decide) (Nat.le_of_ble_eq_true rfl) ⟨Nat.zero_le _, Nat.zero_le _⟩ h (fun s2 h => ?_)
  exact z_vret (pc := 29) d138_29 rfl h
def r_openBody_80 (x1 : Int32) (x2 : Int32) (y0 : Int32) (y1 : Int32) (s : St) : Option (St) := grd (ib y1 12) (si s 213 0 y1.toNatClampNeg y0) fun s15 => bnd (s15.1 236 0 0) fun v16 => grd (ib v16 10) (si s15 233 0 v16.toNatClampNeg x1) fun s17 => bnd (s17.1 236 0 0) fun v18 => grd (ib v18 10) (si s17 234 0 v18.toNatClampNeg x2) fun s19 => bnd (s19.1 236 0 0) fun v20 => grd (ib v20 10) (si s19 235 0 v20.toNatClampNeg (-1 : Int32)) fun s21 => grd (ib (((3 : Int32) * x1) + x2) 1440 ∧ zo (1 : Int32)) (si s21 220 0 (((3 : Int32) * x1) + x2).toNatClampNeg (1 : Int32)) fun s22 => cal (r_next  s22) fun s23 => some s23
set_option maxRecDepth 100000 in
theorem t_r_openBody_80 {r : St} : ∀ (x1 : Int32) (x2 : Int32) (y0 : Int32) (y1 : Int32) (s : St), r_openBody_80 x1 x2 y0 y1 s = some r → Wp (rmd 2 0 0) 138 (zv (fun s1 => s1 = r)) 0 0 80 [(0, .ref 280), (1, .int x1), (2, .int x2)] [.int y0, .int y1, .ref 284] (mk s) TT := by
  intro x1 x2 y0 y1 s h
  unfold r_openBody_80 at h
  refine z_iast (pc := 80) d138_80 shL284 (by decide) h (fun s15 h => ?_)
  refine x_aload_n (pc := 81) d138_81 rfl ?_
  refine y_getr (pc := 82) d138_82 fk9_74 shL280 rfl ?_
  refine x_aload_n (pc := 85) d138_85 rfl ?_
  refine z_geti (pc := 86) d138_86 fk9_298 shL280 rfl h (fun v16 h => ?_)
  refine x_iload_n (pc := 89) d138_89 rfl ?_
  refine z_iast (pc := 90) d138_90 shL300 (by decide) h (fun s17 h => ?_)
  refine x_aload_n (pc := 91) d138_91 rfl ?_
  refine y_getr (pc := 92) d138_92 fk9_77 shL280 rfl ?_
  refine x_aload_n (pc := 95) d138_95 rfl ?_
  refine z_geti (pc := 96) d138_96 fk9_298 shL280 rfl h (fun v18 h => ?_)
  refine x_iload_n (pc := 99) d138_99 rfl ?_
  refine z_iast (pc := 100) d138_100 shL301 (by decide) h (fun s19 h => ?_)
  refine x_aload_n (pc := 101) d138_101 rfl ?_
  refine y_getr (pc := 102) d138_102 fk9_80 shL280 rfl ?_
  refine x_aload_n (pc := 105) d138_105 rfl ?_
  refine z_geti (pc := 106) d138_106 fk9_298 shL280 rfl h (fun v20 h => ?_)
  refine x_iconst (pc := 109) (v := (-1)) d138_109 (by decide) ?_
  refine z_iast (pc := 110) d138_110 shL302 (by decide) h (fun s21 h => ?_)
  refine x_aload_n (pc := 111) d138_111 rfl ?_
  refine y_getr (pc := 112) d138_112 fk9_45 shL280 rfl ?_
  refine x_iconst (pc := 115) (v := (3)) d138_115 (by decide) ?_
  refine x_iload_n (pc := 116) d138_116 rfl ?_
  refine x_imul (pc := 117) d138_117 ?_
  refine x_iload_n (pc := 118) d138_118 rfl ?_
  refine x_iadd (pc := 119) d138_119 ?_
  refine x_iconst (pc := 120) (v := (1)) d138_120 (by decide) ?_
  refine z_zast (pc := 121) d138_121 shL291 (by decide) h (fun s22 h => ?_)
  refine x_aload_n (pc := 122) d138_122 rfl ?_
  refine z_cV0v (pc := 123) d138_123 ml9_262 mv128 shL280 (t_r_next  s22) (by decide) (Nat.le_of_ble_eq_true rfl) ⟨Nat.zero_le _, Nat.zero_le _⟩ h (fun s23 h => ?_)
  exact z_vret (pc := 126) d138_126 rfl h
def r_openBody (a0 : Int32) (a1 : Int32) (s : St) : Option (St) := bnd (s.1 208 0 0) fun v1 => if v1 = 0 then (cal2 (r_isSign (123 : Int32) s) fun v5 s4 => if v5 = 0 then (r_openBody_25 s4) else (bnd (s4.1 236 0 0) fun v6 => if v6 = (8 : Int32) then (r_openBody_25 s4) else (bnd (s4.1 236 0 0) fun v7 => bnd (si s4 236 0 0 (v7 + (1 : Int32))) fun s8 => bnd (s8.1 227 0 0) fun v9 => bnd (s8.1 236 0 0) fun v10 => bnd (s8.1 227 0 0) fun v11 => grd (ib v11 12) (s8.1 213 0 v11.toNatClampNeg) fun v12 => if v10 ≤ v12 then (bnd (s8.1 227 0 0) fun v13 => grd (ib v13 12) (s8.1 213 0 v13.toNatClampNeg) fun v14 => r_openBody_80 a0 a1 v14 v9 s8) else (bnd (s8.1 236 0 0) fun v25 => r_openBody_80 a0 a1 v25 v9 s8)))) else (r_openBody_25 s)
set_option maxRecDepth 100000 in
theorem t_r_openBody (a0 : Int32) (a1 : Int32) (s : St) (r : St) (h : r_openBody a0 a1 s = some r) : Rv 2 138 [.ref 280, .int a0, .int a1] s (fun s1 => s1 = r) := by
  refine ct_of (by decide +kernel) (Nat.le_of_ble_eq_true rfl) ?_
  show Wp _ _ _ _ _ _ [(0, .ref 280), (1, .int a0), (2, .int a1)] _ _ _
  unfold r_openBody at h
  refine x_aload_n (pc := 0) d138_0 rfl ?_
  refine z_geti (pc := 1) d138_1 fk9_252 shL280 rfl h (fun v1 h => ?_)
  refine z_if_ne (pc := 4) (tgt := 25) d138_4 (by decide) h (fun h => ?_) (fun h => ?_)
  · skip
    refine wp_lv (lv' := [(0, .ref 280)]) ⟨rfl, trivial⟩ ?_
    exact t_r_openBody_25 s h
  · skip
    refine x_aload_n (pc := 7) d138_7 rfl ?_
    refine x_bipush (pc := 8) (v := (123)) d138_8 (by decide) ?_
    refine z_cV1i (pc := 10) d138_10 ml9_256 mv134 shL280 (t_r_isSign (123 : Int32) s) (by decide) (Nat.le_of_ble_eq_true rfl) ⟨Nat.zero_le _, Nat.zero_le _⟩ h (fun v5 s4 h => ?_)
    refine z_if_eq (pc := 13) (tgt := 25) d138_13 (by decide) h (fun h => ?_) (fun h => ?_)
    · skip
      refine wp_lv (lv' := [(0, .ref 280)]) ⟨rfl, trivial⟩ ?_
      exact t_r_openBody_25 s4 h
    · skip
      refine x_aload_n (pc := 16) d138_16 rfl ?_
      refine z_geti (pc := 17) d138_17 fk9_298 shL280 rfl h (fun v6 h => ?_)
      refine x_bipush (pc := 20) (v := (8)) d138_20 (by decide) ?_
      refine z_icmp_ne (pc := 22) (tgt := 30) d138_22 (by decide) h (fun h => ?_) (fun h => ?_)
      · skip
        refine x_aload_n (pc := 30) d138_30 rfl ?_
        refine x_dup (pc := 31) d138_31 rfl ?_
        refine z_geti (pc := 32) d138_32 fk9_298 shL280 rfl h (fun v7 h => ?_)
        refine x_iconst (pc := 35) (v := (1)) d138_35 (by decide) ?_
        refine x_iadd (pc := 36) d138_36 ?_
        refine z_puti (pc := 37) d138_37 fk9_298 shL280 rfl rfl ⟨rfl, rfl⟩ h (fun s8 h => ?_)
        refine x_aload_n (pc := 40) d138_40 rfl ?_
        refine y_getr (pc := 41) d138_41 fk9_24 shL280 rfl ?_
        refine x_aload_n (pc := 44) d138_44 rfl ?_
        refine z_geti (pc := 45) d138_45 fk9_265 shL280 rfl h (fun v9 h => ?_)
        refine x_aload_n (pc := 48) d138_48 rfl ?_
        refine z_geti (pc := 49) d138_49 fk9_298 shL280 rfl h (fun v10 h => ?_)
        refine x_aload_n (pc := 52) d138_52 rfl ?_
        refine y_getr (pc := 53) d138_53 fk9_24 shL280 rfl ?_
        refine x_aload_n (pc := 56) d138_56 rfl ?_
        refine z_geti (pc := 57) d138_57 fk9_265 shL280 rfl h (fun v11 h => ?_)
        refine z_iald (pc := 60) d138_60 shL284 (by decide) h (fun v12 h => ?_)
        refine z_icmp_le (pc := 61) (tgt := 71) d138_61 (by decide) h (fun h => ?_) (fun h => ?_)
        · skip
          refine x_aload_n (pc := 71) d138_71 rfl ?_
          refine y_getr (pc := 72) d138_72 fk9_24 shL280 rfl ?_
          refine x_aload_n (pc := 75) d138_75 rfl ?_
          refine z_geti (pc := 76) d138_76 fk9_265 shL280 rfl h (fun v13 h => ?_)
          refine z_iald (pc := 79) d138_79 shL284 (by decide) h (fun v14 h => ?_)
          refine wp_lv (lv' := [(0, .ref 280), (1, .int a0), (2, .int a1)]) ⟨rfl, rfl, rfl, trivial⟩ ?_
          exact t_r_openBody_80 a0 a1 v14 v9 s8 h
        · skip
          refine x_aload_n (pc := 64) d138_64 rfl ?_
          refine z_geti (pc := 65) d138_65 fk9_298 shL280 rfl h (fun v25 h => ?_)
          refine x_goto (pc := 68) (tgt := 80) d138_68 (by decide) ?_
          refine wp_lv (lv' := [(0, .ref 280), (1, .int a0), (2, .int a1)]) ⟨rfl, rfl, rfl, trivial⟩ ?_
          exact t_r_openBody_80 a0 a1 v25 v9 s8 h
      · skip
        refine wp_lv (lv' := [(0, .ref 280)]) ⟨rfl, trivial⟩ ?_
        exact t_r_openBody_25 s4 h
def r_takeLocal_11 (s : St) : Option (St) := bnd (s.1 208 0 0) fun v3 => if v3 = 0 then (cal (r_next  s) fun s4 => some s4) else (some s)
set_option maxRecDepth 100000 in
theorem t_r_takeLocal_11 {r : St} : ∀ (s : St), r_takeLocal_11 s = some r → Wp (rmd 2 0 0) 139 (zv (fun s1 => s1 = r)) 0 0 11 [(0, .ref 280)] [] (mk s) TT := by
  intro s h
  unfold r_takeLocal_11 at h
  refine x_aload_n (pc := 11) d139_11 rfl ?_
  refine z_geti (pc := 12) d139_12 fk9_252 shL280 rfl h (fun v3 h => ?_)
  refine z_if_ne (pc := 15) (tgt := 22) d139_15 (by decide) h (fun h => ?_) (fun h => ?_)
  · skip
    exact z_vret (pc := 22) d139_22 rfl h
  · skip
    refine x_aload_n (pc := 18) d139_18 rfl ?_
    refine z_cV0v (pc := 19) d139_19 ml9_262 mv128 shL280 (t_r_next  s) (by decide) (Nat.le_of_ble_eq_true rfl) ⟨Nat.zero_le _, Nat.zero_le _⟩ h (fun s4 h => ?_)
    exact z_vret (pc := 22) d139_22 rfl h
def r_takeLocal (s : St) : Option (St) := cal2 (r_isLocal  s) fun v2 s1 => if v2 = 0 then (cal (r_misplaced  s1) fun s6 => r_takeLocal_11 s6) else (r_takeLocal_11 s1)
set_option maxRecDepth 100000 in
theorem t_r_takeLocal (s : St) (r : St) (h : r_takeLocal s = some r) : Rv 2 139 [.ref 280] s (fun s1 => s1 = r) := by
  refine ct_of (by decide +kernel) (Nat.le_of_ble_eq_true rfl) ?_
  show Wp _ _ _ _ _ _ [(0, .ref 280)] _ _ _
  unfold r_takeLocal at h
  refine x_aload_n (pc := 0) d139_0 rfl ?_
  refine z_cV0i (pc := 1) d139_1 ml9_295 mv140 shL280 (t_r_isLocal  s) (by decide) (Nat.le_of_ble_eq_true rfl) ⟨Nat.zero_le _, Nat.zero_le _⟩ h (fun v2 s1 h => ?_)
  refine z_if_ne (pc := 4) (tgt := 11) d139_4 (by decide) h (fun h => ?_) (fun h => ?_)
  · skip
    refine wp_lv (lv' := [(0, .ref 280)]) ⟨rfl, trivial⟩ ?_
    exact t_r_takeLocal_11 s1 h
  · skip
    refine x_aload_n (pc := 7) d139_7 rfl ?_
    refine z_cV0v (pc := 8) d139_8 ml9_259 mv135 shL280 (t_r_misplaced  s1) (by decide) (Nat.le_of_ble_eq_true rfl) ⟨Nat.zero_le _, Nat.zero_le _⟩ h (fun s6 h => ?_)
    refine wp_lv (lv' := [(0, .ref 280)]) ⟨rfl, trivial⟩ ?_
    exact t_r_takeLocal_11 s6 h
def r_closeBody_128 (x1 : Int32) (x2 : Int32) (s : St) : Option (St) := if x2 = 0 then (bnd (s.1 203 0 0) fun v10 => if v10 = (12 : Int32) then (cal (r_next  s) fun s11 => cal (r_openBody x1 (1 : Int32) s11) fun s13 => some s13) else (some s)) else (some s)
set_option maxRecDepth 100000 in
theorem t_r_closeBody_128 {r : St} : ∀ (x1 : Int32) (x2 : Int32) (s : St), r_closeBody_128 x1 x2 s = some r → Wp (rmd 3 0 0) 136 (zv (fun s1 => s1 = r)) 0 0 128 [(0, .ref 280), (1, .int x1), (2, .int x2)] [] (mk s) TT := by
  intro x1 x2 s h
  unfold r_closeBody_128 at h
  refine x_iload_n (pc := 128) d136_128 rfl ?_
  refine z_if_ne (pc := 129) (tgt := 151) d136_129 (by decide) h (fun h => ?_) (fun h => ?_)
  · skip
    exact z_vret (pc := 151) d136_151 rfl h
  · skip
    refine x_aload_n (pc := 132) d136_132 rfl ?_
    refine z_geti (pc := 133) d136_133 fk9_221 shL280 rfl h (fun v10 h => ?_)
    refine x_bipush (pc := 136) (v := (12)) d136_136 (by decide) ?_
    refine z_icmp_ne (pc := 138) (tgt := 151) d136_138 (by decide) h (fun h => ?_) (fun h => ?_)
    · skip
      exact z_vret (pc := 151) d136_151 rfl h
    · skip
      refine x_aload_n (pc := 141) d136_141 rfl ?_
      refine z_cV0v (pc := 142) d136_142 ml9_262 mv128 shL280 (t_r_next  s) (by decide) (Nat.le_of_ble_eq_true rfl) ⟨Nat.zero_le _, Nat.zero_le _⟩ h (fun s11 h => ?_)
      refine x_aload_n (pc := 145) d136_145 rfl ?_
      refine x_iload_n (pc := 146) d136_146 rfl ?_
      refine x_iconst (pc := 147) (v := (1)) d136_147 (by decide) ?_
      refine z_cV2v (pc := 148) d136_148 ml9_310 mv138 shL280 (t_r_openBody x1 (1 : Int32) s11) (by decide) (Nat.le_of_ble_eq_true rfl) ⟨Nat.zero_le _, Nat.zero_le _⟩ h (fun s13 h => ?_)
      exact z_vret (pc := 151) d136_151 rfl h
def r_closeBody_117 (x1 : Int32) (x2 : Int32) (x3 : Int32) (s : St) : Option (St) := if x3 = (1 : Int32) then (r_closeBody_128 x1 x2 s) else (if x3 = (18 : Int32) then (r_closeBody_128 x1 x2 s) else (some s))
set_option maxRecDepth 100000 in
theorem t_r_closeBody_117 {r : St} : ∀ (x1 : Int32) (x2 : Int32) (x3 : Int32) (s : St), r_closeBody_117 x1 x2 x3 s = some r → Wp (rmd 3 0 0) 136 (zv (fun s1 => s1 = r)) 0 0 117 [(0, .ref 280), (1, .int x1), (2, .int x2), (3, .int x3)] [] (mk s) TT := by
  intro x1 x2 x3 s h
  unfold r_closeBody_117 at h
  refine x_iload_n (pc := 117) d136_117 rfl ?_
  refine x_iconst (pc := 118) (v := (1)) d136_118 (by decide) ?_
  refine z_icmp_eq (pc := 119) (tgt := 128) d136_119 (by decide) h (fun h => ?_) (fun h => ?_)
  · skip
    refine wp_lv (lv' := [(0, .ref 280), (1, .int x1), (2, .int x2)]) ⟨rfl, rfl, rfl, trivial⟩ ?_
    exact t_r_closeBody_128 x1 x2 s h
  · skip
    refine x_iload_n (pc := 122) d136_122 rfl ?_
    refine x_bipush (pc := 123) (v := (18)) d136_123 (by decide) ?_
    refine z_icmp_ne (pc := 125) (tgt := 151) d136_125 (by decide) h (fun h => ?_) (fun h => ?_)
    · skip
      exact z_vret (pc := 151) d136_151 rfl h
    · skip
      refine wp_lv (lv' := [(0, .ref 280), (1, .int x1), (2, .int x2)]) ⟨rfl, rfl, rfl, trivial⟩ ?_
      exact t_r_closeBody_128 x1 x2 s h
def r_closeBody_78 (x1 : Int32) (x2 : Int32) (x3 : Int32) (s : St) : Option (St) := if x3 = (13 : Int32) then (if x2 = 0 then (cal (r_takeWord (14 : Int32) s) fun s15 => bnd (s15.1 205 0 0) fun v17 => grd (ib x1 480) (si s15 221 0 x1.toNatClampNeg v17) fun s18 => cal (r_takeLocal  s18) fun s19 => cal (r_openBody x1 (1 : Int32) s19) fun s21 => some s21) else (r_closeBody_117 x1 x2 x3 s)) else (r_closeBody_117 x1 x2 x3 s)
set_option maxRecDepth 100000 in
theorem t_r_closeBody_78 {r : St} : ∀ (x1 : Int32) (x2 : Int32) (x3 : Int32) (s : St), r_closeBody_78 x1 x2 x3 s = some r → Wp (rmd 3 0 0) 136 (zv (fun s1 => s1 = r)) 0 0 78 [(0, .ref 280), (1, .int x1), (2, .int x2), (3, .int x3)] [] (mk s) TT := by
  intro x1 x2 x3 s h
  unfold r_closeBody_78 at h
  refine x_iload_n (pc := 78) d136_78 rfl ?_
  refine x_bipush (pc := 79) (v := (13)) d136_79 (by decide) ?_
  refine z_icmp_ne (pc := 81) (tgt := 117) d136_81 (by decide) h (fun h => ?_) (fun h => ?_)
  · skip
    refine wp_lv (lv' := [(0, .ref 280), (1, .int x1), (2, .int x2), (3, .int x3)]) ⟨rfl, rfl, rfl, rfl, trivial⟩ ?_
    exact t_r_closeBody_117 x1 x2 x3 s h
  · skip
    refine x_iload_n (pc := 84) d136_84 rfl ?_
    refine z_if_ne (pc := 85) (tgt := 117) d136_85 (by decide) h (fun h => ?_) (fun h => ?_)
    · skip
      refine wp_lv (lv' := [(0, .ref 280), (1, .int x1), (2, .int x2), (3, .int x3)]) ⟨rfl, rfl, rfl, rfl, trivial⟩ ?_
      exact t_r_closeBody_117 x1 x2 x3 s h
    · skip
      refine x_aload_n (pc := 88) d136_88 rfl ?_
      refine x_bipush (pc := 89) (v := (14)) d136_89 (by decide) ?_
      refine z_cV1v (pc := 91) d136_91 ml9_307 mv137 shL280 (t_r_takeWord (14 : Int32) s) (by decide) (Nat.le_of_ble_eq_true rfl) ⟨Nat.zero_le _, Nat.zero_le _⟩ h (fun s15 h => ?_)
      refine x_aload_n (pc := 94) d136_94 rfl ?_
      refine y_getr (pc := 95) d136_95 fk9_49 shL280 rfl ?_
      refine x_iload_n (pc := 98) d136_98 rfl ?_
      refine x_aload_n (pc := 99) d136_99 rfl ?_
      refine z_geti (pc := 100) d136_100 fk9_228 shL280 rfl h (fun v17 h => ?_)
      refine z_iast (pc := 103) d136_103 shL292 (by decide) h (fun s18 h => ?_)
      refine x_aload_n (pc := 104) d136_104 rfl ?_
      refine z_cV0v (pc := 105) d136_105 ml9_314 mv139 shL280 (t_r_takeLocal  s18) (by decide) (Nat.le_of_ble_eq_true rfl) ⟨Nat.zero_le _, Nat.zero_le _⟩ h (fun s19 h => ?_)
      refine x_aload_n (pc := 108) d136_108 rfl ?_
      refine x_iload_n (pc := 109) d136_109 rfl ?_
      refine x_iconst (pc := 110) (v := (1)) d136_110 (by decide) ?_
      refine z_cV2v (pc := 111) d136_111 ml9_310 mv138 shL280 (t_r_openBody x1 (1 : Int32) s19) (by decide) (Nat.le_of_ble_eq_true rfl) ⟨Nat.zero_le _, Nat.zero_le _⟩ h (fun s21 h => ?_)
      refine x_goto (pc := 114) (tgt := 151) d136_114 (by decide) ?_
      exact z_vret (pc := 151) d136_151 rfl h
def r_closeBody_64 (x1 : Int32) (x2 : Int32) (y0 : Int32) (s : St) : Option (St) := cal (r_takeWord y0 s) fun s23 => cal (r_openBody x1 (x2 + (1 : Int32)) s23) fun s25 => some s25
set_option maxRecDepth 100000 in
theorem t_r_closeBody_64 {r : St} : ∀ (x1 : Int32) (x2 : Int32) (y0 : Int32) (s : St), r_closeBody_64 x1 x2 y0 s = some r → Wp (rmd 3 0 0) 136 (zv (fun s1 => s1 = r)) 0 0 64 [(0, .ref 280), (1, .int x1), (2, .int x2)] [.int y0, .ref 280] (mk s) TT := by
  intro x1 x2 y0 s h
  unfold r_closeBody_64 at h
  refine z_cV1v (pc := 64) d136_64 ml9_307 mv137 shL280 (t_r_takeWord y0 s) (by decide) (Nat.le_of_ble_eq_true rfl) ⟨Nat.zero_le _, Nat.zero_le _⟩ h (fun s23 h => ?_)
  refine x_aload_n (pc := 67) d136_67 rfl ?_
  refine x_iload_n (pc := 68) d136_68 rfl ?_
  refine x_iload_n (pc := 69) d136_69 rfl ?_
  refine x_iconst (pc := 70) (v := (1)) d136_70 (by decide) ?_
  refine x_iadd (pc := 71) d136_71 ?_
  refine z_cV2v (pc := 72) d136_72 ml9_310 mv138 shL280 (t_r_openBody x1 (x2 + (1 : Int32)) s23) (by decide) (Nat.le_of_ble_eq_true rfl) ⟨Nat.zero_le _, Nat.zero_le _⟩ h (fun s25 h => ?_)
  refine x_goto (pc := 75) (tgt := 151) d136_75 (by decide) ?_
  exact z_vret (pc := 151) d136_151 rfl h
def r_closeBody (s : St) : Option (St) := bnd (s.1 236 0 0) fun v1 => grd (ib v1 10) (s.1 233 0 v1.toNatClampNeg) fun v2 => bnd (s.1 236 0 0) fun v3 => grd (ib v3 10) (s.1 234 0 v3.toNatClampNeg) fun v4 => grd (ib v2 480) (s.1 216 0 v2.toNatClampNeg) fun v5 => bnd (s.1 236 0 0) fun v6 => bnd (si s 236 0 0 (v6 - (1 : Int32))) fun s7 => cal (r_next  s7) fun s8 => if v5 = (15 : Int32) then (if (2 : Int32) ≤ v4 then (r_closeBody_78 v2 v4 v5 s8) else (if v4 = 0 then (r_closeBody_64 v2 v4 (16 : Int32) s8) else (r_closeBody_64 v2 v4 (17 : Int32) s8))) else (r_closeBody_78 v2 v4 v5 s8)
set_option maxRecDepth 100000 in
theorem t_r_closeBody (s : St) (r : St) (h : r_closeBody s = some r) : Rv 3 136 [.ref 280] s (fun s1 => s1 = r) := by
  refine ct_of (by decide +kernel) (Nat.le_of_ble_eq_true rfl) ?_
  show Wp _ _ _ _ _ _ [(0, .ref 280)] _ _ _
  unfold r_closeBody at h
  refine x_aload_n (pc := 0) d136_0 rfl ?_
  refine y_getr (pc := 1) d136_1 fk9_74 shL280 rfl ?_
  refine x_aload_n (pc := 4) d136_4 rfl ?_
  refine z_geti (pc := 5) d136_5 fk9_298 shL280 rfl h (fun v1 h => ?_)
  refine z_iald (pc := 8) d136_8 shL300 (by decide) h (fun v2 h => ?_)
  refine x_istore_n (pc := 9) d136_9 (by decide) ?_
  refine x_aload_n (pc := 10) d136_10 rfl ?_
  refine y_getr (pc := 11) d136_11 fk9_77 shL280 rfl ?_
  refine x_aload_n (pc := 14) d136_14 rfl ?_
  refine z_geti (pc := 15) d136_15 fk9_298 shL280 rfl h (fun v3 h => ?_)
  refine z_iald (pc := 18) d136_18 shL301 (by decide) h (fun v4 h => ?_)
  refine x_istore_n (pc := 19) d136_19 (by decide) ?_
  refine x_aload_n (pc := 20) d136_20 rfl ?_
  refine y_getr (pc := 21) d136_21 fk9_33 shL280 rfl ?_
  refine x_iload_n (pc := 24) d136_24 rfl ?_
  refine z_iald (pc := 25) d136_25 shL287 (by decide) h (fun v5 h => ?_)
  refine x_istore_n (pc := 26) d136_26 (by decide) ?_
  refine x_aload_n (pc := 27) d136_27 rfl ?_
  refine x_dup (pc := 28) d136_28 rfl ?_
  refine z_geti (pc := 29) d136_29 fk9_298 shL280 rfl h (fun v6 h => ?_)
  refine x_iconst (pc := 32) (v := (1)) d136_32 (by decide) ?_
  refine x_isub (pc := 33) d136_33 ?_
  refine z_puti (pc := 34) d136_34 fk9_298 shL280 rfl rfl ⟨rfl, rfl⟩ h (fun s7 h => ?_)
  refine x_aload_n (pc := 37) d136_37 rfl ?_
  refine z_cV0v (pc := 38) d136_38 ml9_262 mv128 shL280 (t_r_next  s7) (by decide) (Nat.le_of_ble_eq_true rfl) ⟨Nat.zero_le _, Nat.zero_le _⟩ h (fun s8 h => ?_)
  refine x_iload_n (pc := 41) d136_41 rfl ?_
  refine x_bipush (pc := 42) (v := (15)) d136_42 (by decide) ?_
  refine z_icmp_ne (pc := 44) (tgt := 78) d136_44 (by decide) h (fun h => ?_) (fun h => ?_)
  · skip
    refine wp_lv (lv' := [(0, .ref 280), (1, .int v2), (2, .int v4), (3, .int v5)]) ⟨rfl, rfl, rfl, rfl, trivial⟩ ?_
    exact t_r_closeBody_78 v2 v4 v5 s8 h
  · skip
    refine x_iload_n (pc := 47) d136_47 rfl ?_
    refine x_iconst (pc := 48) (v := (2)) d136_48 (by decide) ?_
    refine z_icmp_ge (pc := 49) (tgt := 78) d136_49 (by decide) h (fun h => ?_) (fun h => ?_)
    · skip
      refine wp_lv (lv' := [(0, .ref 280), (1, .int v2), (2, .int v4), (3, .int v5)]) ⟨rfl, rfl, rfl, rfl, trivial⟩ ?_
      exact t_r_closeBody_78 v2 v4 v5 s8 h
    · skip
      refine x_aload_n (pc := 52) d136_52 rfl ?_
      refine x_iload_n (pc := 53) d136_53 rfl ?_
      refine z_if_ne (pc := 54) (tgt := 62) d136_54 (by decide) h (fun h => ?_) (fun h => ?_)
      · skip
        refine x_bipush (pc := 62) (v := (17)) d136_62 (by decide) ?_
        refine wp_lv (lv' := [(0, .ref 280), (1, .int v2), (2, .int v4)]) ⟨rfl, rfl, rfl, trivial⟩ ?_
        exact t_r_closeBody_64 v2 v4 (17 : Int32) s8 h
      · skip
        refine x_bipush (pc := 57) (v := (16)) d136_57 (by decide) ?_
        refine x_goto (pc := 59) (tgt := 64) d136_59 (by decide) ?_
        refine wp_lv (lv' := [(0, .ref 280), (1, .int v2), (2, .int v4)]) ⟨rfl, rfl, rfl, trivial⟩ ?_
        exact t_r_closeBody_64 v2 v4 (16 : Int32) s8 h
def r_takeBox_21 (x1 : Int32) (s : St) : Option (St) := bnd (s.1 205 0 0) fun v4 => grd (ib x1 480) (si s 222 0 x1.toNatClampNeg v4) fun s5 => bnd (s5.1 208 0 0) fun v6 => if v6 = 0 then (cal (r_next  s5) fun s7 => some s7) else (some s5)
set_option maxRecDepth 100000 in
theorem t_r_takeBox_21 {r : St} : ∀ (x1 : Int32) (s : St), r_takeBox_21 x1 s = some r → Wp (rmd 2 0 0) 152 (zv (fun s1 => s1 = r)) 0 0 21 [(0, .ref 280), (1, .int x1)] [] (mk s) TT := by
  intro x1 s h
  unfold r_takeBox_21 at h
  refine x_aload_n (pc := 21) d152_21 rfl ?_
  refine y_getr (pc := 22) d152_22 fk9_52 shL280 rfl ?_
  refine x_iload_n (pc := 25) d152_25 rfl ?_
  refine x_aload_n (pc := 26) d152_26 rfl ?_
  refine z_geti (pc := 27) d152_27 fk9_228 shL280 rfl h (fun v4 h => ?_)
  refine z_iast (pc := 30) d152_30 shL293 (by decide) h (fun s5 h => ?_)
  refine x_aload_n (pc := 31) d152_31 rfl ?_
  refine z_geti (pc := 32) d152_32 fk9_252 shL280 rfl h (fun v6 h => ?_)
  refine z_if_ne (pc := 35) (tgt := 42) d152_35 (by decide) h (fun h => ?_) (fun h => ?_)
  · skip
    exact z_vret (pc := 42) d152_42 rfl h
  · skip
    refine x_aload_n (pc := 38) d152_38 rfl ?_
    refine z_cV0v (pc := 39) d152_39 ml9_262 mv128 shL280 (t_r_next  s5) (by decide) (Nat.le_of_ble_eq_true rfl) ⟨Nat.zero_le _, Nat.zero_le _⟩ h (fun s7 h => ?_)
    exact z_vret (pc := 42) d152_42 rfl h
def r_takeBox_17 (x1 : Int32) (s : St) : Option (St) := cal (r_misplaced  s) fun s2 => r_takeBox_21 x1 s2
set_option maxRecDepth 100000 in
theorem t_r_takeBox_17 {r : St} : ∀ (x1 : Int32) (s : St), r_takeBox_17 x1 s = some r → Wp (rmd 2 0 0) 152 (zv (fun s1 => s1 = r)) 0 0 17 [(0, .ref 280), (1, .int x1)] [] (mk s) TT := by
  intro x1 s h
  unfold r_takeBox_17 at h
  refine x_aload_n (pc := 17) d152_17 rfl ?_
  refine z_cV0v (pc := 18) d152_18 ml9_259 mv135 shL280 (t_r_misplaced  s) (by decide) (Nat.le_of_ble_eq_true rfl) ⟨Nat.zero_le _, Nat.zero_le _⟩ h (fun s2 h => ?_)
  refine wp_lv (lv' := [(0, .ref 280), (1, .int x1)]) ⟨rfl, rfl, trivial⟩ ?_
  exact t_r_takeBox_21 x1 s2 h
def r_takeBox (a0 : Int32) (s : St) : Option (St) := bnd (s.1 203 0 0) fun v1 => if v1 = (2 : Int32) then (bnd (s.1 205 0 0) fun v9 => if v9 < (8 : Int32) then (r_takeBox_21 a0 s) else (r_takeBox_17 a0 s)) else (r_takeBox_17 a0 s)
set_option maxRecDepth 100000 in
theorem t_r_takeBox (a0 : Int32) (s : St) (r : St) (h : r_takeBox a0 s = some r) : Rv 2 152 [.ref 280, .int a0] s (fun s1 => s1 = r) := by
  refine ct_of (by decide +kernel) (Nat.le_of_ble_eq_true rfl) ?_
  show Wp _ _ _ _ _ _ [(0, .ref 280), (1, .int a0)] _ _ _
  unfold r_takeBox at h
  refine x_aload_n (pc := 0) d152_0 rfl ?_
  refine z_geti (pc := 1) d152_1 fk9_221 shL280 rfl h (fun v1 h => ?_)
  refine x_iconst (pc := 4) (v := (2)) d152_4 (by decide) ?_
  refine z_icmp_ne (pc := 5) (tgt := 17) d152_5 (by decide) h (fun h => ?_) (fun h => ?_)
  · skip
    refine wp_lv (lv' := [(0, .ref 280), (1, .int a0)]) ⟨rfl, rfl, trivial⟩ ?_
    exact t_r_takeBox_17 a0 s h
  · skip
    refine x_aload_n (pc := 8) d152_8 rfl ?_
    refine z_geti (pc := 9) d152_9 fk9_228 shL280 rfl h (fun v9 h => ?_)
    refine x_bipush (pc := 12) (v := (8)) d152_12 (by decide) ?_
    refine z_icmp_lt (pc := 14) (tgt := 21) d152_14 (by decide) h (fun h => ?_) (fun h => ?_)
    · skip
      refine wp_lv (lv' := [(0, .ref 280), (1, .int a0)]) ⟨rfl, rfl, trivial⟩ ?_
      exact t_r_takeBox_21 a0 s h
    · skip
      refine wp_lv (lv' := [(0, .ref 280), (1, .int a0)]) ⟨rfl, rfl, trivial⟩ ?_
      exact t_r_takeBox_17 a0 s h
def r_takeNumber_21 (x1 : Int32) (s : St) : Option (St) := bnd (s.1 208 0 0) fun v4 => if v4 = 0 then (bnd (s.2 206 0 0) fun v5 => grd (ib x1 480) (si s 223 0 x1.toNatClampNeg v5.toInt32) fun s6 => cal (r_next  s6) fun s7 => some s7) else (some s)
set_option maxRecDepth 100000 in
theorem t_r_takeNumber_21 {r : St} : ∀ (x1 : Int32) (s : St), r_takeNumber_21 x1 s = some r → Wp (rmd 2 0 0) 153 (zv (fun s1 => s1 = r)) 0 0 21 [(0, .ref 280), (1, .int x1)] [] (mk s) TT := by
  intro x1 s h
  unfold r_takeNumber_21 at h
  refine x_aload_n (pc := 21) d153_21 rfl ?_
  refine z_geti (pc := 22) d153_22 fk9_252 shL280 rfl h (fun v4 h => ?_)
  refine z_if_ne (pc := 25) (tgt := 43) d153_25 (by decide) h (fun h => ?_) (fun h => ?_)
  · skip
    exact z_vret (pc := 43) d153_43 rfl h
  · skip
    refine x_aload_n (pc := 28) d153_28 rfl ?_
    refine y_getr (pc := 29) d153_29 fk9_55 shL280 rfl ?_
    refine x_iload_n (pc := 32) d153_32 rfl ?_
    refine x_aload_n (pc := 33) d153_33 rfl ?_
    refine z_getl (pc := 34) d153_34 fk9_238 shL280 rfl h (fun v5 h => ?_)
    refine x_l2i (pc := 37) d153_37 ?_
    refine z_iast (pc := 38) d153_38 shL294 (by decide) h (fun s6 h => ?_)
    refine x_aload_n (pc := 39) d153_39 rfl ?_
    refine z_cV0v (pc := 40) d153_40 ml9_262 mv128 shL280 (t_r_next  s6) (by decide) (Nat.le_of_ble_eq_true rfl) ⟨Nat.zero_le _, Nat.zero_le _⟩ h (fun s7 h => ?_)
    exact z_vret (pc := 43) d153_43 rfl h
def r_takeNumber_17 (x1 : Int32) (s : St) : Option (St) := cal (r_misplaced  s) fun s2 => r_takeNumber_21 x1 s2
set_option maxRecDepth 100000 in
theorem t_r_takeNumber_17 {r : St} : ∀ (x1 : Int32) (s : St), r_takeNumber_17 x1 s = some r → Wp (rmd 2 0 0) 153 (zv (fun s1 => s1 = r)) 0 0 17 [(0, .ref 280), (1, .int x1)] [] (mk s) TT := by
  intro x1 s h
  unfold r_takeNumber_17 at h
  refine x_aload_n (pc := 17) d153_17 rfl ?_
  refine z_cV0v (pc := 18) d153_18 ml9_259 mv135 shL280 (t_r_misplaced  s) (by decide) (Nat.le_of_ble_eq_true rfl) ⟨Nat.zero_le _, Nat.zero_le _⟩ h (fun s2 h => ?_)
  refine wp_lv (lv' := [(0, .ref 280), (1, .int x1)]) ⟨rfl, rfl, trivial⟩ ?_
  exact t_r_takeNumber_21 x1 s2 h
def r_takeNumber (a0 : Int32) (a1 : Int64) (s : St) : Option (St) := bnd (s.1 203 0 0) fun v1 => if v1 = (3 : Int32) then (bnd (s.2 206 0 0) fun v9 => if a1 < v9 then (r_takeNumber_17 a0 s) else (r_takeNumber_21 a0 s)) else (r_takeNumber_17 a0 s)
set_option maxRecDepth 100000 in
theorem t_r_takeNumber (a0 : Int32) (a1 : Int64) (s : St) (r : St) (h : r_takeNumber a0 a1 s = some r) : Rv 2 153 [.ref 280, .int a0, .long a1] s (fun s1 => s1 = r) := by
  refine ct_of (by decide +kernel) (Nat.le_of_ble_eq_true rfl) ?_
  show Wp _ _ _ _ _ _ [(0, .ref 280), (1, .int a0), (2, .long a1)] _ _ _
  unfold r_takeNumber at h
  refine x_aload_n (pc := 0) d153_0 rfl ?_
  refine z_geti (pc := 1) d153_1 fk9_221 shL280 rfl h (fun v1 h => ?_)
  refine x_iconst (pc := 4) (v := (3)) d153_4 (by decide) ?_
  refine z_icmp_ne (pc := 5) (tgt := 17) d153_5 (by decide) h (fun h => ?_) (fun h => ?_)
  · skip
    refine wp_lv (lv' := [(0, .ref 280), (1, .int a0)]) ⟨rfl, rfl, trivial⟩ ?_
    exact t_r_takeNumber_17 a0 s h
  · skip
    refine x_aload_n (pc := 8) d153_8 rfl ?_
    refine z_getl (pc := 9) d153_9 fk9_238 shL280 rfl h (fun v9 h => ?_)
    refine x_lload_n (pc := 12) d153_12 rfl ?_
    refine z_lif_le (pc := 13) (tgt := 21) d153_13 d153_14 (by decide) h (fun h => ?_) (fun h => ?_)
    · skip
      refine wp_lv (lv' := [(0, .ref 280), (1, .int a0)]) ⟨rfl, rfl, trivial⟩ ?_
      exact t_r_takeNumber_21 a0 s h
    · skip
      refine wp_lv (lv' := [(0, .ref 280), (1, .int a0)]) ⟨rfl, rfl, trivial⟩ ?_
      exact t_r_takeNumber_17 a0 s h
def r_newStatement_157 (x1 : Int32) (s : St) : Option (Int32 × St) := bnd (s.1 236 0 0) fun v17 => grd (ib v17 10) (si s 235 0 v17.toNatClampNeg x1) fun s18 => some (x1, s18)
set_option maxRecDepth 100000 in
theorem t_r_newStatement_157 {r : Int32 × St} : ∀ (x1 : Int32) (s : St), r_newStatement_157 x1 s = some r → Wp (rmd 0 0 0) 143 (zi (fun v s1 => (v, s1) = r)) 0 0 157 [(0, .ref 280), (1, .int x1)] [] (mk s) TT := by
  intro x1 s h
  unfold r_newStatement_157 at h
  refine x_aload_n (pc := 157) d143_157 rfl ?_
  refine y_getr (pc := 158) d143_158 fk9_80 shL280 rfl ?_
  refine x_aload_n (pc := 161) d143_161 rfl ?_
  refine z_geti (pc := 162) d143_162 fk9_298 shL280 rfl h (fun v17 h => ?_)
  refine x_iload_n (pc := 165) d143_165 rfl ?_
  refine z_iast (pc := 166) d143_166 shL302 (by decide) h (fun s18 h => ?_)
  refine x_iload_n (pc := 167) d143_167 rfl ?_
  exact z_iret (pc := 168) d143_168 rfl h
def r_newStatement_54 : Nat → Int32 → Int32 → St → Option (Int32 × St)
  | 0, _, _, _ => none
  | n + 1, x1, x2, s => if (3 : Int32) ≤ x2 then (bnd (s.1 236 0 0) fun v10 => grd (ib v10 10) (s.1 235 0 v10.toNatClampNeg) fun v11 => bnd (s.1 236 0 0) fun v12 => grd (ib v12 10) (s.1 233 0 v12.toNatClampNeg) fun v13 => if v11 < 0 then (if 0 ≤ v13 then (bnd (s.1 236 0 0) fun v14 => grd (ib v14 10) (s.1 234 0 v14.toNatClampNeg) fun v15 => grd (ib (((3 : Int32) * v13) + v15) 1440) (si s 219 0 (((3 : Int32) * v13) + v15).toNatClampNeg x1) fun s16 => r_newStatement_157 x1 s16) else (bnd (s.1 227 0 0) fun v19 => grd (ib v19 12) (si s 214 0 v19.toNatClampNeg x1) fun s20 => r_newStatement_157 x1 s20)) else (grd (ib v11 480) (si s 217 0 v11.toNatClampNeg x1) fun s21 => r_newStatement_157 x1 s21)) else (grd (ib (((3 : Int32) * x1) + x2) 1440) (si s 219 0 (((3 : Int32) * x1) + x2).toNatClampNeg (-1 : Int32)) fun s22 => grd (ib (((3 : Int32) * x1) + x2) 1440 ∧ zo (0 : Int32)) (si s22 220 0 (((3 : Int32) * x1) + x2).toNatClampNeg (0 : Int32)) fun s23 => r_newStatement_54 n x1 (x2 + (1 : Int32)) s23)
set_option maxRecDepth 100000 in
theorem t_r_newStatement_54 {r : Int32 × St} : ∀ (n : Nat) (x1 : Int32) (x2 : Int32) (s : St), r_newStatement_54 n x1 x2 s = some r → Wp (rmd 0 0 0) 143 (zi (fun v s1 => (v, s1) = r)) 0 0 54 [(0, .ref 280), (1, .int x1), (2, .int x2)] [] (mk s) TT := by
  intro n
  induction n with
  | zero =>
    intro x1 x2 s h
    rw [r_newStatement_54.eq_1] at h
    cases h
  | succ n ih =>
    intro x1 x2 s h
    rw [r_newStatement_54.eq_2] at h
    refine x_iload_n (pc := 54) d143_54 rfl ?_
    refine x_iconst (pc := 55) (v := (3)) d143_55 (by decide) ?_
    refine z_icmp_ge (pc := 56) (tgt := 87) d143_56 (by decide) h (fun h => ?_) (fun h => ?_)
    · skip
      refine x_aload_n (pc := 87) d143_87 rfl ?_
      refine y_getr (pc := 88) d143_88 fk9_80 shL280 rfl ?_
      refine x_aload_n (pc := 91) d143_91 rfl ?_
      refine z_geti (pc := 92) d143_92 fk9_298 shL280 rfl h (fun v10 h => ?_)
      refine z_iald (pc := 95) d143_95 shL302 (by decide) h (fun v11 h => ?_)
      refine x_istore_n (pc := 96) d143_96 (by decide) ?_
      refine x_aload_n (pc := 97) d143_97 rfl ?_
      refine y_getr (pc := 98) d143_98 fk9_74 shL280 rfl ?_
      refine x_aload_n (pc := 101) d143_101 rfl ?_
      refine z_geti (pc := 102) d143_102 fk9_298 shL280 rfl h (fun v12 h => ?_)
      refine z_iald (pc := 105) d143_105 shL300 (by decide) h (fun v13 h => ?_)
      refine x_istore_n (pc := 106) d143_106 (by decide) ?_
      refine x_iload_n (pc := 107) d143_107 rfl ?_
      refine z_if_lt (pc := 108) (tgt := 121) d143_108 (by decide) h (fun h => ?_) (fun h => ?_)
      · skip
        refine x_iload_n (pc := 121) d143_121 rfl ?_
        refine z_if_ge (pc := 122) (tgt := 138) d143_122 (by decide) h (fun h => ?_) (fun h => ?_)
        · skip
          refine x_aload_n (pc := 138) d143_138 rfl ?_
          refine y_getr (pc := 139) d143_139 fk9_42 shL280 rfl ?_
          refine x_iconst (pc := 142) (v := (3)) d143_142 (by decide) ?_
          refine x_iload_n (pc := 143) d143_143 rfl ?_
          refine x_imul (pc := 144) d143_144 ?_
          refine x_aload_n (pc := 145) d143_145 rfl ?_
          refine y_getr (pc := 146) d143_146 fk9_77 shL280 rfl ?_
          refine x_aload_n (pc := 149) d143_149 rfl ?_
          refine z_geti (pc := 150) d143_150 fk9_298 shL280 rfl h (fun v14 h => ?_)
          refine z_iald (pc := 153) d143_153 shL301 (by decide) h (fun v15 h => ?_)
          refine x_iadd (pc := 154) d143_154 ?_
          refine x_iload_n (pc := 155) d143_155 rfl ?_
          refine z_iast (pc := 156) d143_156 shL290 (by decide) h (fun s16 h => ?_)
          refine wp_lv (lv' := [(0, .ref 280), (1, .int x1)]) ⟨rfl, rfl, trivial⟩ ?_
          exact t_r_newStatement_157 x1 s16 h
        · skip
          refine x_aload_n (pc := 125) d143_125 rfl ?_
          refine y_getr (pc := 126) d143_126 fk9_27 shL280 rfl ?_
          refine x_aload_n (pc := 129) d143_129 rfl ?_
          refine z_geti (pc := 130) d143_130 fk9_265 shL280 rfl h (fun v19 h => ?_)
          refine x_iload_n (pc := 133) d143_133 rfl ?_
          refine z_iast (pc := 134) d143_134 shL285 (by decide) h (fun s20 h => ?_)
          refine x_goto (pc := 135) (tgt := 157) d143_135 (by decide) ?_
          refine wp_lv (lv' := [(0, .ref 280), (1, .int x1)]) ⟨rfl, rfl, trivial⟩ ?_
          exact t_r_newStatement_157 x1 s20 h
      · skip
        refine x_aload_n (pc := 111) d143_111 rfl ?_
        refine y_getr (pc := 112) d143_112 fk9_36 shL280 rfl ?_
        refine x_iload_n (pc := 115) d143_115 rfl ?_
        refine x_iload_n (pc := 116) d143_116 rfl ?_
        refine z_iast (pc := 117) d143_117 shL288 (by decide) h (fun s21 h => ?_)
        refine x_goto (pc := 118) (tgt := 157) d143_118 (by decide) ?_
        refine wp_lv (lv' := [(0, .ref 280), (1, .int x1)]) ⟨rfl, rfl, trivial⟩ ?_
        exact t_r_newStatement_157 x1 s21 h
    · skip
      refine x_aload_n (pc := 59) d143_59 rfl ?_
      refine y_getr (pc := 60) d143_60 fk9_42 shL280 rfl ?_
      refine x_iconst (pc := 63) (v := (3)) d143_63 (by decide) ?_
      refine x_iload_n (pc := 64) d143_64 rfl ?_
      refine x_imul (pc := 65) d143_65 ?_
      refine x_iload_n (pc := 66) d143_66 rfl ?_
      refine x_iadd (pc := 67) d143_67 ?_
      refine x_iconst (pc := 68) (v := (-1)) d143_68 (by decide) ?_
      refine z_iast (pc := 69) d143_69 shL290 (by decide) h (fun s22 h => ?_)
      refine x_aload_n (pc := 70) d143_70 rfl ?_
      refine y_getr (pc := 71) d143_71 fk9_45 shL280 rfl ?_
      refine x_iconst (pc := 74) (v := (3)) d143_74 (by decide) ?_
      refine x_iload_n (pc := 75) d143_75 rfl ?_
      refine x_imul (pc := 76) d143_76 ?_
      refine x_iload_n (pc := 77) d143_77 rfl ?_
      refine x_iadd (pc := 78) d143_78 ?_
      refine x_iconst (pc := 79) (v := (0)) d143_79 (by decide) ?_
      refine z_zast (pc := 80) d143_80 shL291 (by decide) h (fun s23 h => ?_)
      refine y_inc (pc := 81) (c := (1)) d143_81 (by decide) (by decide) rfl ?_
      refine x_goto (pc := 84) (tgt := 54) d143_84 (by decide) ?_
      refine wp_lv (lv' := [(0, .ref 280), (1, .int x1), (2, .int (x2 + (1 : Int32)))]) ⟨rfl, rfl, rfl, trivial⟩ ?_
      exact ih x1 (x2 + (1 : Int32)) s23 h
def r_newStatement (s : St) : Option (Int32 × St) := bnd (s.1 227 0 0) fun v1 => bnd (s.1 227 0 0) fun v2 => grd (ib v2 12) (s.1 211 0 v2.toNatClampNeg) fun v3 => bnd (s.1 227 0 0) fun v4 => grd (ib v4 12) (s.1 211 0 v4.toNatClampNeg) fun v5 => grd (ib v4 12) (si s 211 0 v4.toNatClampNeg (v5 + (1 : Int32))) fun s6 => grd (ib (((40 : Int32) * v1) + v3) 480) (si s6 217 0 (((40 : Int32) * v1) + v3).toNatClampNeg (-1 : Int32)) fun s7 => grd (ib (((40 : Int32) * v1) + v3) 480) (si s7 218 0 (((40 : Int32) * v1) + v3).toNatClampNeg (-1 : Int32)) fun s8 => grd (ib (((40 : Int32) * v1) + v3) 480) (si s8 221 0 (((40 : Int32) * v1) + v3).toNatClampNeg (-1 : Int32)) fun s9 => r_newStatement_54 5 (((40 : Int32) * v1) + v3) (0 : Int32) s9
set_option maxRecDepth 100000 in
theorem t_r_newStatement (s : St) (r : Int32 × St) (h : r_newStatement s = some r) : Ri 0 143 [.ref 280] s (fun v s1 => (v, s1) = r) := by
  refine ct_of (by decide +kernel) (Nat.le_of_ble_eq_true rfl) ?_
  show Wp _ _ _ _ _ _ [(0, .ref 280)] _ _ _
  unfold r_newStatement at h
  refine x_bipush (pc := 0) (v := (40)) d143_0 (by decide) ?_
  refine x_aload_n (pc := 2) d143_2 rfl ?_
  refine z_geti (pc := 3) d143_3 fk9_265 shL280 rfl h (fun v1 h => ?_)
  refine x_imul (pc := 6) d143_6 ?_
  refine x_aload_n (pc := 7) d143_7 rfl ?_
  refine y_getr (pc := 8) d143_8 fk9_17 shL280 rfl ?_
  refine x_aload_n (pc := 11) d143_11 rfl ?_
  refine z_geti (pc := 12) d143_12 fk9_265 shL280 rfl h (fun v2 h => ?_)
  refine z_iald (pc := 15) d143_15 shL282 (by decide) h (fun v3 h => ?_)
  refine x_iadd (pc := 16) d143_16 ?_
  refine x_istore_n (pc := 17) d143_17 (by decide) ?_
  refine x_aload_n (pc := 18) d143_18 rfl ?_
  refine y_getr (pc := 19) d143_19 fk9_17 shL280 rfl ?_
  refine x_aload_n (pc := 22) d143_22 rfl ?_
  refine z_geti (pc := 23) d143_23 fk9_265 shL280 rfl h (fun v4 h => ?_)
  refine x_dup2 (pc := 26) d143_26 rfl rfl ?_
  refine z_iald (pc := 27) d143_27 shL282 (by decide) h (fun v5 h => ?_)
  refine x_iconst (pc := 28) (v := (1)) d143_28 (by decide) ?_
  refine x_iadd (pc := 29) d143_29 ?_
  refine z_iast (pc := 30) d143_30 shL282 (by decide) h (fun s6 h => ?_)
  refine x_aload_n (pc := 31) d143_31 rfl ?_
  refine y_getr (pc := 32) d143_32 fk9_36 shL280 rfl ?_
  refine x_iload_n (pc := 35) d143_35 rfl ?_
  refine x_iconst (pc := 36) (v := (-1)) d143_36 (by decide) ?_
  refine z_iast (pc := 37) d143_37 shL288 (by decide) h (fun s7 h => ?_)
  refine x_aload_n (pc := 38) d143_38 rfl ?_
  refine y_getr (pc := 39) d143_39 fk9_39 shL280 rfl ?_
  refine x_iload_n (pc := 42) d143_42 rfl ?_
  refine x_iconst (pc := 43) (v := (-1)) d143_43 (by decide) ?_
  refine z_iast (pc := 44) d143_44 shL289 (by decide) h (fun s8 h => ?_)
  refine x_aload_n (pc := 45) d143_45 rfl ?_
  refine y_getr (pc := 46) d143_46 fk9_49 shL280 rfl ?_
  refine x_iload_n (pc := 49) d143_49 rfl ?_
  refine x_iconst (pc := 50) (v := (-1)) d143_50 (by decide) ?_
  refine z_iast (pc := 51) d143_51 shL292 (by decide) h (fun s9 h => ?_)
  refine x_iconst (pc := 52) (v := (0)) d143_52 (by decide) ?_
  refine x_istore_n (pc := 53) d143_53 (by decide) ?_
  refine wp_lv (lv' := [(0, .ref 280), (1, .int (((40 : Int32) * v1) + v3)), (2, .int (0 : Int32))]) ⟨rfl, rfl, rfl, trivial⟩ ?_
  exact t_r_newStatement_54 5 (((40 : Int32) * v1) + v3) (0 : Int32) s9 h
def r_begins_73 (s : St) : Option (Int32 × St) := some ((1 : Int32), s)
set_option maxRecDepth 100000 in
theorem t_r_begins_73 {r : Int32 × St} : ∀ (s : St), r_begins_73 s = some r → Wp (rmd 0 0 0) 142 (zi (fun v s1 => (v, s1) = r)) 0 0 73 [] [] (mk s) TT := by
  intro s h
  unfold r_begins_73 at h
  refine x_iconst (pc := 73) (v := (1)) d142_73 (by decide) ?_
  refine x_goto (pc := 74) (tgt := 78) d142_74 (by decide) ?_
  exact z_zretc (pc := 78) d142_78 rfl (Or.inr rfl) h
def r_begins (a0 : Int32) (s : St) : Option (Int32 × St) := if a0 = 0 then (r_begins_73 s) else (if a0 = (1 : Int32) then (r_begins_73 s) else (if a0 = (3 : Int32) then (r_begins_73 s) else (if a0 = (4 : Int32) then (r_begins_73 s) else (if a0 = (6 : Int32) then (r_begins_73 s) else (if a0 = (8 : Int32) then (r_begins_73 s) else (if a0 = (9 : Int32) then (r_begins_73 s) else (if a0 = (10 : Int32) then (r_begins_73 s) else (if a0 = (11 : Int32) then (r_begins_73 s) else (if a0 = (12 : Int32) then (r_begins_73 s) else (if a0 = (13 : Int32) then (r_begins_73 s) else (if a0 = (15 : Int32) then (r_begins_73 s) else (if a0 = (18 : Int32) then (r_begins_73 s) else (some ((0 : Int32), s))))))))))))))
set_option maxRecDepth 100000 in
theorem t_r_begins (a0 : Int32) (s : St) (r : Int32 × St) (h : r_begins a0 s = some r) : Ri 0 142 [.int a0] s (fun v s1 => (v, s1) = r) := by
  refine ct_of (by decide +kernel) (Nat.le_of_ble_eq_true rfl) ?_
  show Wp _ _ _ _ _ _ [(0, .int a0)] _ _ _
  unfold r_begins at h
  refine x_iload_n (pc := 0) d142_0 rfl ?_
  refine z_if_eq (pc := 1) (tgt := 73) d142_1 (by decide) h (fun h => ?_) (fun h => ?_)
  · skip
    refine wp_lv (lv' := []) trivial ?_
    exact t_r_begins_73 s h
  · skip
    refine x_iload_n (pc := 4) d142_4 rfl ?_
    refine x_iconst (pc := 5) (v := (1)) d142_5 (by decide) ?_
    refine z_icmp_eq (pc := 6) (tgt := 73) d142_6 (by decide) h (fun h => ?_) (fun h => ?_)
    · skip
      refine wp_lv (lv' := []) trivial ?_
      exact t_r_begins_73 s h
    · skip
      refine x_iload_n (pc := 9) d142_9 rfl ?_
      refine x_iconst (pc := 10) (v := (3)) d142_10 (by decide) ?_
      refine z_icmp_eq (pc := 11) (tgt := 73) d142_11 (by decide) h (fun h => ?_) (fun h => ?_)
      · skip
        refine wp_lv (lv' := []) trivial ?_
        exact t_r_begins_73 s h
      · skip
        refine x_iload_n (pc := 14) d142_14 rfl ?_
        refine x_iconst (pc := 15) (v := (4)) d142_15 (by decide) ?_
        refine z_icmp_eq (pc := 16) (tgt := 73) d142_16 (by decide) h (fun h => ?_) (fun h => ?_)
        · skip
          refine wp_lv (lv' := []) trivial ?_
          exact t_r_begins_73 s h
        · skip
          refine x_iload_n (pc := 19) d142_19 rfl ?_
          refine x_bipush (pc := 20) (v := (6)) d142_20 (by decide) ?_
          refine z_icmp_eq (pc := 22) (tgt := 73) d142_22 (by decide) h (fun h => ?_) (fun h => ?_)
          · skip
            refine wp_lv (lv' := []) trivial ?_
            exact t_r_begins_73 s h
          · skip
            refine x_iload_n (pc := 25) d142_25 rfl ?_
            refine x_bipush (pc := 26) (v := (8)) d142_26 (by decide) ?_
            refine z_icmp_eq (pc := 28) (tgt := 73) d142_28 (by decide) h (fun h => ?_) (fun h => ?_)
            · skip
              refine wp_lv (lv' := []) trivial ?_
              exact t_r_begins_73 s h
            · skip
              refine x_iload_n (pc := 31) d142_31 rfl ?_
              refine x_bipush (pc := 32) (v := (9)) d142_32 (by decide) ?_
              refine z_icmp_eq (pc := 34) (tgt := 73) d142_34 (by decide) h (fun h => ?_) (fun h => ?_)
              · skip
                refine wp_lv (lv' := []) trivial ?_
                exact t_r_begins_73 s h
              · skip
                refine x_iload_n (pc := 37) d142_37 rfl ?_
                refine x_bipush (pc := 38) (v := (10)) d142_38 (by decide) ?_
                refine z_icmp_eq (pc := 40) (tgt := 73) d142_40 (by decide) h (fun h => ?_) (fun h => ?_)
                · skip
                  refine wp_lv (lv' := []) trivial ?_
                  exact t_r_begins_73 s h
                · skip
                  refine x_iload_n (pc := 43) d142_43 rfl ?_
                  refine x_bipush (pc := 44) (v := (11)) d142_44 (by decide) ?_
                  refine z_icmp_eq (pc := 46) (tgt := 73) d142_46 (by decide) h (fun h => ?_) (fun h => ?_)
                  · skip
                    refine wp_lv (lv' := []) trivial ?_
                    exact t_r_begins_73 s h
                  · skip
                    refine x_iload_n (pc := 49) d142_49 rfl ?_
                    refine x_bipush (pc := 50) (v := (12)) d142_50 (by decide) ?_
                    refine z_icmp_eq (pc := 52) (tgt := 73) d142_52 (by decide) h (fun h => ?_) (fun h => ?_)
                    · skip
                      refine wp_lv (lv' := []) trivial ?_
                      exact t_r_begins_73 s h
                    · skip
                      refine x_iload_n (pc := 55) d142_55 rfl ?_
                      refine x_bipush (pc := 56) (v := (13)) d142_56 (by decide) ?_
                      refine z_icmp_eq (pc := 58) (tgt := 73) d142_58 (by decide) h (fun h => ?_) (fun h => ?_)
                      · skip
                        refine wp_lv (lv' := []) trivial ?_
                        exact t_r_begins_73 s h
                      · skip
                        refine x_iload_n (pc := 61) d142_61 rfl ?_
                        refine x_bipush (pc := 62) (v := (15)) d142_62 (by decide) ?_
                        refine z_icmp_eq (pc := 64) (tgt := 73) d142_64 (by decide) h (fun h => ?_) (fun h => ?_)
                        · skip
                          refine wp_lv (lv' := []) trivial ?_
                          exact t_r_begins_73 s h
                        · skip
                          refine x_iload_n (pc := 67) d142_67 rfl ?_
                          refine x_bipush (pc := 68) (v := (18)) d142_68 (by decide) ?_
                          refine z_icmp_ne (pc := 70) (tgt := 77) d142_70 (by decide) h (fun h => ?_) (fun h => ?_)
                          · skip
                            refine x_iconst (pc := 77) (v := (0)) d142_77 (by decide) ?_
                            exact z_zretc (pc := 78) d142_78 rfl (Or.inl rfl) h
                          · skip
                            refine wp_lv (lv' := []) trivial ?_
                            exact t_r_begins_73 s h
def r_readEnd_17 (s : St) : Option (St) := cal (r_take (59 : Int32) s) fun s2 => some s2
set_option maxRecDepth 100000 in
theorem t_r_readEnd_17 {r : St} : ∀ (s : St), r_readEnd_17 s = some r → Wp (rmd 4 0 0) 145 (zv (fun s1 => s1 = r)) 0 0 17 [(0, .ref 280)] [] (mk s) TT := by
  intro s h
  unfold r_readEnd_17 at h
  refine x_aload_n (pc := 17) d145_17 rfl ?_
  refine x_bipush (pc := 18) (v := (59)) d145_18 (by decide) ?_
  refine z_cV1v (pc := 20) d145_20 ml9_324 mv144 shL280 (t_r_take (59 : Int32) s) (by decide) (Nat.le_of_ble_eq_true rfl) ⟨Nat.zero_le _, Nat.zero_le _⟩ h (fun s2 h => ?_)
  exact z_vret (pc := 23) d145_23 rfl h
def r_readEnd (a0 : Int32) (s : St) : Option (St) := bnd (s.1 208 0 0) fun v1 => if v1 = 0 then (cal2 (r_exp  s) fun v5 s4 => grd (ib a0 480) (si s4 218 0 a0.toNatClampNeg v5) fun s6 => r_readEnd_17 s6) else (r_readEnd_17 s)
set_option maxRecDepth 100000 in
theorem t_r_readEnd (a0 : Int32) (s : St) (r : St) (h : r_readEnd a0 s = some r) : Rv 4 145 [.ref 280, .int a0] s (fun s1 => s1 = r) := by
  refine ct_of (by decide +kernel) (Nat.le_of_ble_eq_true rfl) ?_
  show Wp _ _ _ _ _ _ [(0, .ref 280), (1, .int a0)] _ _ _
  unfold r_readEnd at h
  refine x_aload_n (pc := 0) d145_0 rfl ?_
  refine z_geti (pc := 1) d145_1 fk9_252 shL280 rfl h (fun v1 h => ?_)
  refine z_if_ne (pc := 4) (tgt := 17) d145_4 (by decide) h (fun h => ?_) (fun h => ?_)
  · skip
    refine wp_lv (lv' := [(0, .ref 280)]) ⟨rfl, trivial⟩ ?_
    exact t_r_readEnd_17 s h
  · skip
    refine x_aload_n (pc := 7) d145_7 rfl ?_
    refine y_getr (pc := 8) d145_8 fk9_39 shL280 rfl ?_
    refine x_iload_n (pc := 11) d145_11 rfl ?_
    refine x_aload_n (pc := 12) d145_12 rfl ?_
    refine z_cV0i (pc := 13) d145_13 ml9_330 mv146 shL280 (t_r_exp  s) (by decide) (Nat.le_of_ble_eq_true rfl) ⟨Nat.zero_le _, Nat.zero_le _⟩ h (fun v5 s4 h => ?_)
    refine z_iast (pc := 16) d145_16 shL289 (by decide) h (fun s6 h => ?_)
    refine wp_lv (lv' := [(0, .ref 280)]) ⟨rfl, trivial⟩ ?_
    exact t_r_readEnd_17 s6 h
def r_readStatement_246 (x3 : Int32) (s : St) : Option (St) := cal (r_readEnd x3 s) fun s13 => some s13
set_option maxRecDepth 100000 in
theorem t_r_readStatement_246 {r : St} : ∀ (x3 : Int32) (s : St), r_readStatement_246 x3 s = some r → Wp (rmd 5 0 0) 141 (zv (fun s1 => s1 = r)) 0 0 246 [(0, .ref 280), (3, .int x3)] [] (mk s) TT := by
  intro x3 s h
  unfold r_readStatement_246 at h
  refine x_aload_n (pc := 246) d141_246 rfl ?_
  refine x_iload_n (pc := 247) d141_247 rfl ?_
  refine z_cV1v (pc := 248) d141_248 ml9_327 mv145 shL280 (t_r_readEnd x3 s) (by decide) (Nat.le_of_ble_eq_true rfl) ⟨Nat.zero_le _, Nat.zero_le _⟩ h (fun s13 h => ?_)
  refine x_goto (pc := 251) (tgt := 452) d141_251 (by decide) ?_
  exact z_vret (pc := 452) d141_452 rfl h
def r_readStatement_277 (x3 : Int32) (s : St) : Option (St) := cal (r_take (41 : Int32) s) fun s18 => cal (r_openBody x3 (0 : Int32) s18) fun s20 => some s20
set_option maxRecDepth 100000 in
theorem t_r_readStatement_277 {r : St} : ∀ (x3 : Int32) (s : St), r_readStatement_277 x3 s = some r → Wp (rmd 5 0 0) 141 (zv (fun s1 => s1 = r)) 0 0 277 [(0, .ref 280), (3, .int x3)] [] (mk s) TT := by
  intro x3 s h
  unfold r_readStatement_277 at h
  refine x_aload_n (pc := 277) d141_277 rfl ?_
  refine x_bipush (pc := 278) (v := (41)) d141_278 (by decide) ?_
  refine z_cV1v (pc := 280) d141_280 ml9_324 mv144 shL280 (t_r_take (41 : Int32) s) (by decide) (Nat.le_of_ble_eq_true rfl) ⟨Nat.zero_le _, Nat.zero_le _⟩ h (fun s18 h => ?_)
  refine x_aload_n (pc := 283) d141_283 rfl ?_
  refine x_iload_n (pc := 284) d141_284 rfl ?_
  refine x_iconst (pc := 285) (v := (0)) d141_285 (by decide) ?_
  refine z_cV2v (pc := 286) d141_286 ml9_310 mv138 shL280 (t_r_openBody x3 (0 : Int32) s18) (by decide) (Nat.le_of_ble_eq_true rfl) ⟨Nat.zero_le _, Nat.zero_le _⟩ h (fun s20 h => ?_)
  refine x_goto (pc := 289) (tgt := 452) d141_289 (by decide) ?_
  exact z_vret (pc := 452) d141_452 rfl h
def r_readStatement_254 (x3 : Int32) (s : St) : Option (St) := cal (r_take (40 : Int32) s) fun s15 => bnd (s15.1 208 0 0) fun v17 => if v17 = 0 then (cal2 (r_exp  s15) fun v23 s22 => grd (ib x3 480) (si s22 218 0 x3.toNatClampNeg v23) fun s24 => r_readStatement_277 x3 s24) else (r_readStatement_277 x3 s15)
set_option maxRecDepth 100000 in
theorem t_r_readStatement_254 {r : St} : ∀ (x3 : Int32) (s : St), r_readStatement_254 x3 s = some r → Wp (rmd 5 0 0) 141 (zv (fun s1 => s1 = r)) 0 0 254 [(0, .ref 280), (3, .int x3)] [] (mk s) TT := by
  intro x3 s h
  unfold r_readStatement_254 at h
  refine x_aload_n (pc := 254) d141_254 rfl ?_
  refine x_bipush (pc := 255) (v := (40)) d141_255 (by decide) ?_
  refine z_cV1v (pc := 257) d141_257 ml9_324 mv144 shL280 (t_r_take (40 : Int32) s) (by decide) (Nat.le_of_ble_eq_true rfl) ⟨Nat.zero_le _, Nat.zero_le _⟩ h (fun s15 h => ?_)
  refine x_aload_n (pc := 260) d141_260 rfl ?_
  refine z_geti (pc := 261) d141_261 fk9_252 shL280 rfl h (fun v17 h => ?_)
  refine z_if_ne (pc := 264) (tgt := 277) d141_264 (by decide) h (fun h => ?_) (fun h => ?_)
  · skip
    refine wp_lv (lv' := [(0, .ref 280), (3, .int x3)]) ⟨rfl, rfl, trivial⟩ ?_
    exact t_r_readStatement_277 x3 s15 h
  · skip
    refine x_aload_n (pc := 267) d141_267 rfl ?_
    refine y_getr (pc := 268) d141_268 fk9_39 shL280 rfl ?_
    refine x_iload_n (pc := 271) d141_271 rfl ?_
    refine x_aload_n (pc := 272) d141_272 rfl ?_
    refine z_cV0i (pc := 273) d141_273 ml9_330 mv146 shL280 (t_r_exp  s15) (by decide) (Nat.le_of_ble_eq_true rfl) ⟨Nat.zero_le _, Nat.zero_le _⟩ h (fun v23 s22 h => ?_)
    refine z_iast (pc := 276) d141_276 shL289 (by decide) h (fun s24 h => ?_)
    refine wp_lv (lv' := [(0, .ref 280), (3, .int x3)]) ⟨rfl, rfl, trivial⟩ ?_
    exact t_r_readStatement_277 x3 s24 h
def r_readStatement_330 (s : St) : Option (St) := cal (r_take (59 : Int32) s) fun s31 => some s31
set_option maxRecDepth 100000 in
theorem t_r_readStatement_330 {r : St} : ∀ (s : St), r_readStatement_330 s = some r → Wp (rmd 5 0 0) 141 (zv (fun s1 => s1 = r)) 0 0 330 [(0, .ref 280)] [] (mk s) TT := by
  intro s h
  unfold r_readStatement_330 at h
  refine x_aload_n (pc := 330) d141_330 rfl ?_
  refine x_bipush (pc := 331) (v := (59)) d141_331 (by decide) ?_
  refine z_cV1v (pc := 333) d141_333 ml9_324 mv144 shL280 (t_r_take (59 : Int32) s) (by decide) (Nat.le_of_ble_eq_true rfl) ⟨Nat.zero_le _, Nat.zero_le _⟩ h (fun s31 h => ?_)
  refine x_goto (pc := 336) (tgt := 452) d141_336 (by decide) ?_
  exact z_vret (pc := 452) d141_452 rfl h
def r_readStatement_309 (x3 : Int32) (s : St) : Option (St) := bnd (s.1 205 0 0) fun v28 => grd (ib x3 480) (si s 221 0 x3.toNatClampNeg v28) fun s29 => bnd (s29.1 208 0 0) fun v30 => if v30 = 0 then (cal (r_takeLocal  s29) fun s33 => r_readStatement_330 s33) else (r_readStatement_330 s29)
set_option maxRecDepth 100000 in
theorem t_r_readStatement_309 {r : St} : ∀ (x3 : Int32) (s : St), r_readStatement_309 x3 s = some r → Wp (rmd 5 0 0) 141 (zv (fun s1 => s1 = r)) 0 0 309 [(0, .ref 280), (3, .int x3)] [] (mk s) TT := by
  intro x3 s h
  unfold r_readStatement_309 at h
  refine x_aload_n (pc := 309) d141_309 rfl ?_
  refine y_getr (pc := 310) d141_310 fk9_49 shL280 rfl ?_
  refine x_iload_n (pc := 313) d141_313 rfl ?_
  refine x_aload_n (pc := 314) d141_314 rfl ?_
  refine z_geti (pc := 315) d141_315 fk9_228 shL280 rfl h (fun v28 h => ?_)
  refine z_iast (pc := 318) d141_318 shL292 (by decide) h (fun s29 h => ?_)
  refine x_aload_n (pc := 319) d141_319 rfl ?_
  refine z_geti (pc := 320) d141_320 fk9_252 shL280 rfl h (fun v30 h => ?_)
  refine z_if_ne (pc := 323) (tgt := 330) d141_323 (by decide) h (fun h => ?_) (fun h => ?_)
  · skip
    refine wp_lv (lv' := [(0, .ref 280)]) ⟨rfl, trivial⟩ ?_
    exact t_r_readStatement_330 s29 h
  · skip
    refine x_aload_n (pc := 326) d141_326 rfl ?_
    refine z_cV0v (pc := 327) d141_327 ml9_314 mv139 shL280 (t_r_takeLocal  s29) (by decide) (Nat.le_of_ble_eq_true rfl) ⟨Nat.zero_le _, Nat.zero_le _⟩ h (fun s33 h => ?_)
    refine wp_lv (lv' := [(0, .ref 280)]) ⟨rfl, trivial⟩ ?_
    exact t_r_readStatement_330 s33 h
def r_readStatement_374 (s : St) : Option (St) := cal (r_take (59 : Int32) s) fun s42 => some s42
set_option maxRecDepth 100000 in
theorem t_r_readStatement_374 {r : St} : ∀ (s : St), r_readStatement_374 s = some r → Wp (rmd 5 0 0) 141 (zv (fun s1 => s1 = r)) 0 0 374 [(0, .ref 280)] [] (mk s) TT := by
  intro s h
  unfold r_readStatement_374 at h
  refine x_aload_n (pc := 374) d141_374 rfl ?_
  refine x_bipush (pc := 375) (v := (59)) d141_375 (by decide) ?_
  refine z_cV1v (pc := 377) d141_377 ml9_324 mv144 shL280 (t_r_take (59 : Int32) s) (by decide) (Nat.le_of_ble_eq_true rfl) ⟨Nat.zero_le _, Nat.zero_le _⟩ h (fun s42 h => ?_)
  refine x_goto (pc := 380) (tgt := 452) d141_380 (by decide) ?_
  exact z_vret (pc := 452) d141_452 rfl h
def r_readStatement_362 (x3 : Int32) (s : St) : Option (St) := bnd (s.1 208 0 0) fun v41 => if v41 = 0 then (cal (r_takeBox x3 s) fun s44 => r_readStatement_374 s44) else (r_readStatement_374 s)
set_option maxRecDepth 100000 in
theorem t_r_readStatement_362 {r : St} : ∀ (x3 : Int32) (s : St), r_readStatement_362 x3 s = some r → Wp (rmd 5 0 0) 141 (zv (fun s1 => s1 = r)) 0 0 362 [(0, .ref 280), (3, .int x3)] [] (mk s) TT := by
  intro x3 s h
  unfold r_readStatement_362 at h
  refine x_aload_n (pc := 362) d141_362 rfl ?_
  refine z_geti (pc := 363) d141_363 fk9_252 shL280 rfl h (fun v41 h => ?_)
  refine z_if_ne (pc := 366) (tgt := 374) d141_366 (by decide) h (fun h => ?_) (fun h => ?_)
  · skip
    refine wp_lv (lv' := [(0, .ref 280)]) ⟨rfl, trivial⟩ ?_
    exact t_r_readStatement_374 s h
  · skip
    refine x_aload_n (pc := 369) d141_369 rfl ?_
    refine x_iload_n (pc := 370) d141_370 rfl ?_
    refine z_cV1v (pc := 371) d141_371 ml9_333 mv152 shL280 (t_r_takeBox x3 s) (by decide) (Nat.le_of_ble_eq_true rfl) ⟨Nat.zero_le _, Nat.zero_le _⟩ h (fun s44 h => ?_)
    refine wp_lv (lv' := [(0, .ref 280)]) ⟨rfl, trivial⟩ ?_
    exact t_r_readStatement_374 s44 h
def r_readStatement_420 (s : St) : Option (St) := cal (r_take (59 : Int32) s) fun s53 => some s53
set_option maxRecDepth 100000 in
theorem t_r_readStatement_420 {r : St} : ∀ (s : St), r_readStatement_420 s = some r → Wp (rmd 5 0 0) 141 (zv (fun s1 => s1 = r)) 0 0 420 [(0, .ref 280)] [] (mk s) TT := by
  intro s h
  unfold r_readStatement_420 at h
  refine x_aload_n (pc := 420) d141_420 rfl ?_
  refine x_bipush (pc := 421) (v := (59)) d141_421 (by decide) ?_
  refine z_cV1v (pc := 423) d141_423 ml9_324 mv144 shL280 (t_r_take (59 : Int32) s) (by decide) (Nat.le_of_ble_eq_true rfl) ⟨Nat.zero_le _, Nat.zero_le _⟩ h (fun s53 h => ?_)
  refine x_goto (pc := 426) (tgt := 452) d141_426 (by decide) ?_
  exact z_vret (pc := 452) d141_452 rfl h
def r_readStatement_405 (x3 : Int32) (s : St) : Option (St) := bnd (s.1 208 0 0) fun v52 => if v52 = 0 then (cal (r_takeNumber x3 (5 : Int64) s) fun s55 => r_readStatement_420 s55) else (r_readStatement_420 s)
set_option maxRecDepth 100000 in
theorem t_r_readStatement_405 {r : St} : ∀ (x3 : Int32) (s : St), r_readStatement_405 x3 s = some r → Wp (rmd 5 0 0) 141 (zv (fun s1 => s1 = r)) 0 0 405 [(0, .ref 280), (3, .int x3)] [] (mk s) TT := by
  intro x3 s h
  unfold r_readStatement_405 at h
  refine x_aload_n (pc := 405) d141_405 rfl ?_
  refine z_geti (pc := 406) d141_406 fk9_252 shL280 rfl h (fun v52 h => ?_)
  refine z_if_ne (pc := 409) (tgt := 420) d141_409 (by decide) h (fun h => ?_) (fun h => ?_)
  · skip
    refine wp_lv (lv' := [(0, .ref 280)]) ⟨rfl, trivial⟩ ?_
    exact t_r_readStatement_420 s h
  · skip
    refine x_aload_n (pc := 412) d141_412 rfl ?_
    refine x_iload_n (pc := 413) d141_413 rfl ?_
    refine x_ldc2 (pc := 414) (v := (5)) (gw_t (i := 1169) (by decide +kernel) (by decide +kernel)) d141_414 ?_
    refine z_cV2v (pc := 417) d141_417 ml9_338 mv153 shL280 (t_r_takeNumber x3 (5 : Int64) s) (by decide) (Nat.le_of_ble_eq_true rfl) ⟨Nat.zero_le _, Nat.zero_le _⟩ h (fun s55 h => ?_)
    refine wp_lv (lv' := [(0, .ref 280)]) ⟨rfl, trivial⟩ ?_
    exact t_r_readStatement_420 s55 h
def r_readStatement_446 (x3 : Int32) (s : St) : Option (St) := cal (r_openBody x3 (0 : Int32) s) fun s67 => some s67
set_option maxRecDepth 100000 in
theorem t_r_readStatement_446 {r : St} : ∀ (x3 : Int32) (s : St), r_readStatement_446 x3 s = some r → Wp (rmd 5 0 0) 141 (zv (fun s1 => s1 = r)) 0 0 446 [(0, .ref 280), (3, .int x3)] [] (mk s) TT := by
  intro x3 s h
  unfold r_readStatement_446 at h
  refine x_aload_n (pc := 446) d141_446 rfl ?_
  refine x_iload_n (pc := 447) d141_447 rfl ?_
  refine x_iconst (pc := 448) (v := (0)) d141_448 (by decide) ?_
  refine z_cV2v (pc := 449) d141_449 ml9_310 mv138 shL280 (t_r_openBody x3 (0 : Int32) s) (by decide) (Nat.le_of_ble_eq_true rfl) ⟨Nat.zero_le _, Nat.zero_le _⟩ h (fun s67 h => ?_)
  exact z_vret (pc := 452) d141_452 rfl h
def r_readStatement_81 (x3 : Int32) (y0 : Int32) (y1 : Int32) (s : St) : Option (St) := grd (ib y1 480) (si s 221 0 y1.toNatClampNeg y0) fun s9 => cal (r_next  s9) fun s10 => grd (ib x3 480) (s10.1 216 0 x3.toNatClampNeg) fun v12 => if v12 = 0 then (r_readStatement_246 x3 s10) else if v12 = 1 then (r_readStatement_254 x3 s10) else if v12 = 3 then (r_readStatement_254 x3 s10) else if v12 = 4 then (cal (r_takeBox x3 s10) fun s25 => bnd (s25.1 208 0 0) fun v27 => if v27 = 0 then (cal (r_takeWord (5 : Int32) s25) fun s35 => r_readStatement_309 x3 s35) else (r_readStatement_309 x3 s25)) else if v12 = 6 then (cal2 (r_exp  s10) fun v38 s37 => grd (ib x3 480) (si s37 218 0 x3.toNatClampNeg v38) fun s39 => bnd (s39.1 208 0 0) fun v40 => if v40 = 0 then (cal (r_takeWord (7 : Int32) s39) fun s46 => r_readStatement_362 x3 s46) else (r_readStatement_362 x3 s39)) else if v12 = 8 then (r_readStatement_246 x3 s10) else if v12 = 9 then (cal2 (r_exp  s10) fun v49 s48 => grd (ib x3 480) (si s48 218 0 x3.toNatClampNeg v49) fun s50 => bnd (s50.1 208 0 0) fun v51 => if v51 = 0 then (cal (r_takeWord (5 : Int32) s50) fun s57 => r_readStatement_405 x3 s57) else (r_readStatement_405 x3 s50)) else if v12 = 18 then (cal (r_takeNumber x3 (999999999 : Int64) s10) fun s59 => cal (r_openBody x3 (0 : Int32) s59) fun s61 => some s61) else if v12 = 30 then (cal (r_take (61 : Int32) s10) fun s63 => cal (r_readEnd x3 s63) fun s65 => some s65) else (r_readStatement_446 x3 s10)
set_option maxRecDepth 100000 in
theorem t_r_readStatement_81 {r : St} : ∀ (x3 : Int32) (y0 : Int32) (y1 : Int32) (s : St), r_readStatement_81 x3 y0 y1 s = some r → Wp (rmd 5 0 0) 141 (zv (fun s1 => s1 = r)) 0 0 81 [(0, .ref 280), (3, .int x3)] [.int y0, .int y1, .ref 292] (mk s) TT := by
  intro x3 y0 y1 s h
  unfold r_readStatement_81 at h
  refine z_iast (pc := 81) d141_81 shL292 (by decide) h (fun s9 h => ?_)
  refine x_aload_n (pc := 82) d141_82 rfl ?_
  refine z_cV0v (pc := 83) d141_83 ml9_262 mv128 shL280 (t_r_next  s9) (by decide) (Nat.le_of_ble_eq_true rfl) ⟨Nat.zero_le _, Nat.zero_le _⟩ h (fun s10 h => ?_)
  refine x_aload_n (pc := 86) d141_86 rfl ?_
  refine y_getr (pc := 87) d141_87 fk9_33 shL280 rfl ?_
  refine x_iload_n (pc := 90) d141_90 rfl ?_
  refine z_iald (pc := 91) d141_91 shL287 (by decide) h (fun v12 h => ?_)
  by_cases hk0 : v12 = 0
  · replace h := ip hk0 h
    refine x_tableIn (pc := 92) (tgt := 246) (off := 154) d141_92 (by rw [hk0]; decide) (by rw [hk0]; decide) (by rw [hk0]; decide) (by decide) ?_
    refine wp_lv (lv' := [(0, .ref 280), (3, .int x3)]) ⟨rfl, rfl, trivial⟩ ?_
    exact t_r_readStatement_246 x3 s10 h
  replace h := im hk0 h
  by_cases hk1 : v12 = 1
  · replace h := ip hk1 h
    refine x_tableIn (pc := 92) (tgt := 254) (off := 162) d141_92 (by rw [hk1]; decide) (by rw [hk1]; decide) (by rw [hk1]; decide) (by decide) ?_
    refine wp_lv (lv' := [(0, .ref 280), (3, .int x3)]) ⟨rfl, rfl, trivial⟩ ?_
    exact t_r_readStatement_254 x3 s10 h
  replace h := im hk1 h
  by_cases hk3 : v12 = 3
  · replace h := ip hk3 h
    refine x_tableIn (pc := 92) (tgt := 254) (off := 162) d141_92 (by rw [hk3]; decide) (by rw [hk3]; decide) (by rw [hk3]; decide) (by decide) ?_
    refine wp_lv (lv' := [(0, .ref 280), (3, .int x3)]) ⟨rfl, rfl, trivial⟩ ?_
    exact t_r_readStatement_254 x3 s10 h
  replace h := im hk3 h
  by_cases hk4 : v12 = 4
  · replace h := ip hk4 h
    refine x_tableIn (pc := 92) (tgt := 292) (off := 200) d141_92 (by rw [hk4]; decide) (by rw [hk4]; decide) (by rw [hk4]; decide) (by decide) ?_
    refine x_aload_n (pc := 292) d141_292 rfl ?_
    refine x_iload_n (pc := 293) d141_293 rfl ?_
    refine z_cV1v (pc := 294) d141_294 ml9_333 mv152 shL280 (t_r_takeBox x3 s10) (by decide) (Nat.le_of_ble_eq_true rfl) ⟨Nat.zero_le _, Nat.zero_le _⟩ h (fun s25 h => ?_)
    refine x_aload_n (pc := 297) d141_297 rfl ?_
    refine z_geti (pc := 298) d141_298 fk9_252 shL280 rfl h (fun v27 h => ?_)
    refine z_if_ne (pc := 301) (tgt := 309) d141_301 (by decide) h (fun h => ?_) (fun h => ?_)
    · skip
      refine wp_lv (lv' := [(0, .ref 280), (3, .int x3)]) ⟨rfl, rfl, trivial⟩ ?_
      exact t_r_readStatement_309 x3 s25 h
    · skip
      refine x_aload_n (pc := 304) d141_304 rfl ?_
      refine x_iconst (pc := 305) (v := (5)) d141_305 (by decide) ?_
      refine z_cV1v (pc := 306) d141_306 ml9_307 mv137 shL280 (t_r_takeWord (5 : Int32) s25) (by decide) (Nat.le_of_ble_eq_true rfl) ⟨Nat.zero_le _, Nat.zero_le _⟩ h (fun s35 h => ?_)
      refine wp_lv (lv' := [(0, .ref 280), (3, .int x3)]) ⟨rfl, rfl, trivial⟩ ?_
      exact t_r_readStatement_309 x3 s35 h
  replace h := im hk4 h
  by_cases hk6 : v12 = 6
  · replace h := ip hk6 h
    refine x_tableIn (pc := 92) (tgt := 339) (off := 247) d141_92 (by rw [hk6]; decide) (by rw [hk6]; decide) (by rw [hk6]; decide) (by decide) ?_
    refine x_aload_n (pc := 339) d141_339 rfl ?_
    refine y_getr (pc := 340) d141_340 fk9_39 shL280 rfl ?_
    refine x_iload_n (pc := 343) d141_343 rfl ?_
    refine x_aload_n (pc := 344) d141_344 rfl ?_
    refine z_cV0i (pc := 345) d141_345 ml9_330 mv146 shL280 (t_r_exp  s10) (by decide) (Nat.le_of_ble_eq_true rfl) ⟨Nat.zero_le _, Nat.zero_le _⟩ h (fun v38 s37 h => ?_)
    refine z_iast (pc := 348) d141_348 shL289 (by decide) h (fun s39 h => ?_)
    refine x_aload_n (pc := 349) d141_349 rfl ?_
    refine z_geti (pc := 350) d141_350 fk9_252 shL280 rfl h (fun v40 h => ?_)
    refine z_if_ne (pc := 353) (tgt := 362) d141_353 (by decide) h (fun h => ?_) (fun h => ?_)
    · skip
      refine wp_lv (lv' := [(0, .ref 280), (3, .int x3)]) ⟨rfl, rfl, trivial⟩ ?_
      exact t_r_readStatement_362 x3 s39 h
    · skip
      refine x_aload_n (pc := 356) d141_356 rfl ?_
      refine x_bipush (pc := 357) (v := (7)) d141_357 (by decide) ?_
      refine z_cV1v (pc := 359) d141_359 ml9_307 mv137 shL280 (t_r_takeWord (7 : Int32) s39) (by decide) (Nat.le_of_ble_eq_true rfl) ⟨Nat.zero_le _, Nat.zero_le _⟩ h (fun s46 h => ?_)
      refine wp_lv (lv' := [(0, .ref 280), (3, .int x3)]) ⟨rfl, rfl, trivial⟩ ?_
      exact t_r_readStatement_362 x3 s46 h
  replace h := im hk6 h
  by_cases hk8 : v12 = 8
  · replace h := ip hk8 h
    refine x_tableIn (pc := 92) (tgt := 246) (off := 154) d141_92 (by rw [hk8]; decide) (by rw [hk8]; decide) (by rw [hk8]; decide) (by decide) ?_
    refine wp_lv (lv' := [(0, .ref 280), (3, .int x3)]) ⟨rfl, rfl, trivial⟩ ?_
    exact t_r_readStatement_246 x3 s10 h
  replace h := im hk8 h
  by_cases hk9 : v12 = 9
  · replace h := ip hk9 h
    refine x_tableIn (pc := 92) (tgt := 383) (off := 291) d141_92 (by rw [hk9]; decide) (by rw [hk9]; decide) (by rw [hk9]; decide) (by decide) ?_
    refine x_aload_n (pc := 383) d141_383 rfl ?_
    refine y_getr (pc := 384) d141_384 fk9_39 shL280 rfl ?_
    refine x_iload_n (pc := 387) d141_387 rfl ?_
    refine x_aload_n (pc := 388) d141_388 rfl ?_
    refine z_cV0i (pc := 389) d141_389 ml9_330 mv146 shL280 (t_r_exp  s10) (by decide) (Nat.le_of_ble_eq_true rfl) ⟨Nat.zero_le _, Nat.zero_le _⟩ h (fun v49 s48 h => ?_)
    refine z_iast (pc := 392) d141_392 shL289 (by decide) h (fun s50 h => ?_)
    refine x_aload_n (pc := 393) d141_393 rfl ?_
    refine z_geti (pc := 394) d141_394 fk9_252 shL280 rfl h (fun v51 h => ?_)
    refine z_if_ne (pc := 397) (tgt := 405) d141_397 (by decide) h (fun h => ?_) (fun h => ?_)
    · skip
      refine wp_lv (lv' := [(0, .ref 280), (3, .int x3)]) ⟨rfl, rfl, trivial⟩ ?_
      exact t_r_readStatement_405 x3 s50 h
    · skip
      refine x_aload_n (pc := 400) d141_400 rfl ?_
      refine x_iconst (pc := 401) (v := (5)) d141_401 (by decide) ?_
      refine z_cV1v (pc := 402) d141_402 ml9_307 mv137 shL280 (t_r_takeWord (5 : Int32) s50) (by decide) (Nat.le_of_ble_eq_true rfl) ⟨Nat.zero_le _, Nat.zero_le _⟩ h (fun s57 h => ?_)
      refine wp_lv (lv' := [(0, .ref 280), (3, .int x3)]) ⟨rfl, rfl, trivial⟩ ?_
      exact t_r_readStatement_405 x3 s57 h
  replace h := im hk9 h
  by_cases hk18 : v12 = 18
  · replace h := ip hk18 h
    refine x_tableIn (pc := 92) (tgt := 429) (off := 337) d141_92 (by rw [hk18]; decide) (by rw [hk18]; decide) (by rw [hk18]; decide) (by decide) ?_
    refine x_aload_n (pc := 429) d141_429 rfl ?_
    refine x_iload_n (pc := 430) d141_430 rfl ?_
    refine x_ldc2 (pc := 431) (v := (999999999)) (gw_t (i := 1174) (by decide +kernel) (by decide +kernel)) d141_431 ?_
    refine z_cV2v (pc := 434) d141_434 ml9_338 mv153 shL280 (t_r_takeNumber x3 (999999999 : Int64) s10) (by decide) (Nat.le_of_ble_eq_true rfl) ⟨Nat.zero_le _, Nat.zero_le _⟩ h (fun s59 h => ?_)
    refine x_aload_n (pc := 437) d141_437 rfl ?_
    refine x_iload_n (pc := 438) d141_438 rfl ?_
    refine x_iconst (pc := 439) (v := (0)) d141_439 (by decide) ?_
    refine z_cV2v (pc := 440) d141_440 ml9_310 mv138 shL280 (t_r_openBody x3 (0 : Int32) s59) (by decide) (Nat.le_of_ble_eq_true rfl) ⟨Nat.zero_le _, Nat.zero_le _⟩ h (fun s61 h => ?_)
    refine x_goto (pc := 443) (tgt := 452) d141_443 (by decide) ?_
    exact z_vret (pc := 452) d141_452 rfl h
  replace h := im hk18 h
  by_cases hk30 : v12 = 30
  · replace h := ip hk30 h
    refine x_tableIn (pc := 92) (tgt := 232) (off := 140) d141_92 (by rw [hk30]; decide) (by rw [hk30]; decide) (by rw [hk30]; decide) (by decide) ?_
    refine x_aload_n (pc := 232) d141_232 rfl ?_
    refine x_bipush (pc := 233) (v := (61)) d141_233 (by decide) ?_
    refine z_cV1v (pc := 235) d141_235 ml9_324 mv144 shL280 (t_r_take (61 : Int32) s10) (by decide) (Nat.le_of_ble_eq_true rfl) ⟨Nat.zero_le _, Nat.zero_le _⟩ h (fun s63 h => ?_)
    refine x_aload_n (pc := 238) d141_238 rfl ?_
    refine x_iload_n (pc := 239) d141_239 rfl ?_
    refine z_cV1v (pc := 240) d141_240 ml9_327 mv145 shL280 (t_r_readEnd x3 s63) (by decide) (Nat.le_of_ble_eq_true rfl) ⟨Nat.zero_le _, Nat.zero_le _⟩ h (fun s65 h => ?_)
    refine x_goto (pc := 243) (tgt := 452) d141_243 (by decide) ?_
    exact z_vret (pc := 452) d141_452 rfl h
  replace h := im hk30 h
  have z0 : ¬ (v12).toInt = 0 := lv_neT hk0 (by decide)
  have z1 : ¬ (v12).toInt = 1 := lv_neT hk1 (by decide)
  have z3 : ¬ (v12).toInt = 3 := lv_neT hk3 (by decide)
  have z4 : ¬ (v12).toInt = 4 := lv_neT hk4 (by decide)
  have z6 : ¬ (v12).toInt = 6 := lv_neT hk6 (by decide)
  have z8 : ¬ (v12).toInt = 8 := lv_neT hk8 (by decide)
  have z9 : ¬ (v12).toInt = 9 := lv_neT hk9 (by decide)
  have z18 : ¬ (v12).toInt = 18 := lv_neT hk18 (by decide)
  have z30 : ¬ (v12).toInt = 30 := lv_neT hk30 (by decide)
  have hD : Wp (rmd 5 0 0) 141 (zv (fun s1 => s1 = r)) 0 0 446 [(0, .ref 280), (3, .int x3)] [] (mk s10) TT := by
    refine wp_lv (lv' := [(0, .ref 280), (3, .int x3)]) ⟨rfl, rfl, trivial⟩ ?_
    exact t_r_readStatement_446 x3 s10 h
  rcases (by omega : (v12).toInt < 0 ∨ 30 < (v12).toInt ∨ (v12).toInt = 2 ∨ (v12).toInt = 5 ∨ (v12).toInt = 7 ∨ (v12).toInt = 10 ∨ (v12).toInt = 11 ∨ (v12).toInt = 12 ∨ (v12).toInt = 13 ∨ (v12).toInt = 14 ∨ (v12).toInt = 15 ∨ (v12).toInt = 16 ∨ (v12).toInt = 17 ∨ (v12).toInt = 19 ∨ (v12).toInt = 20 ∨ (v12).toInt = 21 ∨ (v12).toInt = 22 ∨ (v12).toInt = 23 ∨ (v12).toInt = 24 ∨ (v12).toInt = 25 ∨ (v12).toInt = 26 ∨ (v12).toInt = 27 ∨ (v12).toInt = 28 ∨ (v12).toInt = 29) with zz | zz | zz | zz | zz | zz | zz | zz | zz | zz | zz | zz | zz | zz | zz | zz | zz | zz | zz | zz | zz | zz | zz | zz
  · exact x_tableOut (pc := 92) (tgt := 446) d141_92 (Or.inl zz) (by decide) (wp_lv (lv' := [(0, .ref 280), (3, .int x3)]) ⟨rfl, rfl, trivial⟩ hD)
  · exact x_tableOut (pc := 92) (tgt := 446) d141_92 (Or.inr zz) (by decide) (wp_lv (lv' := [(0, .ref 280), (3, .int x3)]) ⟨rfl, rfl, trivial⟩ hD)
  · exact x_tableIn (pc := 92) (tgt := 446) (off := 354) d141_92 (by rw [zz]; decide) (by rw [zz]; decide) (by rw [zz]; rfl) (by decide) (wp_lv (lv' := [(0, .ref 280), (3, .int x3)]) ⟨rfl, rfl, trivial⟩ hD)
  · exact x_tableIn (pc := 92) (tgt := 446) (off := 354) d141_92 (by rw [zz]; decide) (by rw [zz]; decide) (by rw [zz]; rfl) (by decide) (wp_lv (lv' := [(0, .ref 280), (3, .int x3)]) ⟨rfl, rfl, trivial⟩ hD)
  · exact x_tableIn (pc := 92) (tgt := 446) (off := 354) d141_92 (by rw [zz]; decide) (by rw [zz]; decide) (by rw [zz]; rfl) (by decide) (wp_lv (lv' := [(0, .ref 280), (3, .int x3)]) ⟨rfl, rfl, trivial⟩ hD)
  · exact x_tableIn (pc := 92) (tgt := 446) (off := 354) d141_92 (by rw [zz]; decide) (by rw [zz]; decide) (by rw [zz]; rfl) (by decide) (wp_lv (lv' := [(0, .ref 280), (3, .int x3)]) ⟨rfl, rfl, trivial⟩ hD)
  · exact x_tableIn (pc := 92) (tgt := 446) (off := 354) d141_92 (by rw [zz]; decide) (by rw [zz]; decide) (by rw [zz]; rfl) (by decide) (wp_lv (lv' := [(0, .ref 280), (3, .int x3)]) ⟨rfl, rfl, trivial⟩ hD)
  · exact x_tableIn (pc := 92) (tgt := 446) (off := 354) d141_92 (by rw [zz]; decide) (by rw [zz]; decide) (by rw [zz]; rfl) (by decide) (wp_lv (lv' := [(0, .ref 280), (3, .int x3)]) ⟨rfl, rfl, trivial⟩ hD)
  · exact x_tableIn (pc := 92) (tgt := 446) (off := 354) d141_92 (by rw [zz]; decide) (by rw [zz]; decide) (by rw [zz]; rfl) (by decide) (wp_lv (lv' := [(0, .ref 280), (3, .int x3)]) ⟨rfl, rfl, trivial⟩ hD)
  · exact x_tableIn (pc := 92) (tgt := 446) (off := 354) d141_92 (by rw [zz]; decide) (by rw [zz]; decide) (by rw [zz]; rfl) (by decide) (wp_lv (lv' := [(0, .ref 280), (3, .int x3)]) ⟨rfl, rfl, trivial⟩ hD)
  · exact x_tableIn (pc := 92) (tgt := 446) (off := 354) d141_92 (by rw [zz]; decide) (by rw [zz]; decide) (by rw [zz]; rfl) (by decide) (wp_lv (lv' := [(0, .ref 280), (3, .int x3)]) ⟨rfl, rfl, trivial⟩ hD)
  · exact x_tableIn (pc := 92) (tgt := 446) (off := 354) d141_92 (by rw [zz]; decide) (by rw [zz]; decide) (by rw [zz]; rfl) (by decide) (wp_lv (lv' := [(0, .ref 280), (3, .int x3)]) ⟨rfl, rfl, trivial⟩ hD)
  · exact x_tableIn (pc := 92) (tgt := 446) (off := 354) d141_92 (by rw [zz]; decide) (by rw [zz]; decide) (by rw [zz]; rfl) (by decide) (wp_lv (lv' := [(0, .ref 280), (3, .int x3)]) ⟨rfl, rfl, trivial⟩ hD)
  · exact x_tableIn (pc := 92) (tgt := 446) (off := 354) d141_92 (by rw [zz]; decide) (by rw [zz]; decide) (by rw [zz]; rfl) (by decide) (wp_lv (lv' := [(0, .ref 280), (3, .int x3)]) ⟨rfl, rfl, trivial⟩ hD)
  · exact x_tableIn (pc := 92) (tgt := 446) (off := 354) d141_92 (by rw [zz]; decide) (by rw [zz]; decide) (by rw [zz]; rfl) (by decide) (wp_lv (lv' := [(0, .ref 280), (3, .int x3)]) ⟨rfl, rfl, trivial⟩ hD)
  · exact x_tableIn (pc := 92) (tgt := 446) (off := 354) d141_92 (by rw [zz]; decide) (by rw [zz]; decide) (by rw [zz]; rfl) (by decide) (wp_lv (lv' := [(0, .ref 280), (3, .int x3)]) ⟨rfl, rfl, trivial⟩ hD)
  · exact x_tableIn (pc := 92) (tgt := 446) (off := 354) d141_92 (by rw [zz]; decide) (by rw [zz]; decide) (by rw [zz]; rfl) (by decide) (wp_lv (lv' := [(0, .ref 280), (3, .int x3)]) ⟨rfl, rfl, trivial⟩ hD)
  · exact x_tableIn (pc := 92) (tgt := 446) (off := 354) d141_92 (by rw [zz]; decide) (by rw [zz]; decide) (by rw [zz]; rfl) (by decide) (wp_lv (lv' := [(0, .ref 280), (3, .int x3)]) ⟨rfl, rfl, trivial⟩ hD)
  · exact x_tableIn (pc := 92) (tgt := 446) (off := 354) d141_92 (by rw [zz]; decide) (by rw [zz]; decide) (by rw [zz]; rfl) (by decide) (wp_lv (lv' := [(0, .ref 280), (3, .int x3)]) ⟨rfl, rfl, trivial⟩ hD)
  · exact x_tableIn (pc := 92) (tgt := 446) (off := 354) d141_92 (by rw [zz]; decide) (by rw [zz]; decide) (by rw [zz]; rfl) (by decide) (wp_lv (lv' := [(0, .ref 280), (3, .int x3)]) ⟨rfl, rfl, trivial⟩ hD)
  · exact x_tableIn (pc := 92) (tgt := 446) (off := 354) d141_92 (by rw [zz]; decide) (by rw [zz]; decide) (by rw [zz]; rfl) (by decide) (wp_lv (lv' := [(0, .ref 280), (3, .int x3)]) ⟨rfl, rfl, trivial⟩ hD)
  · exact x_tableIn (pc := 92) (tgt := 446) (off := 354) d141_92 (by rw [zz]; decide) (by rw [zz]; decide) (by rw [zz]; rfl) (by decide) (wp_lv (lv' := [(0, .ref 280), (3, .int x3)]) ⟨rfl, rfl, trivial⟩ hD)
  · exact x_tableIn (pc := 92) (tgt := 446) (off := 354) d141_92 (by rw [zz]; decide) (by rw [zz]; decide) (by rw [zz]; rfl) (by decide) (wp_lv (lv' := [(0, .ref 280), (3, .int x3)]) ⟨rfl, rfl, trivial⟩ hD)
  · exact x_tableIn (pc := 92) (tgt := 446) (off := 354) d141_92 (by rw [zz]; decide) (by rw [zz]; decide) (by rw [zz]; rfl) (by decide) (wp_lv (lv' := [(0, .ref 280), (3, .int x3)]) ⟨rfl, rfl, trivial⟩ hD)
def r_readStatement_63 (x1 : Int32) (x3 : Int32) (y0 : Int32) (y1 : Int32) (s : St) : Option (St) := grd (ib y1 480) (si s 216 0 y1.toNatClampNeg y0) fun s8 => if x1 = 0 then (r_readStatement_81 x3 (-1 : Int32) x3 s8) else (bnd (s8.1 205 0 0) fun v69 => r_readStatement_81 x3 v69 x3 s8)
set_option maxRecDepth 100000 in
theorem t_r_readStatement_63 {r : St} : ∀ (x1 : Int32) (x3 : Int32) (y0 : Int32) (y1 : Int32) (s : St), r_readStatement_63 x1 x3 y0 y1 s = some r → Wp (rmd 5 0 0) 141 (zv (fun s1 => s1 = r)) 0 0 63 [(0, .ref 280), (1, .int x1), (3, .int x3)] [.int y0, .int y1, .ref 287] (mk s) TT := by
  intro x1 x3 y0 y1 s h
  unfold r_readStatement_63 at h
  refine z_iast (pc := 63) d141_63 shL287 (by decide) h (fun s8 h => ?_)
  refine x_aload_n (pc := 64) d141_64 rfl ?_
  refine y_getr (pc := 65) d141_65 fk9_49 shL280 rfl ?_
  refine x_iload_n (pc := 68) d141_68 rfl ?_
  refine x_iload_n (pc := 69) d141_69 rfl ?_
  refine z_if_eq (pc := 70) (tgt := 80) d141_70 (by decide) h (fun h => ?_) (fun h => ?_)
  · skip
    refine x_iconst (pc := 80) (v := (-1)) d141_80 (by decide) ?_
    refine wp_lv (lv' := [(0, .ref 280), (3, .int x3)]) ⟨rfl, rfl, trivial⟩ ?_
    exact t_r_readStatement_81 x3 (-1 : Int32) x3 s8 h
  · skip
    refine x_aload_n (pc := 73) d141_73 rfl ?_
    refine z_geti (pc := 74) d141_74 fk9_228 shL280 rfl h (fun v69 h => ?_)
    refine x_goto (pc := 77) (tgt := 81) d141_77 (by decide) ?_
    refine wp_lv (lv' := [(0, .ref 280), (3, .int x3)]) ⟨rfl, rfl, trivial⟩ ?_
    exact t_r_readStatement_81 x3 v69 x3 s8 h
def r_readStatement_38 (s : St) : Option (St) := cal (r_misplaced  s) fun s70 => some s70
set_option maxRecDepth 100000 in
theorem t_r_readStatement_38 {r : St} : ∀ (s : St), r_readStatement_38 s = some r → Wp (rmd 5 0 0) 141 (zv (fun s1 => s1 = r)) 0 0 38 [(0, .ref 280)] [] (mk s) TT := by
  intro s h
  unfold r_readStatement_38 at h
  refine x_aload_n (pc := 38) d141_38 rfl ?_
  refine z_cV0v (pc := 39) d141_39 ml9_259 mv135 shL280 (t_r_misplaced  s) (by decide) (Nat.le_of_ble_eq_true rfl) ⟨Nat.zero_le _, Nat.zero_le _⟩ h (fun s70 h => ?_)
  exact z_vret (pc := 42) d141_42 rfl h
def r_readStatement_24 (x1 : Int32) (x2 : Int32) (s : St) : Option (St) := bnd (s.1 227 0 0) fun v4 => grd (ib v4 12) (s.1 211 0 v4.toNatClampNeg) fun v5 => if v5 = (40 : Int32) then (r_readStatement_38 s) else (cal2 (r_newStatement  s) fun v7 s6 => if x1 = 0 then (r_readStatement_63 x1 v7 x2 v7 s6) else (r_readStatement_63 x1 v7 (30 : Int32) v7 s6))
set_option maxRecDepth 100000 in
theorem t_r_readStatement_24 {r : St} : ∀ (x1 : Int32) (x2 : Int32) (s : St), r_readStatement_24 x1 x2 s = some r → Wp (rmd 5 0 0) 141 (zv (fun s1 => s1 = r)) 0 0 24 [(0, .ref 280), (1, .int x1), (2, .int x2)] [] (mk s) TT := by
  intro x1 x2 s h
  unfold r_readStatement_24 at h
  refine x_aload_n (pc := 24) d141_24 rfl ?_
  refine y_getr (pc := 25) d141_25 fk9_17 shL280 rfl ?_
  refine x_aload_n (pc := 28) d141_28 rfl ?_
  refine z_geti (pc := 29) d141_29 fk9_265 shL280 rfl h (fun v4 h => ?_)
  refine z_iald (pc := 32) d141_32 shL282 (by decide) h (fun v5 h => ?_)
  refine x_bipush (pc := 33) (v := (40)) d141_33 (by decide) ?_
  refine z_icmp_ne (pc := 35) (tgt := 43) d141_35 (by decide) h (fun h => ?_) (fun h => ?_)
  · skip
    refine x_aload_n (pc := 43) d141_43 rfl ?_
    refine z_cV0i (pc := 44) d141_44 ml9_320 mv143 shL280 (t_r_newStatement  s) (by decide) (Nat.le_of_ble_eq_true rfl) ⟨Nat.zero_le _, Nat.zero_le _⟩ h (fun v7 s6 h => ?_)
    refine x_istore_n (pc := 47) d141_47 (by decide) ?_
    refine x_aload_n (pc := 48) d141_48 rfl ?_
    refine y_getr (pc := 49) d141_49 fk9_33 shL280 rfl ?_
    refine x_iload_n (pc := 52) d141_52 rfl ?_
    refine x_iload_n (pc := 53) d141_53 rfl ?_
    refine z_if_eq (pc := 54) (tgt := 62) d141_54 (by decide) h (fun h => ?_) (fun h => ?_)
    · skip
      refine x_iload_n (pc := 62) d141_62 rfl ?_
      refine wp_lv (lv' := [(0, .ref 280), (1, .int x1), (3, .int v7)]) ⟨rfl, rfl, rfl, trivial⟩ ?_
      exact t_r_readStatement_63 x1 v7 x2 v7 s6 h
    · skip
      refine x_bipush (pc := 57) (v := (30)) d141_57 (by decide) ?_
      refine x_goto (pc := 59) (tgt := 63) d141_59 (by decide) ?_
      refine wp_lv (lv' := [(0, .ref 280), (1, .int x1), (3, .int v7)]) ⟨rfl, rfl, rfl, trivial⟩ ?_
      exact t_r_readStatement_63 x1 v7 (30 : Int32) v7 s6 h
  · skip
    refine wp_lv (lv' := [(0, .ref 280)]) ⟨rfl, trivial⟩ ?_
    exact t_r_readStatement_38 s h
def r_readStatement (s : St) : Option (St) := cal2 (r_isLocal  s) fun v2 s1 => bnd (s1.1 203 0 0) fun v3 => if v2 = 0 then (cal2 (r_begins (v3 - (10 : Int32)) s1) fun v73 s72 => if v73 = 0 then (r_readStatement_38 s72) else (r_readStatement_24 v2 (v3 - (10 : Int32)) s72)) else (r_readStatement_24 v2 (v3 - (10 : Int32)) s1)
set_option maxRecDepth 100000 in
theorem t_r_readStatement (s : St) (r : St) (h : r_readStatement s = some r) : Rv 5 141 [.ref 280] s (fun s1 => s1 = r) := by
  refine ct_of (by decide +kernel) (Nat.le_of_ble_eq_true rfl) ?_
  show Wp _ _ _ _ _ _ [(0, .ref 280)] _ _ _
  unfold r_readStatement at h
  refine x_aload_n (pc := 0) d141_0 rfl ?_
  refine z_cV0i (pc := 1) d141_1 ml9_295 mv140 shL280 (t_r_isLocal  s) (by decide) (Nat.le_of_ble_eq_true rfl) ⟨Nat.zero_le _, Nat.zero_le _⟩ h (fun v2 s1 h => ?_)
  refine x_istore_n (pc := 4) d141_4 (by decide) ?_
  refine x_aload_n (pc := 5) d141_5 rfl ?_
  refine z_geti (pc := 6) d141_6 fk9_221 shL280 rfl h (fun v3 h => ?_)
  refine x_bipush (pc := 9) (v := (10)) d141_9 (by decide) ?_
  refine x_isub (pc := 11) d141_11 ?_
  refine x_istore_n (pc := 12) d141_12 (by decide) ?_
  refine x_iload_n (pc := 13) d141_13 rfl ?_
  refine z_if_ne (pc := 14) (tgt := 24) d141_14 (by decide) h (fun h => ?_) (fun h => ?_)
  · skip
    refine wp_lv (lv' := [(0, .ref 280), (1, .int v2), (2, .int (v3 - (10 : Int32)))]) ⟨rfl, rfl, rfl, trivial⟩ ?_
    exact t_r_readStatement_24 v2 (v3 - (10 : Int32)) s1 h
  · skip
    refine x_iload_n (pc := 17) d141_17 rfl ?_
    refine z_cS1i (pc := 18) d141_18 ml9_317 mv142 (t_r_begins (v3 - (10 : Int32)) s1) (by decide) (Nat.le_of_ble_eq_true rfl) ⟨Nat.zero_le _, Nat.zero_le _⟩ h (fun v73 s72 h => ?_)
    refine z_if_eq (pc := 21) (tgt := 38) d141_21 (by decide) h (fun h => ?_) (fun h => ?_)
    · skip
      refine wp_lv (lv' := [(0, .ref 280)]) ⟨rfl, trivial⟩ ?_
      exact t_r_readStatement_38 s72 h
    · skip
      refine wp_lv (lv' := [(0, .ref 280), (1, .int v2), (2, .int (v3 - (10 : Int32)))]) ⟨rfl, rfl, rfl, trivial⟩ ?_
      exact t_r_readStatement_24 v2 (v3 - (10 : Int32)) s72 h
def r_readText_84 (K40 : St → Option (St)) (s : St) : Option (St) := cal (r_misplaced  s) fun s12 => K40 s12
set_option maxRecDepth 100000 in
theorem t_r_readText_84 {r : St} (K40 : St → Option (St)) (hK40 : ∀ (s : St), K40 s = some r → Wp (rmd 6 0 0) 127 (zv (fun s1 => s1 = r)) 0 0 40 [(0, .ref 280)] [] (mk s) TT) : ∀ (s : St), r_readText_84 K40 s = some r → Wp (rmd 6 0 0) 127 (zv (fun s1 => s1 = r)) 0 0 84 [(0, .ref 280)] [] (mk s) TT := by
  intro s h
  unfold r_readText_84 at h
  refine x_aload_n (pc := 84) d127_84 rfl ?_
  refine z_cV0v (pc := 85) d127_85 ml9_259 mv135 shL280 (t_r_misplaced  s) (by decide) (Nat.le_of_ble_eq_true rfl) ⟨Nat.zero_le _, Nat.zero_le _⟩ h (fun s12 h => ?_)
  refine x_goto (pc := 88) (tgt := 40) d127_88 (by decide) ?_
  refine wp_lv (lv' := [(0, .ref 280)]) ⟨rfl, trivial⟩ ?_
  exact hK40 s12 h
def r_readText_91 (K40 : St → Option (St)) (s : St) : Option (St) := cal2 (r_isSign (125 : Int32) s) fun v17 s16 => if v17 = 0 then (cal (r_readStatement  s16) fun s18 => K40 s18) else (cal (r_closeBody  s16) fun s20 => K40 s20)
set_option maxRecDepth 100000 in
theorem t_r_readText_91 {r : St} (K40 : St → Option (St)) (hK40 : ∀ (s : St), K40 s = some r → Wp (rmd 6 0 0) 127 (zv (fun s1 => s1 = r)) 0 0 40 [(0, .ref 280)] [] (mk s) TT) : ∀ (s : St), r_readText_91 K40 s = some r → Wp (rmd 6 0 0) 127 (zv (fun s1 => s1 = r)) 0 0 91 [(0, .ref 280)] [] (mk s) TT := by
  intro s h
  unfold r_readText_91 at h
  refine x_aload_n (pc := 91) d127_91 rfl ?_
  refine x_bipush (pc := 92) (v := (125)) d127_92 (by decide) ?_
  refine z_cV1i (pc := 94) d127_94 ml9_256 mv134 shL280 (t_r_isSign (125 : Int32) s) (by decide) (Nat.le_of_ble_eq_true rfl) ⟨Nat.zero_le _, Nat.zero_le _⟩ h (fun v17 s16 h => ?_)
  refine z_if_eq (pc := 97) (tgt := 107) d127_97 (by decide) h (fun h => ?_) (fun h => ?_)
  · skip
    refine x_aload_n (pc := 107) d127_107 rfl ?_
    refine z_cV0v (pc := 108) d127_108 ml9_304 mv141 shL280 (t_r_readStatement  s16) (by decide) (Nat.le_of_ble_eq_true rfl) ⟨Nat.zero_le _, Nat.zero_le _⟩ h (fun s18 h => ?_)
    refine x_goto (pc := 111) (tgt := 40) d127_111 (by decide) ?_
    refine wp_lv (lv' := [(0, .ref 280)]) ⟨rfl, trivial⟩ ?_
    exact hK40 s18 h
  · skip
    refine x_aload_n (pc := 100) d127_100 rfl ?_
    refine z_cV0v (pc := 101) d127_101 ml9_301 mv136 shL280 (t_r_closeBody  s16) (by decide) (Nat.le_of_ble_eq_true rfl) ⟨Nat.zero_le _, Nat.zero_le _⟩ h (fun s20 h => ?_)
    refine x_goto (pc := 104) (tgt := 40) d127_104 (by decide) ?_
    refine wp_lv (lv' := [(0, .ref 280)]) ⟨rfl, trivial⟩ ?_
    exact hK40 s20 h
def r_readText_61 (K40 : St → Option (St)) (s : St) : Option (St) := bnd (s.1 203 0 0) fun v11 => if v11 = 0 then (r_readText_84 K40 s) else (cal2 (r_isSign (125 : Int32) s) fun v15 s14 => if v15 = 0 then (r_readText_91 K40 s14) else (bnd (s14.1 236 0 0) fun v22 => if v22 = 0 then (r_readText_84 K40 s14) else (r_readText_91 K40 s14)))
set_option maxRecDepth 100000 in
theorem t_r_readText_61 {r : St} (K40 : St → Option (St)) (hK40 : ∀ (s : St), K40 s = some r → Wp (rmd 6 0 0) 127 (zv (fun s1 => s1 = r)) 0 0 40 [(0, .ref 280)] [] (mk s) TT) : ∀ (s : St), r_readText_61 K40 s = some r → Wp (rmd 6 0 0) 127 (zv (fun s1 => s1 = r)) 0 0 61 [(0, .ref 280)] [] (mk s) TT := by
  intro s h
  unfold r_readText_61 at h
  refine x_aload_n (pc := 61) d127_61 rfl ?_
  refine z_geti (pc := 62) d127_62 fk9_221 shL280 rfl h (fun v11 h => ?_)
  refine z_if_eq (pc := 65) (tgt := 84) d127_65 (by decide) h (fun h => ?_) (fun h => ?_)
  · skip
    refine wp_lv (lv' := [(0, .ref 280)]) ⟨rfl, trivial⟩ ?_
    exact t_r_readText_84 K40 hK40 s h
  · skip
    refine x_aload_n (pc := 68) d127_68 rfl ?_
    refine x_bipush (pc := 69) (v := (125)) d127_69 (by decide) ?_
    refine z_cV1i (pc := 71) d127_71 ml9_256 mv134 shL280 (t_r_isSign (125 : Int32) s) (by decide) (Nat.le_of_ble_eq_true rfl) ⟨Nat.zero_le _, Nat.zero_le _⟩ h (fun v15 s14 h => ?_)
    refine z_if_eq (pc := 74) (tgt := 91) d127_74 (by decide) h (fun h => ?_) (fun h => ?_)
    · skip
      refine wp_lv (lv' := [(0, .ref 280)]) ⟨rfl, trivial⟩ ?_
      exact t_r_readText_91 K40 hK40 s14 h
    · skip
      refine x_aload_n (pc := 77) d127_77 rfl ?_
      refine z_geti (pc := 78) d127_78 fk9_298 shL280 rfl h (fun v22 h => ?_)
      refine z_if_ne (pc := 81) (tgt := 91) d127_81 (by decide) h (fun h => ?_) (fun h => ?_)
      · skip
        refine wp_lv (lv' := [(0, .ref 280)]) ⟨rfl, trivial⟩ ?_
        exact t_r_readText_91 K40 hK40 s14 h
      · skip
        refine wp_lv (lv' := [(0, .ref 280)]) ⟨rfl, trivial⟩ ?_
        exact t_r_readText_84 K40 hK40 s14 h
def r_readText_40 : Nat → St → Option (St)
  | 0, _ => none
  | n + 1, s => bnd (s.1 208 0 0) fun v9 => if v9 = 0 then (bnd (s.1 203 0 0) fun v10 => if v10 = 0 then (bnd (s.1 236 0 0) fun v23 => if v23 = 0 then (some s) else (r_readText_61 (r_readText_40 n) s)) else (r_readText_61 (r_readText_40 n) s)) else (some s)
set_option maxRecDepth 100000 in
theorem t_r_readText_40 {r : St} : ∀ (n : Nat) (s : St), r_readText_40 n s = some r → Wp (rmd 6 0 0) 127 (zv (fun s1 => s1 = r)) 0 0 40 [(0, .ref 280)] [] (mk s) TT := by
  intro n
  induction n with
  | zero =>
    intro s h
    rw [r_readText_40.eq_1] at h
    cases h
  | succ n ih =>
    intro s h
    rw [r_readText_40.eq_2] at h
    refine x_aload_n (pc := 40) d127_40 rfl ?_
    refine z_geti (pc := 41) d127_41 fk9_252 shL280 rfl h (fun v9 h => ?_)
    refine z_if_ne (pc := 44) (tgt := 114) d127_44 (by decide) h (fun h => ?_) (fun h => ?_)
    · skip
      exact z_vret (pc := 114) d127_114 rfl h
    · skip
      refine x_aload_n (pc := 47) d127_47 rfl ?_
      refine z_geti (pc := 48) d127_48 fk9_221 shL280 rfl h (fun v10 h => ?_)
      refine z_if_ne (pc := 51) (tgt := 61) d127_51 (by decide) h (fun h => ?_) (fun h => ?_)
      · skip
        refine wp_lv (lv' := [(0, .ref 280)]) ⟨rfl, trivial⟩ ?_
        exact t_r_readText_61 (r_readText_40 n) ih s h
      · skip
        refine x_aload_n (pc := 54) d127_54 rfl ?_
        refine z_geti (pc := 55) d127_55 fk9_298 shL280 rfl h (fun v23 h => ?_)
        refine z_if_eq (pc := 58) (tgt := 114) d127_58 (by decide) h (fun h => ?_) (fun h => ?_)
        · skip
          exact z_vret (pc := 114) d127_114 rfl h
        · skip
          refine wp_lv (lv' := [(0, .ref 280)]) ⟨rfl, trivial⟩ ?_
          exact t_r_readText_61 (r_readText_40 n) ih s h
def r_readText (s : St) : Option (St) := bnd (si s 236 0 0 (0 : Int32)) fun s1 => grd (ib (0 : Int32) 10) (si s1 233 0 (0 : Int32).toNatClampNeg (-1 : Int32)) fun s2 => grd (ib (0 : Int32) 10) (si s2 234 0 (0 : Int32).toNatClampNeg (0 : Int32)) fun s3 => grd (ib (0 : Int32) 10) (si s3 235 0 (0 : Int32).toNatClampNeg (-1 : Int32)) fun s4 => bnd (s4.1 227 0 0) fun v5 => grd (ib v5 12) (si s4 214 0 v5.toNatClampNeg (-1 : Int32)) fun s6 => cal (r_next  s6) fun s7 => r_readText_40 900 s7
set_option maxRecDepth 100000 in
theorem t_r_readText (s : St) (r : St) (h : r_readText s = some r) : Rv 6 127 [.ref 280] s (fun s1 => s1 = r) := by
  refine ct_of (by decide +kernel) (Nat.le_of_ble_eq_true rfl) ?_
  show Wp _ _ _ _ _ _ [(0, .ref 280)] _ _ _
  unfold r_readText at h
  refine x_aload_n (pc := 0) d127_0 rfl ?_
  refine x_iconst (pc := 1) (v := (0)) d127_1 (by decide) ?_
  refine z_puti (pc := 2) d127_2 fk9_298 shL280 rfl rfl ⟨rfl, rfl⟩ h (fun s1 h => ?_)
  refine x_aload_n (pc := 5) d127_5 rfl ?_
  refine y_getr (pc := 6) d127_6 fk9_74 shL280 rfl ?_
  refine x_iconst (pc := 9) (v := (0)) d127_9 (by decide) ?_
  refine x_iconst (pc := 10) (v := (-1)) d127_10 (by decide) ?_
  refine z_iast (pc := 11) d127_11 shL300 (by decide) h (fun s2 h => ?_)
  refine x_aload_n (pc := 12) d127_12 rfl ?_
  refine y_getr (pc := 13) d127_13 fk9_77 shL280 rfl ?_
  refine x_iconst (pc := 16) (v := (0)) d127_16 (by decide) ?_
  refine x_iconst (pc := 17) (v := (0)) d127_17 (by decide) ?_
  refine z_iast (pc := 18) d127_18 shL301 (by decide) h (fun s3 h => ?_)
  refine x_aload_n (pc := 19) d127_19 rfl ?_
  refine y_getr (pc := 20) d127_20 fk9_80 shL280 rfl ?_
  refine x_iconst (pc := 23) (v := (0)) d127_23 (by decide) ?_
  refine x_iconst (pc := 24) (v := (-1)) d127_24 (by decide) ?_
  refine z_iast (pc := 25) d127_25 shL302 (by decide) h (fun s4 h => ?_)
  refine x_aload_n (pc := 26) d127_26 rfl ?_
  refine y_getr (pc := 27) d127_27 fk9_27 shL280 rfl ?_
  refine x_aload_n (pc := 30) d127_30 rfl ?_
  refine z_geti (pc := 31) d127_31 fk9_265 shL280 rfl h (fun v5 h => ?_)
  refine x_iconst (pc := 34) (v := (-1)) d127_34 (by decide) ?_
  refine z_iast (pc := 35) d127_35 shL285 (by decide) h (fun s6 h => ?_)
  refine x_aload_n (pc := 36) d127_36 rfl ?_
  refine z_cV0v (pc := 37) d127_37 ml9_262 mv128 shL280 (t_r_next  s6) (by decide) (Nat.le_of_ble_eq_true rfl) ⟨Nat.zero_le _, Nat.zero_le _⟩ h (fun s7 h => ?_)
  refine wp_lv (lv' := [(0, .ref 280)]) ⟨rfl, trivial⟩ ?_
  exact t_r_readText_40 900 s7 h
def r_text (s : St) : Option (Int32 × St) := bnd (s.1 210 0 0) fun v1 => if v1 = (12 : Int32) then (some ((-1 : Int32), s)) else (bnd (si s 209 0 0 (-1 : Int32)) fun s2 => bnd (s2.1 210 0 0) fun v3 => bnd (si s2 227 0 0 v3) fun s4 => bnd (s4.1 227 0 0) fun v5 => grd (ib v5 12) (si s4 211 0 v5.toNatClampNeg (0 : Int32)) fun s6 => bnd (s6.1 227 0 0) fun v7 => grd (ib v7 12) (si s6 212 0 v7.toNatClampNeg (0 : Int32)) fun s8 => bnd (s8.1 227 0 0) fun v9 => grd (ib v9 12) (si s8 213 0 v9.toNatClampNeg (0 : Int32)) fun s10 => bnd (s10.1 227 0 0) fun v11 => grd (ib v11 12) (si s10 215 0 v11.toNatClampNeg (0 : Int32)) fun s12 => bnd (si s12 202 0 0 (0 : Int32)) fun s13 => bnd (si s13 208 0 0 (0 : Int32)) fun s14 => cal (r_readText  s14) fun s15 => bnd (si s15 201 0 0 (0 : Int32)) fun s17 => bnd (s17.1 208 0 0) fun v18 => if v18 = 0 then (bnd (s17.1 210 0 0) fun v19 => bnd (si s17 210 0 0 (v19 + (1 : Int32))) fun s20 => bnd (s20.1 210 0 0) fun v21 => some ((v21 - (1 : Int32)), s20)) else (some ((-2 : Int32), s17)))
set_option maxRecDepth 100000 in
theorem t_r_text (s : St) (r : Int32 × St) (h : r_text s = some r) : Ri 7 126 [.ref 280] s (fun v s1 => (v, s1) = r) := by
  refine ct_of (by decide +kernel) (Nat.le_of_ble_eq_true rfl) ?_
  show Wp _ _ _ _ _ _ [(0, .ref 280)] _ _ _
  unfold r_text at h
  refine x_aload_n (pc := 0) d126_0 rfl ?_
  refine z_geti (pc := 1) d126_1 fk9_344 shL280 rfl h (fun v1 h => ?_)
  refine x_bipush (pc := 4) (v := (12)) d126_4 (by decide) ?_
  refine z_icmp_ne (pc := 6) (tgt := 11) d126_6 (by decide) h (fun h => ?_) (fun h => ?_)
  · skip
    refine x_aload_n (pc := 11) d126_11 rfl ?_
    refine x_iconst (pc := 12) (v := (-1)) d126_12 (by decide) ?_
    refine z_puti (pc := 13) d126_13 fk9_13 shL280 rfl rfl ⟨rfl, rfl⟩ h (fun s2 h => ?_)
    refine x_aload_n (pc := 16) d126_16 rfl ?_
    refine x_aload_n (pc := 17) d126_17 rfl ?_
    refine z_geti (pc := 18) d126_18 fk9_344 shL280 rfl h (fun v3 h => ?_)
    refine z_puti (pc := 21) d126_21 fk9_265 shL280 rfl rfl ⟨rfl, rfl⟩ h (fun s4 h => ?_)
    refine x_aload_n (pc := 24) d126_24 rfl ?_
    refine y_getr (pc := 25) d126_25 fk9_17 shL280 rfl ?_
    refine x_aload_n (pc := 28) d126_28 rfl ?_
    refine z_geti (pc := 29) d126_29 fk9_265 shL280 rfl h (fun v5 h => ?_)
    refine x_iconst (pc := 32) (v := (0)) d126_32 (by decide) ?_
    refine z_iast (pc := 33) d126_33 shL282 (by decide) h (fun s6 h => ?_)
    refine x_aload_n (pc := 34) d126_34 rfl ?_
    refine y_getr (pc := 35) d126_35 fk9_21 shL280 rfl ?_
    refine x_aload_n (pc := 38) d126_38 rfl ?_
    refine z_geti (pc := 39) d126_39 fk9_265 shL280 rfl h (fun v7 h => ?_)
    refine x_iconst (pc := 42) (v := (0)) d126_42 (by decide) ?_
    refine z_iast (pc := 43) d126_43 shL283 (by decide) h (fun s8 h => ?_)
    refine x_aload_n (pc := 44) d126_44 rfl ?_
    refine y_getr (pc := 45) d126_45 fk9_24 shL280 rfl ?_
    refine x_aload_n (pc := 48) d126_48 rfl ?_
    refine z_geti (pc := 49) d126_49 fk9_265 shL280 rfl h (fun v9 h => ?_)
    refine x_iconst (pc := 52) (v := (0)) d126_52 (by decide) ?_
    refine z_iast (pc := 53) d126_53 shL284 (by decide) h (fun s10 h => ?_)
    refine x_aload_n (pc := 54) d126_54 rfl ?_
    refine y_getr (pc := 55) d126_55 fk9_30 shL280 rfl ?_
    refine x_aload_n (pc := 58) d126_58 rfl ?_
    refine z_geti (pc := 59) d126_59 fk9_265 shL280 rfl h (fun v11 h => ?_)
    refine x_iconst (pc := 62) (v := (0)) d126_62 (by decide) ?_
    refine z_iast (pc := 63) d126_63 shL286 (by decide) h (fun s12 h => ?_)
    refine x_aload_n (pc := 64) d126_64 rfl ?_
    refine x_iconst (pc := 65) (v := (0)) d126_65 (by decide) ?_
    refine z_puti (pc := 66) d126_66 fk9_211 shL280 rfl rfl ⟨rfl, rfl⟩ h (fun s13 h => ?_)
    refine x_aload_n (pc := 69) d126_69 rfl ?_
    refine x_iconst (pc := 70) (v := (0)) d126_70 (by decide) ?_
    refine z_puti (pc := 71) d126_71 fk9_252 shL280 rfl rfl ⟨rfl, rfl⟩ h (fun s14 h => ?_)
    refine x_aload_n (pc := 74) d126_74 rfl ?_
    refine z_cV0v (pc := 75) d126_75 ml9_347 mv127 shL280 (t_r_readText  s14) (by decide) (Nat.le_of_ble_eq_true rfl) ⟨Nat.zero_le _, Nat.zero_le _⟩ h (fun s15 h => ?_)
    refine x_aload_n (pc := 78) d126_78 rfl ?_
    refine x_iconst (pc := 79) (v := (0)) d126_79 (by decide) ?_
    refine z_puti (pc := 80) d126_80 fk9_170 shL280 rfl rfl ⟨rfl, rfl⟩ h (fun s17 h => ?_)
    refine x_aload_n (pc := 83) d126_83 rfl ?_
    refine z_geti (pc := 84) d126_84 fk9_252 shL280 rfl h (fun v18 h => ?_)
    refine z_if_eq (pc := 87) (tgt := 93) d126_87 (by decide) h (fun h => ?_) (fun h => ?_)
    · skip
      refine x_aload_n (pc := 93) d126_93 rfl ?_
      refine x_dup (pc := 94) d126_94 rfl ?_
      refine z_geti (pc := 95) d126_95 fk9_344 shL280 rfl h (fun v19 h => ?_)
      refine x_iconst (pc := 98) (v := (1)) d126_98 (by decide) ?_
      refine x_iadd (pc := 99) d126_99 ?_
      refine z_puti (pc := 100) d126_100 fk9_344 shL280 rfl rfl ⟨rfl, rfl⟩ h (fun s20 h => ?_)
      refine x_aload_n (pc := 103) d126_103 rfl ?_
      refine z_geti (pc := 104) d126_104 fk9_344 shL280 rfl h (fun v21 h => ?_)
      refine x_iconst (pc := 107) (v := (1)) d126_107 (by decide) ?_
      refine x_isub (pc := 108) d126_108 ?_
      exact z_iret (pc := 109) d126_109 rfl h
    · skip
      refine x_bipush (pc := 90) (v := (-2)) d126_90 (by decide) ?_
      exact z_iret (pc := 92) d126_92 rfl h
  · skip
    refine x_iconst (pc := 9) (v := (-1)) d126_9 (by decide) ?_
    exact z_iret (pc := 10) d126_10 rfl h
