/-! a STEP, a TURN -/
def sd0 (s : St) (i a : Nat) : St := si s 44 i 0 (s.1 70 (pN s i) a)
def sd3 (s : St) (i a : Nat) : St := appS (wS (sd0 s i a) i (pN s i) a) (nuN s i a) ((sd0 s i a).1 32 i 0) 0 (wV (sd0 s i a) i (pN s i) a)
def sdS (s : St) (i a : Nat) : St := if s.1 70 (pN s i) a = s.1 32 i 0 then tvS s i a else if wtV s i a = 0 then behS (si s 44 i 0 (-1)) i else if s.1 44 i 0 = -1 then sd3 s i a else s
def sdV (s : St) (i a : Nat) : Int32 := if s.1 70 (pN s i) a = s.1 32 i 0 then 5 else if wtV s i a = 0 then 0 else 4
theorem GV_sd0 {s : St} {i a : Nat} (h : GV s) (ho : okN 6 (s.1 70 (pN s i) a)) : GV (sd0 s i a) := GV_si h (Or.inr ho)
theorem GV_44 {s : St} {i : Nat} (h : GV s) : GV (si s 44 i 0 (-1)) := GV_si h (Or.inl rfl)
set_option maxRecDepth 100000 in
theorem c_sendValue (i : Nat) (hi : i < 7) (s : St) (a : Nat) (hG : GV s) (hS : SW s (pN s i) a) (hk : s.1 68 (pN s i) a = 14) : Ri 3 92 [.ref 143, .ref (FA i), .int (nI a)] s (fun v s1 => v = sdV s i a ∧ s1 = sdS s i a) := by
  refine ct_of (by decide +kernel) (Nat.le_of_ble_eq_true rfl) ?_
  show Wp _ _ _ _ _ _ [(0, .ref 143), (1, .ref (FA i)), (2, .int (nI a))] _ _ _
  refine x_aload_n (pc := 0) d92_0 rfl ?_
  refine y_getp (pc := 1) (p := pN s i) d92_1 fk7_130 (shF i hi) rfl ((hG.P i).1) ((hG.P i).2) ?_
  refine y_getr (pc := 4) d92_4 fk7_175 (shP (pN s i) ((hG.P i).2)) rfl ?_
  refine x_iload_n (pc := 7) d92_7 rfl ?_
  refine y_ialdN (pc := 8) (q := a) d92_8 (shP3 (pN s i) ((hG.P i).2)) (hS.1) (by decide) (rfl) ?_
  refine x_istore_n (pc := 9) d92_9 (by decide) ?_
  refine x_iload_n (pc := 10) d92_10 rfl ?_
  refine x_aload_n (pc := 11) d92_11 rfl ?_
  refine y_geti (pc := 12) d92_12 fk7_116 (shF i hi) rfl ?_
  refine x_icmp_ne (pc := 15) (tgt := 24) d92_15 (by decide) (fun c15 => ?_) (fun c15 => ?_)
  · skip
    refine x_aload_n (pc := 24) d92_24 rfl ?_
    refine x_aload_n (pc := 25) d92_25 rfl ?_
    refine x_iload_n (pc := 26) d92_26 rfl ?_
    refine y_cV2i (pc := 27) d92_27 ml7_171 mv89 shL143 (c_waits i hi s a hG hS) (by decide) (Nat.le_of_ble_eq_true rfl) ⟨Nat.zero_le _, Nat.zero_le _⟩ (fun v s hq => ?_)
    obtain ⟨rfl, rfl⟩ := hq
    refine x_if_ne (pc := 30) (tgt := 43) d92_30 (by decide) (fun c30 => ?_) (fun c30 => ?_)
    · skip
      refine x_aload_n (pc := 43) d92_43 rfl ?_
      refine y_geti (pc := 44) d92_44 fk7_123 (shF i hi) rfl ?_
      refine x_iconst (pc := 47) (v := (-1)) d92_47 (by decide) ?_
      refine x_icmp_ne (pc := 48) (tgt := 85) d92_48 (by decide) (fun c48 => ?_) (fun c48 => ?_)
      · skip
        refine x_iconst (pc := 85) (v := (4)) d92_85 (by decide) ?_
        exact y_iret (pc := 86) d92_86 rfl (⟨by unfold sdV; rw [if_neg c15, if_neg c30], by unfold sdS; rw [if_neg c15, if_neg c30, if_neg c48]; try rfl⟩)
      · skip
        refine x_aload_n (pc := 51) d92_51 rfl ?_
        refine x_iload_n (pc := 52) d92_52 rfl ?_
        refine y_puti (pc := 53) d92_53 fk7_123 (shF i hi) rfl rfl ⟨rfl, rfl⟩ ?_
        refine x_aload_n (pc := 56) d92_56 rfl ?_
        refine y_getr (pc := 57) d92_57 fk7_36 shL143 rfl ?_
        refine x_iload_n (pc := 60) d92_60 rfl ?_
        refine y_aaldFN (pc := 61) (q := nuN s i a) d92_61 ((okN_c (by decide) (hS.2.2.2.1 hk)).2) ((okN_c (by decide) (hS.2.2.2.1 hk)).1) ?_
        refine y_getr (pc := 62) d92_62 fk7_75 (shF (nuN s i a) ((Nat.lt_trans (okN_c (by decide) (hS.2.2.2.1 hk)).2 (by decide)))) rfl ?_
        refine x_aload_n (pc := 65) d92_65 rfl ?_
        refine y_geti (pc := 66) d92_66 fk7_116 (shF i hi) rfl ?_
        refine x_iconst (pc := 69) (v := (0)) d92_69 (by decide) ?_
        refine x_aload_n (pc := 70) d92_70 rfl ?_
        refine y_getp (pc := 71) (p := pN s i) d92_71 fk7_130 (shF i hi) rfl (by rw [si_id (by decide)]; exact (hG.P i).1) ((hG.P i).2) ?_
        refine x_iload_n (pc := 74) d92_74 rfl ?_
        refine x_aload_n (pc := 75) d92_75 rfl ?_
        refine y_getr (pc := 76) d92_76 fk7_137 (shF i hi) rfl ?_
        refine y_cV2j (pc := 79) d92_79 ml7_143 mv85 (shP (pN s i) ((hG.P i).2)) (c_work (pN s i) (hG.P i).2 i hi (sd0 s i a) a hS.1 (XW_2 (si_id (by decide)) (si_id (by decide)) (si_id (by decide)) (si_id (by decide)) (hS.2.2.2.2 (by simp [hk])))) (by decide) (Nat.le_of_ble_eq_true rfl) ⟨Nat.zero_le _, Nat.zero_le _⟩ (fun v s hq => ?_)
        obtain ⟨rfl, rfl⟩ := hq
        refine y_cV3v (pc := 82) d92_82 ml7_178 mv67 (shR (nuN s i a) ((Nat.lt_trans (okN_c (by decide) (hS.2.2.2.1 hk)).2 (by decide)))) (c_append (nuN s i a) (Nat.lt_trans (okN_c (by decide) (hS.2.2.2.1 hk)).2 (by decide)) _ _ _ _ (by have h9 := (GV_w (GV_sd0 hG (hS.2.2.2.1 hk)) : GV (wS (sd0 s i a) i (pN s i) a)).C (nuN s i a); rw [h9.1]; exact nI_pos (by have := h9.2; omega))) (by decide) (Nat.le_of_ble_eq_true rfl) ⟨Nat.zero_le _, Nat.zero_le _⟩ (fun s hq => ?_)
        subst hq
        refine x_iconst (pc := 85) (v := (4)) d92_85 (by decide) ?_
        exact y_iret (pc := 86) d92_86 rfl (⟨by unfold sdV; rw [if_neg c15, if_neg c30], by unfold sdS; rw [if_neg c15, if_neg c30, if_pos c48]; try rfl⟩)
    · skip
      refine x_aload_n (pc := 33) d92_33 rfl ?_
      refine x_iconst (pc := 34) (v := (-1)) d92_34 (by decide) ?_
      refine y_puti (pc := 35) d92_35 fk7_123 (shF i hi) rfl rfl ⟨rfl, rfl⟩ ?_
      refine x_aload_n (pc := 38) d92_38 rfl ?_
      refine y_cV0i (pc := 39) d92_39 ml7_147 mv79 (shF i hi) (c_goBehind i hi _ ((GV_44 hG).D i) ((GV_44 hG).P i) ((GV_44 hG).A i _)) (by decide) (Nat.le_of_ble_eq_true rfl) ⟨Nat.zero_le _, Nat.zero_le _⟩ (fun v s hq => ?_)
      obtain ⟨rfl, rfl⟩ := hq
      exact y_iret (pc := 42) d92_42 rfl (⟨by unfold sdV; rw [if_neg c15, if_pos c30], by unfold sdS; rw [if_neg c15, if_pos c30]⟩)
  · skip
    refine x_aload_n (pc := 18) d92_18 rfl ?_
    refine x_iload_n (pc := 19) d92_19 rfl ?_
    refine y_cS2i (pc := 20) d92_20 ml7_160 mv91 (c_throwValue i hi s a hS.1 hG (hS.2.2.2.2 (by simp [hk]))) (by decide) (Nat.le_of_ble_eq_true rfl) ⟨Nat.zero_le _, Nat.zero_le _⟩ (fun v s hq => ?_)
    obtain ⟨rfl, rfl⟩ := hq
    exact y_iret (pc := 23) d92_23 rfl (⟨by unfold sdV; rw [if_pos c15], by unfold sdS; rw [if_pos c15]⟩)
def pfS (s : St) (i a : Nat) : St :=
  if s.1 68 (pN s i) a = 2 then behS (sl (wS s i (pN s i) a) 34 i (leN s i a) (wV s i (pN s i) a)) i
  else if s.1 68 (pN s i) a = 5 then behS (tellS (wS s i (pN s i) a) 0 0 (s.1 32 i 0) (wV s i (pN s i) a)) i
  else if s.1 68 (pN s i) a = 6 then (if wV s i (pN s i) a = 0 then inS (wS s i (pN s i) a) i 1 ((wS s i (pN s i) a).1 39 i 0) else inS (wS s i (pN s i) a) i 0 ((wS s i (pN s i) a).1 39 i 0))
  else if s.1 68 (pN s i) a = 8 then (if wV s i (pN s i) a = 0 then behS (wS s i (pN s i) a) i else inS (wS s i (pN s i) a) i 0 ((wS s i (pN s i) a).1 39 i 0))
  else if s.1 68 (pN s i) a = 9 then tbS s i a else if s.1 68 (pN s i) a = 11 then pbS s i a else if s.1 68 (pN s i) a = 13 then tvS s i a else if s.1 68 (pN s i) a = 14 then sdS s i a
  else if s.1 68 (pN s i) a = 15 then inS s i 0 (mx (s.1 39 i 0) 1) else if s.1 68 (pN s i) a = 16 then inS s i 0 2 else if s.1 68 (pN s i) a = 17 then inS s i 0 0 else if s.1 68 (pN s i) a = 20 then inS s i 0 (mx (s.1 39 i 0) 1)
  else inS s i 0 (s.1 39 i 0)
def pfV (s : St) (i a : Nat) : Int32 := if s.1 68 (pN s i) a = 9 then tbV s i a else if s.1 68 (pN s i) a = 11 then tbV s i a else if s.1 68 (pN s i) a = 13 then 5 else if s.1 68 (pN s i) a = 14 then sdV s i a else 0
set_option maxRecDepth 100000 in
theorem c_perform (i : Nat) (hi : i < 7) (s : St) (a : Nat) (hG : GV s) (hS : SW s (pN s i) a) : Ri 4 84 [.ref 143, .ref (FA i), .int (nI a)] s (fun v s1 => v = pfV s i a ∧ s1 = pfS s i a) := by
  refine ct_of (by decide +kernel) (Nat.le_of_ble_eq_true rfl) ?_
  show Wp _ _ _ _ _ _ [(0, .ref 143), (1, .ref (FA i)), (2, .int (nI a))] _ _ _
  refine x_aload_n (pc := 0) d84_0 rfl ?_
  refine y_getp (pc := 1) (p := pN s i) d84_1 fk7_130 (shF i hi) rfl ((hG.P i).1) ((hG.P i).2) ?_
  refine x_astore_n (pc := 4) d84_4 (by decide) ?_
  refine x_aload_n (pc := 5) d84_5 rfl ?_
  refine y_getr (pc := 6) d84_6 fk7_134 (shP (pN s i) ((hG.P i).2)) rfl ?_
  refine x_iload_n (pc := 9) d84_9 rfl ?_
  refine y_ialdN (pc := 10) (q := a) d84_10 (shP1 (pN s i) ((hG.P i).2)) (hS.1) (by decide) (rfl) ?_
  by_cases hk2 : s.1 68 (pN s i) a = 2
  · refine x_tableIn (pc := 11) (tgt := 100) (off := 89) d84_11 (by rw [hk2]; decide) (by rw [hk2]; decide) (by rw [hk2]; decide) (by decide) ?_
    refine x_aload_n (pc := 100) d84_100 rfl ?_
    refine y_getr (pc := 101) d84_101 fk7_137 (shF i hi) rfl ?_
    refine x_aload_n (pc := 104) d84_104 rfl ?_
    refine y_getr (pc := 105) d84_105 fk7_140 (shP (pN s i) ((hG.P i).2)) rfl ?_
    refine x_iload_n (pc := 108) d84_108 rfl ?_
    refine y_ialdN (pc := 109) (q := a) d84_109 (shP2 (pN s i) ((hG.P i).2)) (hS.1) (by decide) (rfl) ?_
    refine x_aload_n (pc := 110) d84_110 rfl ?_
    refine x_iload_n (pc := 111) d84_111 rfl ?_
    refine x_aload_n (pc := 112) d84_112 rfl ?_
    refine y_getr (pc := 113) d84_113 fk7_137 (shF i hi) rfl ?_
    refine y_cV2j (pc := 116) d84_116 ml7_143 mv85 (shP (pN s i) ((hG.P i).2)) (c_work (pN s i) (hG.P i).2 i hi s a hS.1 (hS.2.2.2.2 (by simp [hk2]))) (by decide) (Nat.le_of_ble_eq_true rfl) ⟨Nat.zero_le _, Nat.zero_le _⟩ (fun v s hq => ?_)
    obtain ⟨rfl, rfl⟩ := hq
    refine y_lastN (pc := 119) (q := leN s i a) d84_119 (shR4 i hi) ((okN_c (by decide) (hS.2.1 (Or.inl hk2))).2) (by decide) ((okN_c (by decide) (hS.2.1 (Or.inl hk2))).1) ?_
    refine x_aload_n (pc := 120) d84_120 rfl ?_
    refine y_cV0i (pc := 121) d84_121 ml7_147 mv79 (shF i hi) (c_goBehind i hi _ ((GV_sl (GV_w hG) : GV (sl (wS s i (pN s i) a) 34 i (leN s i a) (wV s i (pN s i) a))).D i) ((GV_sl (GV_w hG) : GV (sl (wS s i (pN s i) a) 34 i (leN s i a) (wV s i (pN s i) a))).P i) ((GV_sl (GV_w hG) : GV (sl (wS s i (pN s i) a) 34 i (leN s i a) (wV s i (pN s i) a))).A i _)) (by decide) (Nat.le_of_ble_eq_true rfl) ⟨Nat.zero_le _, Nat.zero_le _⟩ (fun v s hq => ?_)
    obtain ⟨rfl, rfl⟩ := hq
    exact y_iret (pc := 124) d84_124 rfl (⟨by unfold pfV; rw [if_neg (by rw [hk2]; decide), if_neg (by rw [hk2]; decide), if_neg (by rw [hk2]; decide), if_neg (by rw [hk2]; decide)], by unfold pfS; rw [if_pos hk2]⟩)
  by_cases hk5 : s.1 68 (pN s i) a = 5
  · refine x_tableIn (pc := 11) (tgt := 125) (off := 114) d84_11 (by rw [hk5]; decide) (by rw [hk5]; decide) (by rw [hk5]; decide) (by decide) ?_
    refine x_aload_n (pc := 125) d84_125 rfl ?_
    refine y_getr (pc := 126) d84_126 fk7_32 shL143 rfl ?_
    refine x_iconst (pc := 129) (v := (0)) d84_129 (by decide) ?_
    refine x_aload_n (pc := 130) d84_130 rfl ?_
    refine y_geti (pc := 131) d84_131 fk7_116 (shF i hi) rfl ?_
    refine x_aload_n (pc := 134) d84_134 rfl ?_
    refine x_iload_n (pc := 135) d84_135 rfl ?_
    refine x_aload_n (pc := 136) d84_136 rfl ?_
    refine y_getr (pc := 137) d84_137 fk7_137 (shF i hi) rfl ?_
    refine y_cV2j (pc := 140) d84_140 ml7_143 mv85 (shP (pN s i) ((hG.P i).2)) (c_work (pN s i) (hG.P i).2 i hi s a hS.1 (hS.2.2.2.2 (by simp [hk5]))) (by decide) (Nat.le_of_ble_eq_true rfl) ⟨Nat.zero_le _, Nat.zero_le _⟩ (fun v s hq => ?_)
    obtain ⟨rfl, rfl⟩ := hq
    refine y_cV3v (pc := 143) d84_143 ml7_119 mv73 (shC 0 (by decide)) (c_tell 0 (by decide) _ _ _ _ ((GV_w hG : GV (wS s i (pN s i) a)).H 0)) (by decide) (Nat.le_of_ble_eq_true rfl) ⟨Nat.zero_le _, Nat.zero_le _⟩ (fun s hq => ?_)
    subst hq
    refine x_aload_n (pc := 146) d84_146 rfl ?_
    refine y_cV0i (pc := 147) d84_147 ml7_147 mv79 (shF i hi) (c_goBehind i hi _ ((GV_tell (GV_w hG) : GV (tellS (wS s i (pN s i) a) 0 0 (s.1 32 i 0) (wV s i (pN s i) a))).D i) ((GV_tell (GV_w hG) : GV (tellS (wS s i (pN s i) a) 0 0 (s.1 32 i 0) (wV s i (pN s i) a))).P i) ((GV_tell (GV_w hG) : GV (tellS (wS s i (pN s i) a) 0 0 (s.1 32 i 0) (wV s i (pN s i) a))).A i _)) (by decide) (Nat.le_of_ble_eq_true rfl) ⟨Nat.zero_le _, Nat.zero_le _⟩ (fun v s hq => ?_)
    obtain ⟨rfl, rfl⟩ := hq
    exact y_iret (pc := 150) d84_150 rfl (⟨by unfold pfV; rw [if_neg (by rw [hk5]; decide), if_neg (by rw [hk5]; decide), if_neg (by rw [hk5]; decide), if_neg (by rw [hk5]; decide)], by unfold pfS; rw [if_neg hk2, if_pos hk5]⟩)
  by_cases hk6 : s.1 68 (pN s i) a = 6
  · refine x_tableIn (pc := 11) (tgt := 151) (off := 140) d84_11 (by rw [hk6]; decide) (by rw [hk6]; decide) (by rw [hk6]; decide) (by decide) ?_
    refine x_aload_n (pc := 151) d84_151 rfl ?_
    refine x_aload_n (pc := 152) d84_152 rfl ?_
    refine x_iload_n (pc := 153) d84_153 rfl ?_
    refine x_aload_n (pc := 154) d84_154 rfl ?_
    refine y_getr (pc := 155) d84_155 fk7_137 (shF i hi) rfl ?_
    refine y_cV2j (pc := 158) d84_158 ml7_143 mv85 (shP (pN s i) ((hG.P i).2)) (c_work (pN s i) (hG.P i).2 i hi s a hS.1 (hS.2.2.2.2 (by simp [hk6]))) (by decide) (Nat.le_of_ble_eq_true rfl) ⟨Nat.zero_le _, Nat.zero_le _⟩ (fun v s hq => ?_)
    obtain ⟨rfl, rfl⟩ := hq
    refine x_lconst (pc := 161) (v := (0)) d84_161 (by decide) ?_
    refine y_lif_eq (pc := 162) (tgt := 170) d84_162 d84_163 (by decide) (fun c162 => ?_) (fun c162 => ?_)
    · skip
      refine x_iconst (pc := 170) (v := (1)) d84_170 (by decide) ?_
      refine x_aload_n (pc := 171) d84_171 rfl ?_
      refine y_geti (pc := 172) d84_172 fk7_72 (shF i hi) rfl ?_
      refine y_cV2i (pc := 175) d84_175 ml7_150 mv87 (shF i hi) (c_goIn i hi _ 1 (by decide) _ ((GV_w hG : GV (wS s i (pN s i) a)).D i) ((GV_w hG : GV (wS s i (pN s i) a)).P i) ((GV_w hG : GV (wS s i (pN s i) a)).A i _)) (by decide) (Nat.le_of_ble_eq_true rfl) ⟨Nat.zero_le _, Nat.zero_le _⟩ (fun v s hq => ?_)
      obtain ⟨rfl, rfl⟩ := hq
      exact y_iret (pc := 178) d84_178 rfl (⟨by unfold pfV; rw [if_neg (by rw [hk6]; decide), if_neg (by rw [hk6]; decide), if_neg (by rw [hk6]; decide), if_neg (by rw [hk6]; decide)], by unfold pfS; rw [if_neg hk2, if_neg hk5, if_pos hk6, if_pos c162]⟩)
    · skip
      refine x_iconst (pc := 166) (v := (0)) d84_166 (by decide) ?_
      refine x_goto (pc := 167) (tgt := 171) d84_167 (by decide) ?_
      refine x_aload_n (pc := 171) d84_171 rfl ?_
      refine y_geti (pc := 172) d84_172 fk7_72 (shF i hi) rfl ?_
      refine y_cV2i (pc := 175) d84_175 ml7_150 mv87 (shF i hi) (c_goIn i hi _ 0 (by decide) _ ((GV_w hG : GV (wS s i (pN s i) a)).D i) ((GV_w hG : GV (wS s i (pN s i) a)).P i) ((GV_w hG : GV (wS s i (pN s i) a)).A i _)) (by decide) (Nat.le_of_ble_eq_true rfl) ⟨Nat.zero_le _, Nat.zero_le _⟩ (fun v s hq => ?_)
      obtain ⟨rfl, rfl⟩ := hq
      exact y_iret (pc := 178) d84_178 rfl (⟨by unfold pfV; rw [if_neg (by rw [hk6]; decide), if_neg (by rw [hk6]; decide), if_neg (by rw [hk6]; decide), if_neg (by rw [hk6]; decide)], by unfold pfS; rw [if_neg hk2, if_neg hk5, if_pos hk6, if_neg c162]⟩)
  by_cases hk8 : s.1 68 (pN s i) a = 8
  · refine x_tableIn (pc := 11) (tgt := 179) (off := 168) d84_11 (by rw [hk8]; decide) (by rw [hk8]; decide) (by rw [hk8]; decide) (by decide) ?_
    refine x_aload_n (pc := 179) d84_179 rfl ?_
    refine x_iload_n (pc := 180) d84_180 rfl ?_
    refine x_aload_n (pc := 181) d84_181 rfl ?_
    refine y_getr (pc := 182) d84_182 fk7_137 (shF i hi) rfl ?_
    refine y_cV2j (pc := 185) d84_185 ml7_143 mv85 (shP (pN s i) ((hG.P i).2)) (c_work (pN s i) (hG.P i).2 i hi s a hS.1 (hS.2.2.2.2 (by simp [hk8]))) (by decide) (Nat.le_of_ble_eq_true rfl) ⟨Nat.zero_le _, Nat.zero_le _⟩ (fun v s hq => ?_)
    obtain ⟨rfl, rfl⟩ := hq
    refine x_lconst (pc := 188) (v := (0)) d84_188 (by decide) ?_
    refine y_lif_eq (pc := 189) (tgt := 205) d84_189 d84_190 (by decide) (fun c189 => ?_) (fun c189 => ?_)
    · skip
      refine x_aload_n (pc := 205) d84_205 rfl ?_
      refine y_cV0i (pc := 206) d84_206 ml7_147 mv79 (shF i hi) (c_goBehind i hi _ ((GV_w hG : GV (wS s i (pN s i) a)).D i) ((GV_w hG : GV (wS s i (pN s i) a)).P i) ((GV_w hG : GV (wS s i (pN s i) a)).A i _)) (by decide) (Nat.le_of_ble_eq_true rfl) ⟨Nat.zero_le _, Nat.zero_le _⟩ (fun v s hq => ?_)
      obtain ⟨rfl, rfl⟩ := hq
      exact y_iret (pc := 209) d84_209 rfl (⟨by unfold pfV; rw [if_neg (by rw [hk8]; decide), if_neg (by rw [hk8]; decide), if_neg (by rw [hk8]; decide), if_neg (by rw [hk8]; decide)], by unfold pfS; rw [if_neg hk2, if_neg hk5, if_neg hk6, if_pos hk8, if_pos c189]⟩)
    · skip
      refine x_aload_n (pc := 193) d84_193 rfl ?_
      refine x_iconst (pc := 194) (v := (0)) d84_194 (by decide) ?_
      refine x_aload_n (pc := 195) d84_195 rfl ?_
      refine y_geti (pc := 196) d84_196 fk7_72 (shF i hi) rfl ?_
      refine y_cV2i (pc := 199) d84_199 ml7_150 mv87 (shF i hi) (c_goIn i hi _ 0 (by decide) _ ((GV_w hG : GV (wS s i (pN s i) a)).D i) ((GV_w hG : GV (wS s i (pN s i) a)).P i) ((GV_w hG : GV (wS s i (pN s i) a)).A i _)) (by decide) (Nat.le_of_ble_eq_true rfl) ⟨Nat.zero_le _, Nat.zero_le _⟩ (fun v s hq => ?_)
      obtain ⟨rfl, rfl⟩ := hq
      refine x_goto (pc := 202) (tgt := 209) d84_202 (by decide) ?_
      exact y_iret (pc := 209) d84_209 rfl (⟨by unfold pfV; rw [if_neg (by rw [hk8]; decide), if_neg (by rw [hk8]; decide), if_neg (by rw [hk8]; decide), if_neg (by rw [hk8]; decide)], by unfold pfS; rw [if_neg hk2, if_neg hk5, if_neg hk6, if_pos hk8, if_neg c189]⟩)
  by_cases hk9 : s.1 68 (pN s i) a = 9
  · refine x_tableIn (pc := 11) (tgt := 210) (off := 199) d84_11 (by rw [hk9]; decide) (by rw [hk9]; decide) (by rw [hk9]; decide) (by decide) ?_
    refine x_aload_n (pc := 210) d84_210 rfl ?_
    refine x_aload_n (pc := 211) d84_211 rfl ?_
    refine x_iload_n (pc := 212) d84_212 rfl ?_
    refine y_cV2i (pc := 213) d84_213 ml7_154 mv88 shL143 (c_takeFromBox i hi s a hG hS hk9) (by decide) (Nat.le_of_ble_eq_true rfl) ⟨Nat.zero_le _, Nat.zero_le _⟩ (fun v s hq => ?_)
    obtain ⟨rfl, rfl⟩ := hq
    exact y_iret (pc := 216) d84_216 rfl (⟨by unfold pfV; rw [if_pos hk9], by unfold pfS; rw [if_neg hk2, if_neg hk5, if_neg hk6, if_neg hk8, if_pos hk9]⟩)
  by_cases hk11 : s.1 68 (pN s i) a = 11
  · refine x_tableIn (pc := 11) (tgt := 217) (off := 206) d84_11 (by rw [hk11]; decide) (by rw [hk11]; decide) (by rw [hk11]; decide) (by decide) ?_
    refine x_aload_n (pc := 217) d84_217 rfl ?_
    refine x_aload_n (pc := 218) d84_218 rfl ?_
    refine x_iload_n (pc := 219) d84_219 rfl ?_
    refine y_cV2i (pc := 220) d84_220 ml7_157 mv90 shL143 (c_putInBox i hi s a hG hS hk11) (by decide) (Nat.le_of_ble_eq_true rfl) ⟨Nat.zero_le _, Nat.zero_le _⟩ (fun v s hq => ?_)
    obtain ⟨rfl, rfl⟩ := hq
    exact y_iret (pc := 223) d84_223 rfl (⟨by unfold pfV; rw [if_neg hk9, if_pos hk11], by unfold pfS; rw [if_neg hk2, if_neg hk5, if_neg hk6, if_neg hk8, if_neg hk9, if_pos hk11]⟩)
  by_cases hk13 : s.1 68 (pN s i) a = 13
  · refine x_tableIn (pc := 11) (tgt := 224) (off := 213) d84_11 (by rw [hk13]; decide) (by rw [hk13]; decide) (by rw [hk13]; decide) (by decide) ?_
    refine x_aload_n (pc := 224) d84_224 rfl ?_
    refine x_iload_n (pc := 225) d84_225 rfl ?_
    refine y_cS2i (pc := 226) d84_226 ml7_160 mv91 (c_throwValue i hi s a hS.1 hG (hS.2.2.2.2 (by simp [hk13]))) (by decide) (Nat.le_of_ble_eq_true rfl) ⟨Nat.zero_le _, Nat.zero_le _⟩ (fun v s hq => ?_)
    obtain ⟨rfl, rfl⟩ := hq
    exact y_iret (pc := 229) d84_229 rfl (⟨by unfold pfV; rw [if_neg hk9, if_neg hk11, if_pos hk13], by unfold pfS; rw [if_neg hk2, if_neg hk5, if_neg hk6, if_neg hk8, if_neg hk9, if_neg hk11, if_pos hk13]⟩)
  by_cases hk14 : s.1 68 (pN s i) a = 14
  · refine x_tableIn (pc := 11) (tgt := 230) (off := 219) d84_11 (by rw [hk14]; decide) (by rw [hk14]; decide) (by rw [hk14]; decide) (by decide) ?_
    refine x_aload_n (pc := 230) d84_230 rfl ?_
    refine x_aload_n (pc := 231) d84_231 rfl ?_
    refine x_iload_n (pc := 232) d84_232 rfl ?_
    refine y_cV2i (pc := 233) d84_233 ml7_163 mv92 shL143 (c_sendValue i hi s a hG hS hk14) (by decide) (Nat.le_of_ble_eq_true rfl) ⟨Nat.zero_le _, Nat.zero_le _⟩ (fun v s hq => ?_)
    obtain ⟨rfl, rfl⟩ := hq
    exact y_iret (pc := 236) d84_236 rfl (⟨by unfold pfV; rw [if_neg hk9, if_neg hk11, if_neg hk13, if_pos hk14], by unfold pfS; rw [if_neg hk2, if_neg hk5, if_neg hk6, if_neg hk8, if_neg hk9, if_neg hk11, if_neg hk13, if_pos hk14]⟩)
  by_cases hk15 : s.1 68 (pN s i) a = 15
  · refine x_tableIn (pc := 11) (tgt := 237) (off := 226) d84_11 (by rw [hk15]; decide) (by rw [hk15]; decide) (by rw [hk15]; decide) (by decide) ?_
    refine x_aload_n (pc := 237) d84_237 rfl ?_
    refine x_iconst (pc := 238) (v := (0)) d84_238 (by decide) ?_
    refine x_aload_n (pc := 239) d84_239 rfl ?_
    refine y_geti (pc := 240) d84_240 fk7_72 (shF i hi) rfl ?_
    refine x_iconst (pc := 243) (v := (1)) d84_243 (by decide) ?_
    refine y_max (pc := 244) d84_244 ml7_166 ⟨by decide, Nat.le_of_ble_eq_true rfl⟩ ⟨Nat.zero_le _, Nat.zero_le _⟩ ?_
    refine y_cV2i (pc := 247) d84_247 ml7_150 mv87 (shF i hi) (c_goIn i hi s 0 (by decide) _ (hG.D i) (hG.P i) (hG.A i _)) (by decide) (Nat.le_of_ble_eq_true rfl) ⟨Nat.zero_le _, Nat.zero_le _⟩ (fun v s hq => ?_)
    obtain ⟨rfl, rfl⟩ := hq
    exact y_iret (pc := 250) d84_250 rfl (⟨by unfold pfV; rw [if_neg (by rw [hk15]; decide), if_neg (by rw [hk15]; decide), if_neg (by rw [hk15]; decide), if_neg (by rw [hk15]; decide)], by unfold pfS; rw [if_neg hk2, if_neg hk5, if_neg hk6, if_neg hk8, if_neg hk9, if_neg hk11, if_neg hk13, if_neg hk14, if_pos hk15]⟩)
  by_cases hk16 : s.1 68 (pN s i) a = 16
  · refine x_tableIn (pc := 11) (tgt := 251) (off := 240) d84_11 (by rw [hk16]; decide) (by rw [hk16]; decide) (by rw [hk16]; decide) (by decide) ?_
    refine x_aload_n (pc := 251) d84_251 rfl ?_
    refine x_iconst (pc := 252) (v := (0)) d84_252 (by decide) ?_
    refine x_iconst (pc := 253) (v := (2)) d84_253 (by decide) ?_
    refine y_cV2i (pc := 254) d84_254 ml7_150 mv87 (shF i hi) (c_goIn i hi s 0 (by decide) _ (hG.D i) (hG.P i) (hG.A i _)) (by decide) (Nat.le_of_ble_eq_true rfl) ⟨Nat.zero_le _, Nat.zero_le _⟩ (fun v s hq => ?_)
    obtain ⟨rfl, rfl⟩ := hq
    exact y_iret (pc := 257) d84_257 rfl (⟨by unfold pfV; rw [if_neg (by rw [hk16]; decide), if_neg (by rw [hk16]; decide), if_neg (by rw [hk16]; decide), if_neg (by rw [hk16]; decide)], by unfold pfS; rw [if_neg hk2, if_neg hk5, if_neg hk6, if_neg hk8, if_neg hk9, if_neg hk11, if_neg hk13, if_neg hk14, if_neg hk15, if_pos hk16]⟩)
  by_cases hk17 : s.1 68 (pN s i) a = 17
  · refine x_tableIn (pc := 11) (tgt := 258) (off := 247) d84_11 (by rw [hk17]; decide) (by rw [hk17]; decide) (by rw [hk17]; decide) (by decide) ?_
    refine x_aload_n (pc := 258) d84_258 rfl ?_
    refine x_iconst (pc := 259) (v := (0)) d84_259 (by decide) ?_
    refine x_iconst (pc := 260) (v := (0)) d84_260 (by decide) ?_
    refine y_cV2i (pc := 261) d84_261 ml7_150 mv87 (shF i hi) (c_goIn i hi s 0 (by decide) _ (hG.D i) (hG.P i) (hG.A i _)) (by decide) (Nat.le_of_ble_eq_true rfl) ⟨Nat.zero_le _, Nat.zero_le _⟩ (fun v s hq => ?_)
    obtain ⟨rfl, rfl⟩ := hq
    exact y_iret (pc := 264) d84_264 rfl (⟨by unfold pfV; rw [if_neg (by rw [hk17]; decide), if_neg (by rw [hk17]; decide), if_neg (by rw [hk17]; decide), if_neg (by rw [hk17]; decide)], by unfold pfS; rw [if_neg hk2, if_neg hk5, if_neg hk6, if_neg hk8, if_neg hk9, if_neg hk11, if_neg hk13, if_neg hk14, if_neg hk15, if_neg hk16, if_pos hk17]⟩)
  by_cases hk20 : s.1 68 (pN s i) a = 20
  · refine x_tableIn (pc := 11) (tgt := 237) (off := 226) d84_11 (by rw [hk20]; decide) (by rw [hk20]; decide) (by rw [hk20]; decide) (by decide) ?_
    refine x_aload_n (pc := 237) d84_237 rfl ?_
    refine x_iconst (pc := 238) (v := (0)) d84_238 (by decide) ?_
    refine x_aload_n (pc := 239) d84_239 rfl ?_
    refine y_geti (pc := 240) d84_240 fk7_72 (shF i hi) rfl ?_
    refine x_iconst (pc := 243) (v := (1)) d84_243 (by decide) ?_
    refine y_max (pc := 244) d84_244 ml7_166 ⟨by decide, Nat.le_of_ble_eq_true rfl⟩ ⟨Nat.zero_le _, Nat.zero_le _⟩ ?_
    refine y_cV2i (pc := 247) d84_247 ml7_150 mv87 (shF i hi) (c_goIn i hi s 0 (by decide) _ (hG.D i) (hG.P i) (hG.A i _)) (by decide) (Nat.le_of_ble_eq_true rfl) ⟨Nat.zero_le _, Nat.zero_le _⟩ (fun v s hq => ?_)
    obtain ⟨rfl, rfl⟩ := hq
    exact y_iret (pc := 250) d84_250 rfl (⟨by unfold pfV; rw [if_neg (by rw [hk20]; decide), if_neg (by rw [hk20]; decide), if_neg (by rw [hk20]; decide), if_neg (by rw [hk20]; decide)], by unfold pfS; rw [if_neg hk2, if_neg hk5, if_neg hk6, if_neg hk8, if_neg hk9, if_neg hk11, if_neg hk13, if_neg hk14, if_neg hk15, if_neg hk16, if_neg hk17, if_pos hk20]⟩)
  have z2 : ¬ (s.1 68 (pN s i) a).toInt = 2 := lv_neT hk2 (by decide)
  have z5 : ¬ (s.1 68 (pN s i) a).toInt = 5 := lv_neT hk5 (by decide)
  have z6 : ¬ (s.1 68 (pN s i) a).toInt = 6 := lv_neT hk6 (by decide)
  have z8 : ¬ (s.1 68 (pN s i) a).toInt = 8 := lv_neT hk8 (by decide)
  have z9 : ¬ (s.1 68 (pN s i) a).toInt = 9 := lv_neT hk9 (by decide)
  have z11 : ¬ (s.1 68 (pN s i) a).toInt = 11 := lv_neT hk11 (by decide)
  have z13 : ¬ (s.1 68 (pN s i) a).toInt = 13 := lv_neT hk13 (by decide)
  have z14 : ¬ (s.1 68 (pN s i) a).toInt = 14 := lv_neT hk14 (by decide)
  have z15 : ¬ (s.1 68 (pN s i) a).toInt = 15 := lv_neT hk15 (by decide)
  have z16 : ¬ (s.1 68 (pN s i) a).toInt = 16 := lv_neT hk16 (by decide)
  have z17 : ¬ (s.1 68 (pN s i) a).toInt = 17 := lv_neT hk17 (by decide)
  have z20 : ¬ (s.1 68 (pN s i) a).toInt = 20 := lv_neT hk20 (by decide)
  rcases (by omega : (s.1 68 (pN s i) a).toInt < 2 ∨ 20 < (s.1 68 (pN s i) a).toInt ∨ (s.1 68 (pN s i) a).toInt = 3 ∨ (s.1 68 (pN s i) a).toInt = 4 ∨ (s.1 68 (pN s i) a).toInt = 7 ∨ (s.1 68 (pN s i) a).toInt = 10 ∨ (s.1 68 (pN s i) a).toInt = 12 ∨ (s.1 68 (pN s i) a).toInt = 18 ∨ (s.1 68 (pN s i) a).toInt = 19) with zz | zz | zz | zz | zz | zz | zz | zz | zz
  · refine x_tableOut (pc := 11) (tgt := 265) d84_11 (Or.inl zz) (by decide) ?_
    refine x_aload_n (pc := 265) d84_265 rfl ?_
    refine x_iconst (pc := 266) (v := (0)) d84_266 (by decide) ?_
    refine x_aload_n (pc := 267) d84_267 rfl ?_
    refine y_geti (pc := 268) d84_268 fk7_72 (shF i hi) rfl ?_
    refine y_cV2i (pc := 271) d84_271 ml7_150 mv87 (shF i hi) (c_goIn i hi s 0 (by decide) _ (hG.D i) (hG.P i) (hG.A i _)) (by decide) (Nat.le_of_ble_eq_true rfl) ⟨Nat.zero_le _, Nat.zero_le _⟩ (fun v s hq => ?_)
    obtain ⟨rfl, rfl⟩ := hq
    exact y_iret (pc := 274) d84_274 rfl (⟨by unfold pfV; rw [if_neg hk9, if_neg hk11, if_neg hk13, if_neg hk14], by unfold pfS; rw [if_neg hk2, if_neg hk5, if_neg hk6, if_neg hk8, if_neg hk9, if_neg hk11, if_neg hk13, if_neg hk14, if_neg hk15, if_neg hk16, if_neg hk17, if_neg hk20]⟩)
  · refine x_tableOut (pc := 11) (tgt := 265) d84_11 (Or.inr zz) (by decide) ?_
    refine x_aload_n (pc := 265) d84_265 rfl ?_
    refine x_iconst (pc := 266) (v := (0)) d84_266 (by decide) ?_
    refine x_aload_n (pc := 267) d84_267 rfl ?_
    refine y_geti (pc := 268) d84_268 fk7_72 (shF i hi) rfl ?_
    refine y_cV2i (pc := 271) d84_271 ml7_150 mv87 (shF i hi) (c_goIn i hi s 0 (by decide) _ (hG.D i) (hG.P i) (hG.A i _)) (by decide) (Nat.le_of_ble_eq_true rfl) ⟨Nat.zero_le _, Nat.zero_le _⟩ (fun v s hq => ?_)
    obtain ⟨rfl, rfl⟩ := hq
    exact y_iret (pc := 274) d84_274 rfl (⟨by unfold pfV; rw [if_neg hk9, if_neg hk11, if_neg hk13, if_neg hk14], by unfold pfS; rw [if_neg hk2, if_neg hk5, if_neg hk6, if_neg hk8, if_neg hk9, if_neg hk11, if_neg hk13, if_neg hk14, if_neg hk15, if_neg hk16, if_neg hk17, if_neg hk20]⟩)
  · refine x_tableIn (pc := 11) (tgt := 265) (off := 254) d84_11 (by rw [zz]; decide) (by rw [zz]; decide) (by rw [zz]; rfl) (by decide) ?_
    refine x_aload_n (pc := 265) d84_265 rfl ?_
    refine x_iconst (pc := 266) (v := (0)) d84_266 (by decide) ?_
    refine x_aload_n (pc := 267) d84_267 rfl ?_
    refine y_geti (pc := 268) d84_268 fk7_72 (shF i hi) rfl ?_
    refine y_cV2i (pc := 271) d84_271 ml7_150 mv87 (shF i hi) (c_goIn i hi s 0 (by decide) _ (hG.D i) (hG.P i) (hG.A i _)) (by decide) (Nat.le_of_ble_eq_true rfl) ⟨Nat.zero_le _, Nat.zero_le _⟩ (fun v s hq => ?_)
    obtain ⟨rfl, rfl⟩ := hq
    exact y_iret (pc := 274) d84_274 rfl (⟨by unfold pfV; rw [if_neg hk9, if_neg hk11, if_neg hk13, if_neg hk14], by unfold pfS; rw [if_neg hk2, if_neg hk5, if_neg hk6, if_neg hk8, if_neg hk9, if_neg hk11, if_neg hk13, if_neg hk14, if_neg hk15, if_neg hk16, if_neg hk17, if_neg hk20]⟩)
  · refine x_tableIn (pc := 11) (tgt := 265) (off := 254) d84_11 (by rw [zz]; decide) (by rw [zz]; decide) (by rw [zz]; rfl) (by decide) ?_
    refine x_aload_n (pc := 265) d84_265 rfl ?_
    refine x_iconst (pc := 266) (v := (0)) d84_266 (by decide) ?_
    refine x_aload_n (pc := 267) d84_267 rfl ?_
    refine y_geti (pc := 268) d84_268 fk7_72 (shF i hi) rfl ?_
    refine y_cV2i (pc := 271) d84_271 ml7_150 mv87 (shF i hi) (c_goIn i hi s 0 (by decide) _ (hG.D i) (hG.P i) (hG.A i _)) (by decide) (Nat.le_of_ble_eq_true rfl) ⟨Nat.zero_le _, Nat.zero_le _⟩ (fun v s hq => ?_)
    obtain ⟨rfl, rfl⟩ := hq
    exact y_iret (pc := 274) d84_274 rfl (⟨by unfold pfV; rw [if_neg hk9, if_neg hk11, if_neg hk13, if_neg hk14], by unfold pfS; rw [if_neg hk2, if_neg hk5, if_neg hk6, if_neg hk8, if_neg hk9, if_neg hk11, if_neg hk13, if_neg hk14, if_neg hk15, if_neg hk16, if_neg hk17, if_neg hk20]⟩)
  · refine x_tableIn (pc := 11) (tgt := 265) (off := 254) d84_11 (by rw [zz]; decide) (by rw [zz]; decide) (by rw [zz]; rfl) (by decide) ?_
    refine x_aload_n (pc := 265) d84_265 rfl ?_
    refine x_iconst (pc := 266) (v := (0)) d84_266 (by decide) ?_
    refine x_aload_n (pc := 267) d84_267 rfl ?_
    refine y_geti (pc := 268) d84_268 fk7_72 (shF i hi) rfl ?_
    refine y_cV2i (pc := 271) d84_271 ml7_150 mv87 (shF i hi) (c_goIn i hi s 0 (by decide) _ (hG.D i) (hG.P i) (hG.A i _)) (by decide) (Nat.le_of_ble_eq_true rfl) ⟨Nat.zero_le _, Nat.zero_le _⟩ (fun v s hq => ?_)
    obtain ⟨rfl, rfl⟩ := hq
    exact y_iret (pc := 274) d84_274 rfl (⟨by unfold pfV; rw [if_neg hk9, if_neg hk11, if_neg hk13, if_neg hk14], by unfold pfS; rw [if_neg hk2, if_neg hk5, if_neg hk6, if_neg hk8, if_neg hk9, if_neg hk11, if_neg hk13, if_neg hk14, if_neg hk15, if_neg hk16, if_neg hk17, if_neg hk20]⟩)
  · refine x_tableIn (pc := 11) (tgt := 265) (off := 254) d84_11 (by rw [zz]; decide) (by rw [zz]; decide) (by rw [zz]; rfl) (by decide) ?_
    refine x_aload_n (pc := 265) d84_265 rfl ?_
    refine x_iconst (pc := 266) (v := (0)) d84_266 (by decide) ?_
    refine x_aload_n (pc := 267) d84_267 rfl ?_
    refine y_geti (pc := 268) d84_268 fk7_72 (shF i hi) rfl ?_
    refine y_cV2i (pc := 271) d84_271 ml7_150 mv87 (shF i hi) (c_goIn i hi s 0 (by decide) _ (hG.D i) (hG.P i) (hG.A i _)) (by decide) (Nat.le_of_ble_eq_true rfl) ⟨Nat.zero_le _, Nat.zero_le _⟩ (fun v s hq => ?_)
    obtain ⟨rfl, rfl⟩ := hq
    exact y_iret (pc := 274) d84_274 rfl (⟨by unfold pfV; rw [if_neg hk9, if_neg hk11, if_neg hk13, if_neg hk14], by unfold pfS; rw [if_neg hk2, if_neg hk5, if_neg hk6, if_neg hk8, if_neg hk9, if_neg hk11, if_neg hk13, if_neg hk14, if_neg hk15, if_neg hk16, if_neg hk17, if_neg hk20]⟩)
  · refine x_tableIn (pc := 11) (tgt := 265) (off := 254) d84_11 (by rw [zz]; decide) (by rw [zz]; decide) (by rw [zz]; rfl) (by decide) ?_
    refine x_aload_n (pc := 265) d84_265 rfl ?_
    refine x_iconst (pc := 266) (v := (0)) d84_266 (by decide) ?_
    refine x_aload_n (pc := 267) d84_267 rfl ?_
    refine y_geti (pc := 268) d84_268 fk7_72 (shF i hi) rfl ?_
    refine y_cV2i (pc := 271) d84_271 ml7_150 mv87 (shF i hi) (c_goIn i hi s 0 (by decide) _ (hG.D i) (hG.P i) (hG.A i _)) (by decide) (Nat.le_of_ble_eq_true rfl) ⟨Nat.zero_le _, Nat.zero_le _⟩ (fun v s hq => ?_)
    obtain ⟨rfl, rfl⟩ := hq
    exact y_iret (pc := 274) d84_274 rfl (⟨by unfold pfV; rw [if_neg hk9, if_neg hk11, if_neg hk13, if_neg hk14], by unfold pfS; rw [if_neg hk2, if_neg hk5, if_neg hk6, if_neg hk8, if_neg hk9, if_neg hk11, if_neg hk13, if_neg hk14, if_neg hk15, if_neg hk16, if_neg hk17, if_neg hk20]⟩)
  · refine x_tableIn (pc := 11) (tgt := 265) (off := 254) d84_11 (by rw [zz]; decide) (by rw [zz]; decide) (by rw [zz]; rfl) (by decide) ?_
    refine x_aload_n (pc := 265) d84_265 rfl ?_
    refine x_iconst (pc := 266) (v := (0)) d84_266 (by decide) ?_
    refine x_aload_n (pc := 267) d84_267 rfl ?_
    refine y_geti (pc := 268) d84_268 fk7_72 (shF i hi) rfl ?_
    refine y_cV2i (pc := 271) d84_271 ml7_150 mv87 (shF i hi) (c_goIn i hi s 0 (by decide) _ (hG.D i) (hG.P i) (hG.A i _)) (by decide) (Nat.le_of_ble_eq_true rfl) ⟨Nat.zero_le _, Nat.zero_le _⟩ (fun v s hq => ?_)
    obtain ⟨rfl, rfl⟩ := hq
    exact y_iret (pc := 274) d84_274 rfl (⟨by unfold pfV; rw [if_neg hk9, if_neg hk11, if_neg hk13, if_neg hk14], by unfold pfS; rw [if_neg hk2, if_neg hk5, if_neg hk6, if_neg hk8, if_neg hk9, if_neg hk11, if_neg hk13, if_neg hk14, if_neg hk15, if_neg hk16, if_neg hk17, if_neg hk20]⟩)
  · refine x_tableIn (pc := 11) (tgt := 265) (off := 254) d84_11 (by rw [zz]; decide) (by rw [zz]; decide) (by rw [zz]; rfl) (by decide) ?_
    refine x_aload_n (pc := 265) d84_265 rfl ?_
    refine x_iconst (pc := 266) (v := (0)) d84_266 (by decide) ?_
    refine x_aload_n (pc := 267) d84_267 rfl ?_
    refine y_geti (pc := 268) d84_268 fk7_72 (shF i hi) rfl ?_
    refine y_cV2i (pc := 271) d84_271 ml7_150 mv87 (shF i hi) (c_goIn i hi s 0 (by decide) _ (hG.D i) (hG.P i) (hG.A i _)) (by decide) (Nat.le_of_ble_eq_true rfl) ⟨Nat.zero_le _, Nat.zero_le _⟩ (fun v s hq => ?_)
    obtain ⟨rfl, rfl⟩ := hq
    exact y_iret (pc := 274) d84_274 rfl (⟨by unfold pfV; rw [if_neg hk9, if_neg hk11, if_neg hk13, if_neg hk14], by unfold pfS; rw [if_neg hk2, if_neg hk5, if_neg hk6, if_neg hk8, if_neg hk9, if_neg hk11, if_neg hk13, if_neg hk14, if_neg hk15, if_neg hk16, if_neg hk17, if_neg hk20]⟩)
