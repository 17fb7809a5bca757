/-! throws that go outward, bodies at their ends, times that run out -/
/-- what the numbers of a PROGRAM's statements keep to, by their kind -/
def KW (s : St) (p : Nat) : Prop := ∀ a, a < 40 → ((s.1 68 p a = 2 ∨ s.1 68 p a = 9 ∨ s.1 68 p a = 18) → okN 10 (s.1 69 p a)) ∧ ((s.1 68 p a = 9 ∨ s.1 68 p a = 11) → okN 8 (s.1 70 p a)) ∧ (s.1 68 p a = 14 → okN 6 (s.1 70 p a))
def kdN (s : St) (i b : Nat) : Int32 := s.1 68 (pN s i) (oN s i b)
def stK (s : St) (i b : Nat) : Nat := if kdN s i b = 18 ∧ s.1 1 i b = 0 ∧ s.1 46 i 0 = 0 then 1 else if kdN s i b = 20 ∧ s.1 1 i b = 1 then 2 else if kdN s i b = 23 ∧ s.1 1 i b = 0 ∧ s.1 46 i 0 = s.1 41 i 0 then 3 else 0
def stS1 (s : St) (i b : Nat) : St := overS (sl s 34 i (s.1 69 (pN s i) (oN s i b)).toNatClampNeg (s.2 45 i 0)) i b 1 (mx (s.1 2 i b) 1)
def stS2 (s : St) (i b : Nat) : St := si (sl (si (lastS s i b) 6 i b 1) 7 i b ((lastS s i b).2 45 i 0)) 8 i b ((lastS s i b).1 46 i 0)
def stS3 (s : St) (i : Nat) : St := inS (leaveS s i) i 1 ((leaveS s i).1 39 i 0)
def stV (s : St) (i b : Nat) : Int32 := if stK s i b = 0 then 0 else 1
def stS (s : St) (i b : Nat) : St := if stK s i b = 1 then stS1 s i b else if stK s i b = 2 then stS2 s i b else if stK s i b = 3 then stS3 s i else s
theorem GV.kdn {s : St} (h : GV s) (i b : Nat) (hb : 1 ≤ b) : oN s i b < 40 := (h.O i b hb).2
set_option maxRecDepth 100000 in
theorem c_stops (i : Nat) (hi : i < 7) (b : Nat) (hb : b < 9) (s : St) (hG : GV s) (hb1 : 1 ≤ b) (h1 : 1 ≤ dN s i) (hL : kdN s i b = 18 → okN 10 (s.1 69 (pN s i) (oN s i b))) : Ri 3 94 [.ref (FA i), .ref (RW i + 6 + b)] s (fun v s1 => v = stV s i b ∧ s1 = stS s i b) := by
  refine ct_of (by decide +kernel) (Nat.le_of_ble_eq_true rfl) ?_
  show Wp _ _ (zi (fun v s1 => v = stV s i b ∧ s1 = stS s i b)) _ _ _ [(0, .ref (FA i)), (1, .ref (RW i + 6 + b))] _ _ _
  have J152 : stK s i b = 0 → Wp (rmd 3 0 0) 94 (zi (fun v s1 => v = stV s i b ∧ s1 = stS s i b)) 0 0 152 [(0, .ref (FA i)), (1, .ref (RW i + 6 + b)), (2, .int (kdN s i b))] [] (mk s) TT := by
    intro hk
    refine x_iconst (pc := 152) (v := (0)) d94_152 (by decide) ?_
    exact y_zret (pc := 153) d94_153 rfl (by first | exact Or.inl rfl | exact Or.inr rfl) (by unfold stV stS; rw [hk]; exact ⟨rfl, rfl⟩)
  have J112 : ¬ (kdN s i b = 18 ∧ s.1 1 i b = 0 ∧ s.1 46 i 0 = 0) → ¬ (kdN s i b = 20 ∧ s.1 1 i b = 1) → Wp (rmd 3 0 0) 94 (zi (fun v s1 => v = stV s i b ∧ s1 = stS s i b)) 0 0 112 [(0, .ref (FA i)), (1, .ref (RW i + 6 + b)), (2, .int (kdN s i b))] [] (mk s) TT := by
    intro n1 n2
    refine x_iload_n (pc := 112) d94_112 rfl ?_
    refine x_bipush (pc := 113) (v := (23)) d94_113 (by decide) ?_
    refine x_icmp_ne (pc := 115) (tgt := 152) d94_115 (by decide) (fun c115 => ?_) (fun c115 => ?_)
    · skip
      exact J152 (by unfold stK; rw [if_neg n1, if_neg n2, if_neg (fun h => by first | exact c115 h.1 | exact c122 h.2.1 | exact c133 h.2.2)])
    · skip
      refine x_aload_n (pc := 118) d94_118 rfl ?_
      refine y_geti (pc := 119) d94_119 fk2_152 (shB i hi b hb) rfl ?_
      refine x_if_ne (pc := 122) (tgt := 152) d94_122 (by decide) (fun c122 => ?_) (fun c122 => ?_)
      · skip
        exact J152 (by unfold stK; rw [if_neg n1, if_neg n2, if_neg (fun h => by first | exact c115 h.1 | exact c122 h.2.1 | exact c133 h.2.2)])
      · skip
        refine x_aload_n (pc := 125) d94_125 rfl ?_
        refine y_geti (pc := 126) d94_126 fk2_168 (shF i hi) rfl ?_
        refine x_aload_n (pc := 129) d94_129 rfl ?_
        refine y_geti (pc := 130) d94_130 fk2_63 (shF i hi) rfl ?_
        refine x_icmp_ne (pc := 133) (tgt := 152) d94_133 (by decide) (fun c133 => ?_) (fun c133 => ?_)
        · skip
          exact J152 (by unfold stK; rw [if_neg n1, if_neg n2, if_neg (fun h => by first | exact c115 h.1 | exact c122 h.2.1 | exact c133 h.2.2)])
        · skip
          refine x_aload_n (pc := 136) d94_136 rfl ?_
          refine y_cV0v (pc := 137) d94_137 ml2_171 mv75 (shF i hi) (c_leave i hi _ (hG.D i) (hG.C i)) (by decide) (Nat.le_of_ble_eq_true rfl) ⟨Nat.zero_le _, Nat.zero_le _⟩ (fun s hq => ?_)
          subst hq
          refine x_aload_n (pc := 140) d94_140 rfl ?_
          refine x_iconst (pc := 141) (v := (1)) d94_141 (by decide) ?_
          refine x_aload_n (pc := 142) d94_142 rfl ?_
          refine y_geti (pc := 143) d94_143 fk2_60 (shF i hi) rfl ?_
          refine y_cV2i (pc := 146) d94_146 ml2_189 mv87 (shF i hi) (c_goIn i hi _ 1 (by decide) _ ((GV_leave hG h1).D i) ((GV_leave hG h1).P i) ((GV_leave hG h1).A i _)) (by decide) (Nat.le_of_ble_eq_true rfl) ⟨Nat.zero_le _, Nat.zero_le _⟩ (fun v s hq => ?_)
          obtain ⟨rfl, rfl⟩ := hq
          refine x_pop (pc := 149) d94_149 rfl ?_
          refine x_iconst (pc := 150) (v := (1)) d94_150 (by decide) ?_
          exact y_zret (pc := 151) d94_151 rfl (by first | exact Or.inl rfl | exact Or.inr rfl) (by have hk : stK s i b = 3 := by { unfold stK; rw [if_neg n1, if_neg n2, if_pos ⟨c115, c122, c133⟩] }; unfold stV stS; rw [hk]; exact ⟨rfl, rfl⟩)
  have J70 : ¬ (kdN s i b = 18 ∧ s.1 1 i b = 0 ∧ s.1 46 i 0 = 0) → Wp (rmd 3 0 0) 94 (zi (fun v s1 => v = stV s i b ∧ s1 = stS s i b)) 0 0 70 [(0, .ref (FA i)), (1, .ref (RW i + 6 + b)), (2, .int (kdN s i b))] [] (mk s) TT := by
    intro n1
    refine x_iload_n (pc := 70) d94_70 rfl ?_
    refine x_bipush (pc := 71) (v := (20)) d94_71 (by decide) ?_
    refine x_icmp_ne (pc := 73) (tgt := 112) d94_73 (by decide) (fun c73 => ?_) (fun c73 => ?_)
    · skip
      exact J112 n1 (fun h => by first | exact c73 h.1 | exact c81 h.2)
    · skip
      refine x_aload_n (pc := 76) d94_76 rfl ?_
      refine y_geti (pc := 77) d94_77 fk2_152 (shB i hi b hb) rfl ?_
      refine x_iconst (pc := 80) (v := (1)) d94_80 (by decide) ?_
      refine x_icmp_ne (pc := 81) (tgt := 112) d94_81 (by decide) (fun c81 => ?_) (fun c81 => ?_)
      · skip
        exact J112 n1 (fun h => by first | exact c73 h.1 | exact c81 h.2)
      · skip
        refine x_aload_n (pc := 84) d94_84 rfl ?_
        refine x_aload_n (pc := 85) d94_85 rfl ?_
        refine y_cV1v (pc := 86) d94_86 ml2_159 mv74 (shF i hi) (c_goToLast i hi b hb _ (hG.P i) (hG.O i b hb1) (hG.H _)) (by decide) (Nat.le_of_ble_eq_true rfl) ⟨Nat.zero_le _, Nat.zero_le _⟩ (fun s hq => ?_)
        subst hq
        refine x_aload_n (pc := 89) d94_89 rfl ?_
        refine x_iconst (pc := 90) (v := (1)) d94_90 (by decide) ?_
        refine y_puti (pc := 91) d94_91 fk2_94 (shB i hi b hb) rfl rfl ⟨rfl, rfl⟩ ?_
        refine x_aload_n (pc := 94) d94_94 rfl ?_
        refine x_aload_n (pc := 95) d94_95 rfl ?_
        refine y_getl (pc := 96) d94_96 fk2_88 (shF i hi) rfl ?_
        refine y_putl (pc := 99) d94_99 fk2_162 (shB i hi b hb) rfl rfl rfl ?_
        refine x_aload_n (pc := 102) d94_102 rfl ?_
        refine x_aload_n (pc := 103) d94_103 rfl ?_
        refine y_geti (pc := 104) d94_104 fk2_168 (shF i hi) rfl ?_
        refine y_puti (pc := 107) d94_107 fk2_165 (shB i hi b hb) rfl rfl ⟨rfl, rfl⟩ ?_
        refine x_iconst (pc := 110) (v := (1)) d94_110 (by decide) ?_
        exact y_zret (pc := 111) d94_111 rfl (by first | exact Or.inl rfl | exact Or.inr rfl) (by have hk : stK s i b = 2 := by { unfold stK; rw [if_neg n1, if_pos ⟨c73, c81⟩] }; unfold stV stS; rw [hk]; exact ⟨rfl, by simp [stS2, si_r, si_2, sl_r, sl_1]⟩)
  refine x_aload_n (pc := 0) d94_0 rfl ?_
  refine y_getp (pc := 1) (p := pN s i) d94_1 fk2_36 (shF i hi) rfl ((hG.P i).1) ((hG.P i).2) ?_
  refine y_getr (pc := 4) d94_4 fk2_112 (shP (pN s i) ((hG.P i).2)) rfl ?_
  refine x_aload_n (pc := 7) d94_7 rfl ?_
  refine y_geti (pc := 8) d94_8 fk2_124 (shB i hi b hb) rfl ?_
  refine y_ialdN (pc := 11) (q := oN s i b) d94_11 (shP1 (pN s i) ((hG.P i).2)) ((hG.O i b hb1).2) (by decide) ((hG.O i b hb1).1) ?_
  refine x_istore_n (pc := 12) d94_12 (by decide) ?_
  refine x_iload_n (pc := 13) d94_13 rfl ?_
  refine x_bipush (pc := 14) (v := (18)) d94_14 (by decide) ?_
  refine x_icmp_ne (pc := 16) (tgt := 70) d94_16 (by decide) (fun c16 => ?_) (fun c16 => ?_)
  · skip
    refine wp_lv (lv' := [(0, .ref (FA i)), (1, .ref (RW i + 6 + b)), (2, .int (kdN s i b))]) ⟨rfl, rfl, rfl, trivial⟩ (J70 (fun h => by first | exact c16 h.1 | exact c23 h.2.1 | exact c30 h.2.2))
  · skip
    refine x_aload_n (pc := 19) d94_19 rfl ?_
    refine y_geti (pc := 20) d94_20 fk2_152 (shB i hi b hb) rfl ?_
    refine x_if_ne (pc := 23) (tgt := 70) d94_23 (by decide) (fun c23 => ?_) (fun c23 => ?_)
    · skip
      refine wp_lv (lv' := [(0, .ref (FA i)), (1, .ref (RW i + 6 + b)), (2, .int (kdN s i b))]) ⟨rfl, rfl, rfl, trivial⟩ (J70 (fun h => by first | exact c16 h.1 | exact c23 h.2.1 | exact c30 h.2.2))
    · skip
      refine x_aload_n (pc := 26) d94_26 rfl ?_
      refine y_geti (pc := 27) d94_27 fk2_168 (shF i hi) rfl ?_
      refine x_if_ne (pc := 30) (tgt := 70) d94_30 (by decide) (fun c30 => ?_) (fun c30 => ?_)
      · skip
        refine wp_lv (lv' := [(0, .ref (FA i)), (1, .ref (RW i + 6 + b)), (2, .int (kdN s i b))]) ⟨rfl, rfl, rfl, trivial⟩ (J70 (fun h => by first | exact c16 h.1 | exact c23 h.2.1 | exact c30 h.2.2))
      · skip
        refine x_aload_n (pc := 33) d94_33 rfl ?_
        refine y_getr (pc := 34) d94_34 fk2_18 (shF i hi) rfl ?_
        refine x_aload_n (pc := 37) d94_37 rfl ?_
        refine y_getp (pc := 38) (p := pN s i) d94_38 fk2_36 (shF i hi) rfl ((hG.P i).1) ((hG.P i).2) ?_
        refine y_getr (pc := 41) d94_41 fk2_186 (shP (pN s i) ((hG.P i).2)) rfl ?_
        refine x_aload_n (pc := 44) d94_44 rfl ?_
        refine y_geti (pc := 45) d94_45 fk2_124 (shB i hi b hb) rfl ?_
        refine y_ialdN (pc := 48) (q := oN s i b) d94_48 (shP2 (pN s i) ((hG.P i).2)) ((hG.O i b hb1).2) (by decide) ((hG.O i b hb1).1) ?_
        refine x_aload_n (pc := 49) d94_49 rfl ?_
        refine y_getl (pc := 50) d94_50 fk2_88 (shF i hi) rfl ?_
        refine y_lastN (pc := 53) (q := (s.1 69 (pN s i) (oN s i b)).toNatClampNeg) d94_53 (shR4 i hi) ((okN_c (by decide) (hL c16)).2) (by decide) ((okN_c (by decide) (hL c16)).1) ?_
        refine x_aload_n (pc := 54) d94_54 rfl ?_
        refine x_aload_n (pc := 55) d94_55 rfl ?_
        refine x_iconst (pc := 56) (v := (1)) d94_56 (by decide) ?_
        refine x_aload_n (pc := 57) d94_57 rfl ?_
        refine y_geti (pc := 58) d94_58 fk2_135 (shB i hi b hb) rfl ?_
        refine x_iconst (pc := 61) (v := (1)) d94_61 (by decide) ?_
        refine y_max (pc := 62) d94_62 ml2_174 ⟨by decide, Nat.le_of_ble_eq_true rfl⟩ ⟨Nat.zero_le _, Nat.zero_le _⟩ ?_
        refine y_cV3v (pc := 65) d94_65 ml2_155 mv71 (shF i hi) (c_goOver i hi b hb _ 1 (by decide) _ (hG.P i) (hG.O i b hb1)) (by decide) (Nat.le_of_ble_eq_true rfl) ⟨Nat.zero_le _, Nat.zero_le _⟩ (fun s hq => ?_)
        subst hq
        refine x_iconst (pc := 68) (v := (1)) d94_68 (by decide) ?_
        exact y_zret (pc := 69) d94_69 rfl (by first | exact Or.inl rfl | exact Or.inr rfl) (by have hk : stK s i b = 1 := by { unfold stK; rw [if_pos ⟨c16, c23, c30⟩] }; unfold stV stS; rw [hk]; exact ⟨rfl, rfl⟩)
