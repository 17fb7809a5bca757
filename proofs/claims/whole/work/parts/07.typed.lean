/-! rows over the numbered state -/
abbrev TT : Nat := 332
def co (i : Nat) : Nat := if i < 6 then 0 else 1
def fk (own : String) (idx ci f : Nat) : Prop := Cond.fieldLink own idx (clT ci f).1 (clT ci f).2.1 (clT ci f).2.2.1 ∈ gw ∧ ci < 10 ∧ f < clN ci
theorem fk6_9 : fk "MaskedThrows$Tokens" 9 6 0 := ⟨fl6_9, by decide, by decide⟩
theorem fk3_46 : fk "MaskedThrows$Parser" 46 6 0 := ⟨fl3_46, by decide, by decide⟩
theorem fk6_15 : fk "MaskedThrows$Tokens" 15 6 1 := ⟨fl6_15, by decide, by decide⟩
theorem fk3_92 : fk "MaskedThrows$Parser" 92 6 1 := ⟨fl3_92, by decide, by decide⟩
theorem fk6_18 : fk "MaskedThrows$Tokens" 18 6 2 := ⟨fl6_18, by decide, by decide⟩
theorem fk3_39 : fk "MaskedThrows$Parser" 39 6 2 := ⟨fl3_39, by decide, by decide⟩
theorem fk6_21 : fk "MaskedThrows$Tokens" 21 6 3 := ⟨fl6_21, by decide, by decide⟩
theorem fk3_12 : fk "MaskedThrows$Parser" 12 3 0 := ⟨fl3_12, by decide, by decide⟩
theorem fk3_27 : fk "MaskedThrows$Parser" 27 3 1 := ⟨fl3_27, by decide, by decide⟩
theorem fk3_31 : fk "MaskedThrows$Parser" 31 3 2 := ⟨fl3_31, by decide, by decide⟩
theorem fk4_43 : fk "MaskedThrows$Program" 43 4 0 := ⟨fl4_43, by decide, by decide⟩
theorem fk3_49 : fk "MaskedThrows$Parser" 49 4 0 := ⟨fl3_49, by decide, by decide⟩
theorem fk8_56 : fk "MaskedThrows" 56 4 0 := ⟨fl8_56, by decide, by decide⟩
theorem fk4_47 : fk "MaskedThrows$Program" 47 4 1 := ⟨fl4_47, by decide, by decide⟩
theorem fk8_59 : fk "MaskedThrows" 59 4 1 := ⟨fl8_59, by decide, by decide⟩
theorem fk3_131 : fk "MaskedThrows$Parser" 131 4 1 := ⟨fl3_131, by decide, by decide⟩
theorem fk4_50 : fk "MaskedThrows$Program" 50 4 2 := ⟨fl4_50, by decide, by decide⟩
theorem fk8_62 : fk "MaskedThrows" 62 4 2 := ⟨fl8_62, by decide, by decide⟩
theorem fk3_98 : fk "MaskedThrows$Parser" 98 4 2 := ⟨fl3_98, by decide, by decide⟩
theorem fk4_53 : fk "MaskedThrows$Program" 53 4 3 := ⟨fl4_53, by decide, by decide⟩
theorem fk3_110 : fk "MaskedThrows$Parser" 110 4 3 := ⟨fl3_110, by decide, by decide⟩
theorem fk4_9 : fk "MaskedThrows$Program" 9 4 4 := ⟨fl4_9, by decide, by decide⟩
theorem fk7_134 : fk "MaskedThrows$World" 134 4 4 := ⟨fl7_134, by decide, by decide⟩
theorem fk2_112 : fk "MaskedThrows$Fiber" 112 4 4 := ⟨fl2_112, by decide, by decide⟩
theorem fk4_15 : fk "MaskedThrows$Program" 15 4 5 := ⟨fl4_15, by decide, by decide⟩
theorem fk3_89 : fk "MaskedThrows$Parser" 89 4 5 := ⟨fl3_89, by decide, by decide⟩
theorem fk7_140 : fk "MaskedThrows$World" 140 4 5 := ⟨fl7_140, by decide, by decide⟩
theorem fk2_186 : fk "MaskedThrows$Fiber" 186 4 5 := ⟨fl2_186, by decide, by decide⟩
theorem fk4_18 : fk "MaskedThrows$Program" 18 4 6 := ⟨fl4_18, by decide, by decide⟩
theorem fk3_95 : fk "MaskedThrows$Parser" 95 4 6 := ⟨fl3_95, by decide, by decide⟩
theorem fk7_175 : fk "MaskedThrows$World" 175 4 6 := ⟨fl7_175, by decide, by decide⟩
theorem fk2_146 : fk "MaskedThrows$Fiber" 146 4 6 := ⟨fl2_146, by decide, by decide⟩
theorem fk4_21 : fk "MaskedThrows$Program" 21 4 7 := ⟨fl4_21, by decide, by decide⟩
theorem fk3_107 : fk "MaskedThrows$Parser" 107 4 7 := ⟨fl3_107, by decide, by decide⟩
theorem fk4_24 : fk "MaskedThrows$Program" 24 4 8 := ⟨fl4_24, by decide, by decide⟩
theorem fk3_116 : fk "MaskedThrows$Parser" 116 4 8 := ⟨fl3_116, by decide, by decide⟩
theorem fk4_27 : fk "MaskedThrows$Program" 27 4 9 := ⟨fl4_27, by decide, by decide⟩
theorem fk3_56 : fk "MaskedThrows$Parser" 56 4 9 := ⟨fl3_56, by decide, by decide⟩
theorem fk2_98 : fk "MaskedThrows$Fiber" 98 4 9 := ⟨fl2_98, by decide, by decide⟩
theorem fk4_30 : fk "MaskedThrows$Program" 30 4 10 := ⟨fl4_30, by decide, by decide⟩
theorem fk3_43 : fk "MaskedThrows$Parser" 43 4 10 := ⟨fl3_43, by decide, by decide⟩
theorem fk2_72 : fk "MaskedThrows$Fiber" 72 4 10 := ⟨fl2_72, by decide, by decide⟩
theorem fk4_33 : fk "MaskedThrows$Program" 33 4 11 := ⟨fl4_33, by decide, by decide⟩
theorem fk4_36 : fk "MaskedThrows$Program" 36 4 12 := ⟨fl4_36, by decide, by decide⟩
theorem fk4_39 : fk "MaskedThrows$Program" 39 4 13 := ⟨fl4_39, by decide, by decide⟩
theorem fk7_44 : fk "MaskedThrows$World" 44 1 0 := ⟨fl7_44, by decide, by decide⟩
theorem fk1_27 : fk "MaskedThrows$Chronicle" 27 1 0 := ⟨fl1_27, by decide, by decide⟩
theorem fk2_118 : fk "MaskedThrows$Fiber" 118 1 0 := ⟨fl2_118, by decide, by decide⟩
theorem fk8_163 : fk "MaskedThrows" 163 1 0 := ⟨fl8_163, by decide, by decide⟩
theorem fk1_23 : fk "MaskedThrows$Chronicle" 23 1 1 := ⟨fl1_23, by decide, by decide⟩
theorem fk7_48 : fk "MaskedThrows$World" 48 1 1 := ⟨fl7_48, by decide, by decide⟩
theorem fk8_168 : fk "MaskedThrows" 168 1 1 := ⟨fl8_168, by decide, by decide⟩
theorem fk1_7 : fk "MaskedThrows$Chronicle" 7 1 2 := ⟨fl1_7, by decide, by decide⟩
theorem fk8_172 : fk "MaskedThrows" 172 1 2 := ⟨fl8_172, by decide, by decide⟩
theorem fk1_13 : fk "MaskedThrows$Chronicle" 13 1 3 := ⟨fl1_13, by decide, by decide⟩
theorem fk8_175 : fk "MaskedThrows" 175 1 3 := ⟨fl8_175, by decide, by decide⟩
theorem fk1_16 : fk "MaskedThrows$Chronicle" 16 1 4 := ⟨fl1_16, by decide, by decide⟩
theorem fk8_178 : fk "MaskedThrows" 178 1 4 := ⟨fl8_178, by decide, by decide⟩
theorem fk1_19 : fk "MaskedThrows$Chronicle" 19 1 5 := ⟨fl1_19, by decide, by decide⟩
theorem fk8_181 : fk "MaskedThrows" 181 1 5 := ⟨fl8_181, by decide, by decide⟩
theorem fk5_22 : fk "MaskedThrows$Row" 22 5 0 := ⟨fl5_22, by decide, by decide⟩
theorem fk2_57 : fk "MaskedThrows$Fiber" 57 5 0 := ⟨fl2_57, by decide, by decide⟩
theorem fk7_79 : fk "MaskedThrows$World" 79 5 0 := ⟨fl7_79, by decide, by decide⟩
theorem fk8_103 : fk "MaskedThrows" 103 5 0 := ⟨fl8_103, by decide, by decide⟩
theorem fk5_9 : fk "MaskedThrows$Row" 9 5 1 := ⟨fl5_9, by decide, by decide⟩
theorem fk8_147 : fk "MaskedThrows" 147 5 1 := ⟨fl8_147, by decide, by decide⟩
theorem fk5_15 : fk "MaskedThrows$Row" 15 5 2 := ⟨fl5_15, by decide, by decide⟩
theorem fk7_106 : fk "MaskedThrows$World" 106 5 2 := ⟨fl7_106, by decide, by decide⟩
theorem fk8_150 : fk "MaskedThrows" 150 5 2 := ⟨fl8_150, by decide, by decide⟩
theorem fk5_18 : fk "MaskedThrows$Row" 18 5 3 := ⟨fl5_18, by decide, by decide⟩
theorem fk7_99 : fk "MaskedThrows$World" 99 5 3 := ⟨fl7_99, by decide, by decide⟩
theorem fk8_153 : fk "MaskedThrows" 153 5 3 := ⟨fl8_153, by decide, by decide⟩
theorem fk0_9 : fk "MaskedThrows$Body" 9 0 0 := ⟨fl0_9, by decide, by decide⟩
theorem fk2_124 : fk "MaskedThrows$Fiber" 124 0 0 := ⟨fl2_124, by decide, by decide⟩
theorem fk0_22 : fk "MaskedThrows$Body" 22 0 1 := ⟨fl0_22, by decide, by decide⟩
theorem fk2_152 : fk "MaskedThrows$Fiber" 152 0 1 := ⟨fl2_152, by decide, by decide⟩
theorem fk0_15 : fk "MaskedThrows$Body" 15 0 2 := ⟨fl0_15, by decide, by decide⟩
theorem fk2_135 : fk "MaskedThrows$Fiber" 135 0 2 := ⟨fl2_135, by decide, by decide⟩
theorem fk0_25 : fk "MaskedThrows$Body" 25 0 3 := ⟨fl0_25, by decide, by decide⟩
theorem fk2_91 : fk "MaskedThrows$Fiber" 91 0 3 := ⟨fl2_91, by decide, by decide⟩
theorem fk0_28 : fk "MaskedThrows$Body" 28 0 4 := ⟨fl0_28, by decide, by decide⟩
theorem fk2_115 : fk "MaskedThrows$Fiber" 115 0 4 := ⟨fl2_115, by decide, by decide⟩
theorem fk0_35 : fk "MaskedThrows$Body" 35 0 5 := ⟨fl0_35, by decide, by decide⟩
theorem fk2_121 : fk "MaskedThrows$Fiber" 121 0 5 := ⟨fl2_121, by decide, by decide⟩
theorem fk0_31 : fk "MaskedThrows$Body" 31 0 6 := ⟨fl0_31, by decide, by decide⟩
theorem fk2_94 : fk "MaskedThrows$Fiber" 94 0 6 := ⟨fl2_94, by decide, by decide⟩
theorem fk0_38 : fk "MaskedThrows$Body" 38 0 7 := ⟨fl0_38, by decide, by decide⟩
theorem fk2_162 : fk "MaskedThrows$Fiber" 162 0 7 := ⟨fl2_162, by decide, by decide⟩
theorem fk0_42 : fk "MaskedThrows$Body" 42 0 8 := ⟨fl0_42, by decide, by decide⟩
theorem fk2_165 : fk "MaskedThrows$Fiber" 165 0 8 := ⟨fl2_165, by decide, by decide⟩
theorem fk2_28 : fk "MaskedThrows$Fiber" 28 2 0 := ⟨fl2_28, by decide, by decide⟩
theorem fk7_116 : fk "MaskedThrows$World" 116 2 0 := ⟨fl7_116, by decide, by decide⟩
theorem fk2_12 : fk "MaskedThrows$Fiber" 12 2 1 := ⟨fl2_12, by decide, by decide⟩
theorem fk7_75 : fk "MaskedThrows$World" 75 2 1 := ⟨fl7_75, by decide, by decide⟩
theorem fk8_89 : fk "MaskedThrows" 89 2 1 := ⟨fl8_89, by decide, by decide⟩
theorem fk2_18 : fk "MaskedThrows$Fiber" 18 2 2 := ⟨fl2_18, by decide, by decide⟩
theorem fk7_137 : fk "MaskedThrows$World" 137 2 2 := ⟨fl7_137, by decide, by decide⟩
theorem fk8_140 : fk "MaskedThrows" 140 2 2 := ⟨fl8_140, by decide, by decide⟩
theorem fk2_24 : fk "MaskedThrows$Fiber" 24 2 3 := ⟨fl2_24, by decide, by decide⟩
theorem fk2_32 : fk "MaskedThrows$Fiber" 32 2 4 := ⟨fl2_32, by decide, by decide⟩
theorem fk2_36 : fk "MaskedThrows$Fiber" 36 2 5 := ⟨fl2_36, by decide, by decide⟩
theorem fk7_130 : fk "MaskedThrows$World" 130 2 5 := ⟨fl7_130, by decide, by decide⟩
theorem fk2_44 : fk "MaskedThrows$Fiber" 44 2 6 := ⟨fl2_44, by decide, by decide⟩
theorem fk7_181 : fk "MaskedThrows$World" 181 2 6 := ⟨fl7_181, by decide, by decide⟩
theorem fk8_117 : fk "MaskedThrows" 117 2 6 := ⟨fl8_117, by decide, by decide⟩
theorem fk2_60 : fk "MaskedThrows$Fiber" 60 2 7 := ⟨fl2_60, by decide, by decide⟩
theorem fk7_72 : fk "MaskedThrows$World" 72 2 7 := ⟨fl7_72, by decide, by decide⟩
theorem fk8_120 : fk "MaskedThrows" 120 2 7 := ⟨fl8_120, by decide, by decide⟩
theorem fk2_47 : fk "MaskedThrows$Fiber" 47 2 8 := ⟨fl2_47, by decide, by decide⟩
theorem fk7_65 : fk "MaskedThrows$World" 65 2 8 := ⟨fl7_65, by decide, by decide⟩
theorem fk8_123 : fk "MaskedThrows" 123 2 8 := ⟨fl8_123, by decide, by decide⟩
theorem fk2_63 : fk "MaskedThrows$Fiber" 63 2 9 := ⟨fl2_63, by decide, by decide⟩
theorem fk8_126 : fk "MaskedThrows" 126 2 9 := ⟨fl8_126, by decide, by decide⟩
theorem fk2_66 : fk "MaskedThrows$Fiber" 66 2 10 := ⟨fl2_66, by decide, by decide⟩
theorem fk8_129 : fk "MaskedThrows" 129 2 10 := ⟨fl8_129, by decide, by decide⟩
theorem fk2_50 : fk "MaskedThrows$Fiber" 50 2 11 := ⟨fl2_50, by decide, by decide⟩
theorem fk8_136 : fk "MaskedThrows" 136 2 11 := ⟨fl8_136, by decide, by decide⟩
theorem fk2_40 : fk "MaskedThrows$Fiber" 40 2 12 := ⟨fl2_40, by decide, by decide⟩
theorem fk7_123 : fk "MaskedThrows$World" 123 2 12 := ⟨fl7_123, by decide, by decide⟩
theorem fk7_102 : fk "MaskedThrows$World" 102 2 13 := ⟨fl7_102, by decide, by decide⟩
theorem fk2_88 : fk "MaskedThrows$Fiber" 88 2 13 := ⟨fl2_88, by decide, by decide⟩
theorem fk7_110 : fk "MaskedThrows$World" 110 2 14 := ⟨fl7_110, by decide, by decide⟩
theorem fk2_168 : fk "MaskedThrows$Fiber" 168 2 14 := ⟨fl2_168, by decide, by decide⟩
theorem fk7_32 : fk "MaskedThrows$World" 32 7 0 := ⟨fl7_32, by decide, by decide⟩
theorem fk8_159 : fk "MaskedThrows" 159 7 0 := ⟨fl8_159, by decide, by decide⟩
theorem fk7_36 : fk "MaskedThrows$World" 36 7 1 := ⟨fl7_36, by decide, by decide⟩
theorem fk8_71 : fk "MaskedThrows" 71 7 1 := ⟨fl8_71, by decide, by decide⟩
theorem fk7_9 : fk "MaskedThrows$World" 9 7 2 := ⟨fl7_9, by decide, by decide⟩
theorem fk8_109 : fk "MaskedThrows" 109 7 2 := ⟨fl8_109, by decide, by decide⟩
theorem fk7_15 : fk "MaskedThrows$World" 15 7 3 := ⟨fl7_15, by decide, by decide⟩
theorem fk8_113 : fk "MaskedThrows" 113 7 3 := ⟨fl8_113, by decide, by decide⟩
theorem fk7_40 : fk "MaskedThrows$World" 40 7 4 := ⟨fl7_40, by decide, by decide⟩
theorem fk8_9 : fk "MaskedThrows" 9 8 0 := ⟨fl8_9, by decide, by decide⟩
theorem fk8_38 : fk "MaskedThrows" 38 8 1 := ⟨fl8_38, by decide, by decide⟩
theorem fk8_16 : fk "MaskedThrows" 16 8 2 := ⟨fl8_16, by decide, by decide⟩
theorem fk8_22 : fk "MaskedThrows" 22 8 3 := ⟨fl8_22, by decide, by decide⟩
theorem fk8_45 : fk "MaskedThrows" 45 8 4 := ⟨fl8_45, by decide, by decide⟩
theorem fk8_27 : fk "MaskedThrows" 27 8 5 := ⟨fl8_27, by decide, by decide⟩
theorem fk8_34 : fk "MaskedThrows" 34 8 6 := ⟨fl8_34, by decide, by decide⟩
theorem fk9_7 : fk "MaskedThrowsModel" 7 9 0 := ⟨fl9_7, by decide, by decide⟩
theorem fk9_170 : fk "MaskedThrowsModel" 170 9 1 := ⟨fl9_170, by decide, by decide⟩
theorem fk9_211 : fk "MaskedThrowsModel" 211 9 2 := ⟨fl9_211, by decide, by decide⟩
theorem fk9_221 : fk "MaskedThrowsModel" 221 9 3 := ⟨fl9_221, by decide, by decide⟩
theorem fk9_218 : fk "MaskedThrowsModel" 218 9 4 := ⟨fl9_218, by decide, by decide⟩
theorem fk9_228 : fk "MaskedThrowsModel" 228 9 5 := ⟨fl9_228, by decide, by decide⟩
theorem fk9_238 : fk "MaskedThrowsModel" 238 9 6 := ⟨fl9_238, by decide, by decide⟩
theorem fk9_246 : fk "MaskedThrowsModel" 246 9 7 := ⟨fl9_246, by decide, by decide⟩
theorem fk9_252 : fk "MaskedThrowsModel" 252 9 8 := ⟨fl9_252, by decide, by decide⟩
theorem fk9_13 : fk "MaskedThrowsModel" 13 9 9 := ⟨fl9_13, by decide, by decide⟩
theorem fk9_344 : fk "MaskedThrowsModel" 344 9 10 := ⟨fl9_344, by decide, by decide⟩
theorem fk9_17 : fk "MaskedThrowsModel" 17 9 11 := ⟨fl9_17, by decide, by decide⟩
theorem fk9_21 : fk "MaskedThrowsModel" 21 9 12 := ⟨fl9_21, by decide, by decide⟩
theorem fk9_24 : fk "MaskedThrowsModel" 24 9 13 := ⟨fl9_24, by decide, by decide⟩
theorem fk9_27 : fk "MaskedThrowsModel" 27 9 14 := ⟨fl9_27, by decide, by decide⟩
theorem fk9_30 : fk "MaskedThrowsModel" 30 9 15 := ⟨fl9_30, by decide, by decide⟩
theorem fk9_33 : fk "MaskedThrowsModel" 33 9 16 := ⟨fl9_33, by decide, by decide⟩
theorem fk9_36 : fk "MaskedThrowsModel" 36 9 17 := ⟨fl9_36, by decide, by decide⟩
theorem fk9_39 : fk "MaskedThrowsModel" 39 9 18 := ⟨fl9_39, by decide, by decide⟩
theorem fk9_42 : fk "MaskedThrowsModel" 42 9 19 := ⟨fl9_42, by decide, by decide⟩
theorem fk9_45 : fk "MaskedThrowsModel" 45 9 20 := ⟨fl9_45, by decide, by decide⟩
theorem fk9_49 : fk "MaskedThrowsModel" 49 9 21 := ⟨fl9_49, by decide, by decide⟩
theorem fk9_52 : fk "MaskedThrowsModel" 52 9 22 := ⟨fl9_52, by decide, by decide⟩
theorem fk9_55 : fk "MaskedThrowsModel" 55 9 23 := ⟨fl9_55, by decide, by decide⟩
theorem fk9_58 : fk "MaskedThrowsModel" 58 9 24 := ⟨fl9_58, by decide, by decide⟩
theorem fk9_61 : fk "MaskedThrowsModel" 61 9 25 := ⟨fl9_61, by decide, by decide⟩
theorem fk9_64 : fk "MaskedThrowsModel" 64 9 26 := ⟨fl9_64, by decide, by decide⟩
theorem fk9_265 : fk "MaskedThrowsModel" 265 9 27 := ⟨fl9_265, by decide, by decide⟩
theorem fk9_68 : fk "MaskedThrowsModel" 68 9 28 := ⟨fl9_68, by decide, by decide⟩
theorem fk9_268 : fk "MaskedThrowsModel" 268 9 29 := ⟨fl9_268, by decide, by decide⟩
theorem fk9_278 : fk "MaskedThrowsModel" 278 9 30 := ⟨fl9_278, by decide, by decide⟩
theorem fk9_71 : fk "MaskedThrowsModel" 71 9 31 := ⟨fl9_71, by decide, by decide⟩
theorem fk9_281 : fk "MaskedThrowsModel" 281 9 32 := ⟨fl9_281, by decide, by decide⟩
theorem fk9_74 : fk "MaskedThrowsModel" 74 9 33 := ⟨fl9_74, by decide, by decide⟩
theorem fk9_77 : fk "MaskedThrowsModel" 77 9 34 := ⟨fl9_77, by decide, by decide⟩
theorem fk9_80 : fk "MaskedThrowsModel" 80 9 35 := ⟨fl9_80, by decide, by decide⟩
theorem fk9_298 : fk "MaskedThrowsModel" 298 9 36 := ⟨fl9_298, by decide, by decide⟩
theorem fk9_353 : fk "MaskedThrowsModel" 353 9 37 := ⟨fl9_353, by decide, by decide⟩
theorem fk9_83 : fk "MaskedThrowsModel" 83 9 38 := ⟨fl9_83, by decide, by decide⟩
theorem fk9_86 : fk "MaskedThrowsModel" 86 9 39 := ⟨fl9_86, by decide, by decide⟩
theorem fk9_89 : fk "MaskedThrowsModel" 89 9 40 := ⟨fl9_89, by decide, by decide⟩
theorem fk9_92 : fk "MaskedThrowsModel" 92 9 41 := ⟨fl9_92, by decide, by decide⟩
theorem fk9_95 : fk "MaskedThrowsModel" 95 9 42 := ⟨fl9_95, by decide, by decide⟩
theorem fk9_98 : fk "MaskedThrowsModel" 98 9 43 := ⟨fl9_98, by decide, by decide⟩
theorem fk9_101 : fk "MaskedThrowsModel" 101 9 44 := ⟨fl9_101, by decide, by decide⟩
theorem fk9_104 : fk "MaskedThrowsModel" 104 9 45 := ⟨fl9_104, by decide, by decide⟩
theorem fk9_107 : fk "MaskedThrowsModel" 107 9 46 := ⟨fl9_107, by decide, by decide⟩
theorem fk9_110 : fk "MaskedThrowsModel" 110 9 47 := ⟨fl9_110, by decide, by decide⟩
theorem fk9_113 : fk "MaskedThrowsModel" 113 9 48 := ⟨fl9_113, by decide, by decide⟩
theorem fk9_116 : fk "MaskedThrowsModel" 116 9 49 := ⟨fl9_116, by decide, by decide⟩
theorem fk9_119 : fk "MaskedThrowsModel" 119 9 50 := ⟨fl9_119, by decide, by decide⟩
theorem fk9_122 : fk "MaskedThrowsModel" 122 9 51 := ⟨fl9_122, by decide, by decide⟩
theorem fk9_125 : fk "MaskedThrowsModel" 125 9 52 := ⟨fl9_125, by decide, by decide⟩
theorem fk9_128 : fk "MaskedThrowsModel" 128 9 53 := ⟨fl9_128, by decide, by decide⟩
theorem fk9_131 : fk "MaskedThrowsModel" 131 9 54 := ⟨fl9_131, by decide, by decide⟩
theorem fk9_134 : fk "MaskedThrowsModel" 134 9 55 := ⟨fl9_134, by decide, by decide⟩
theorem fk9_137 : fk "MaskedThrowsModel" 137 9 56 := ⟨fl9_137, by decide, by decide⟩
theorem fk9_140 : fk "MaskedThrowsModel" 140 9 57 := ⟨fl9_140, by decide, by decide⟩
theorem fk9_143 : fk "MaskedThrowsModel" 143 9 58 := ⟨fl9_143, by decide, by decide⟩
theorem fk9_146 : fk "MaskedThrowsModel" 146 9 59 := ⟨fl9_146, by decide, by decide⟩
theorem fk9_407 : fk "MaskedThrowsModel" 407 9 60 := ⟨fl9_407, by decide, by decide⟩
theorem fk9_149 : fk "MaskedThrowsModel" 149 9 61 := ⟨fl9_149, by decide, by decide⟩
theorem fk9_152 : fk "MaskedThrowsModel" 152 9 62 := ⟨fl9_152, by decide, by decide⟩
theorem fk9_350 : fk "MaskedThrowsModel" 350 9 63 := ⟨fl9_350, by decide, by decide⟩
theorem fk9_155 : fk "MaskedThrowsModel" 155 9 64 := ⟨fl9_155, by decide, by decide⟩
theorem fk9_158 : fk "MaskedThrowsModel" 158 9 65 := ⟨fl9_158, by decide, by decide⟩
theorem fk9_161 : fk "MaskedThrowsModel" 161 9 66 := ⟨fl9_161, by decide, by decide⟩
theorem fk9_164 : fk "MaskedThrowsModel" 164 9 67 := ⟨fl9_164, by decide, by decide⟩
theorem fk9_167 : fk "MaskedThrowsModel" 167 9 68 := ⟨fl9_167, by decide, by decide⟩
def mv (y np ci : Nat) : Prop := mOK y np ∧ Cond.instanceMethod (mY y) ∈ gw ∧ Cond.selects (mY y).cls (mY y) (mY y) ∈ gw ∧ ci < 10 ∧ clS ci = (mY y).cls
def ms0 (y np : Nat) : Prop := mOK y np ∧ Cond.static (mY y) ∈ gw
theorem mv10 : mv 10 5 8 := ⟨⟨by decide, mG10, by decide +kernel, by decide +kernel, by decide +kernel⟩, mI10, mS10, by decide, by decide +kernel⟩
theorem mv11 : mv 11 1 8 := ⟨⟨by decide, mG11, by decide +kernel, by decide +kernel, by decide +kernel⟩, mI11, mS11, by decide, by decide +kernel⟩
theorem mv12 : mv 12 1 8 := ⟨⟨by decide, mG12, by decide +kernel, by decide +kernel, by decide +kernel⟩, mI12, mS12, by decide, by decide +kernel⟩
theorem mv13 : mv 13 0 8 := ⟨⟨by decide, mG13, by decide +kernel, by decide +kernel, by decide +kernel⟩, mI13, mS13, by decide, by decide +kernel⟩
theorem mv14 : mv 14 3 3 := ⟨⟨by decide, mG14, by decide +kernel, by decide +kernel, by decide +kernel⟩, mI14, mS14, by decide, by decide +kernel⟩
theorem mv15 : mv 15 2 6 := ⟨⟨by decide, mG15, by decide +kernel, by decide +kernel, by decide +kernel⟩, mI15, mS15, by decide, by decide +kernel⟩
theorem mv16 : ms0 16 1 := ⟨⟨by decide, mG16, by decide +kernel, by decide +kernel, by decide +kernel⟩, mT16⟩
theorem mv17 : mv 17 3 6 := ⟨⟨by decide, mG17, by decide +kernel, by decide +kernel, by decide +kernel⟩, mI17, mS17, by decide, by decide +kernel⟩
theorem mv18 : ms0 18 3 := ⟨⟨by decide, mG18, by decide +kernel, by decide +kernel, by decide +kernel⟩, mT18⟩
theorem mv19 : ms0 19 4 := ⟨⟨by decide, mG19, by decide +kernel, by decide +kernel, by decide +kernel⟩, mT19⟩
theorem mv22 : ms0 22 2 := ⟨⟨by decide, mG22, by decide +kernel, by decide +kernel, by decide +kernel⟩, mT22⟩
theorem mv23 : ms0 23 2 := ⟨⟨by decide, mG23, by decide +kernel, by decide +kernel, by decide +kernel⟩, mT23⟩
theorem mv24 : ms0 24 3 := ⟨⟨by decide, mG24, by decide +kernel, by decide +kernel, by decide +kernel⟩, mT24⟩
theorem mv25 : ms0 25 2 := ⟨⟨by decide, mG25, by decide +kernel, by decide +kernel, by decide +kernel⟩, mT25⟩
theorem mv26 : ms0 26 2 := ⟨⟨by decide, mG26, by decide +kernel, by decide +kernel, by decide +kernel⟩, mT26⟩
theorem mv27 : ms0 27 1 := ⟨⟨by decide, mG27, by decide +kernel, by decide +kernel, by decide +kernel⟩, mT27⟩
theorem mv28 : ms0 28 2 := ⟨⟨by decide, mG28, by decide +kernel, by decide +kernel, by decide +kernel⟩, mT28⟩
theorem mv29 : mv 29 3 6 := ⟨⟨by decide, mG29, by decide +kernel, by decide +kernel, by decide +kernel⟩, mI29, mS29, by decide, by decide +kernel⟩
theorem mv30 : ms0 30 1 := ⟨⟨by decide, mG30, by decide +kernel, by decide +kernel, by decide +kernel⟩, mT30⟩
theorem mv31 : mv 31 3 6 := ⟨⟨by decide, mG31, by decide +kernel, by decide +kernel, by decide +kernel⟩, mI31, mS31, by decide, by decide +kernel⟩
theorem mv32 : ms0 32 1 := ⟨⟨by decide, mG32, by decide +kernel, by decide +kernel, by decide +kernel⟩, mT32⟩
theorem mv35 : mv 35 0 4 := ⟨⟨by decide, mG35, by decide +kernel, by decide +kernel, by decide +kernel⟩, mI35, mS35, by decide, by decide +kernel⟩
theorem mv36 : mv 36 3 3 := ⟨⟨by decide, mG36, by decide +kernel, by decide +kernel, by decide +kernel⟩, mI36, mS36, by decide, by decide +kernel⟩
theorem mv37 : mv 37 1 3 := ⟨⟨by decide, mG37, by decide +kernel, by decide +kernel, by decide +kernel⟩, mI37, mS37, by decide, by decide +kernel⟩
theorem mv38 : ms0 38 1 := ⟨⟨by decide, mG38, by decide +kernel, by decide +kernel, by decide +kernel⟩, mT38⟩
theorem mv39 : mv 39 1 4 := ⟨⟨by decide, mG39, by decide +kernel, by decide +kernel, by decide +kernel⟩, mI39, mS39, by decide, by decide +kernel⟩
theorem mv40 : mv 40 1 3 := ⟨⟨by decide, mG40, by decide +kernel, by decide +kernel, by decide +kernel⟩, mI40, mS40, by decide, by decide +kernel⟩
theorem mv41 : mv 41 1 3 := ⟨⟨by decide, mG41, by decide +kernel, by decide +kernel, by decide +kernel⟩, mI41, mS41, by decide, by decide +kernel⟩
theorem mv42 : mv 42 1 3 := ⟨⟨by decide, mG42, by decide +kernel, by decide +kernel, by decide +kernel⟩, mI42, mS42, by decide, by decide +kernel⟩
theorem mv43 : mv 43 1 3 := ⟨⟨by decide, mG43, by decide +kernel, by decide +kernel, by decide +kernel⟩, mI43, mS43, by decide, by decide +kernel⟩
theorem mv44 : mv 44 1 3 := ⟨⟨by decide, mG44, by decide +kernel, by decide +kernel, by decide +kernel⟩, mI44, mS44, by decide, by decide +kernel⟩
theorem mv45 : mv 45 1 3 := ⟨⟨by decide, mG45, by decide +kernel, by decide +kernel, by decide +kernel⟩, mI45, mS45, by decide, by decide +kernel⟩
theorem mv46 : mv 46 1 3 := ⟨⟨by decide, mG46, by decide +kernel, by decide +kernel, by decide +kernel⟩, mI46, mS46, by decide, by decide +kernel⟩
theorem mv47 : mv 47 2 4 := ⟨⟨by decide, mG47, by decide +kernel, by decide +kernel, by decide +kernel⟩, mI47, mS47, by decide, by decide +kernel⟩
theorem mv48 : mv 48 1 3 := ⟨⟨by decide, mG48, by decide +kernel, by decide +kernel, by decide +kernel⟩, mI48, mS48, by decide, by decide +kernel⟩
theorem mv49 : mv 49 3 3 := ⟨⟨by decide, mG49, by decide +kernel, by decide +kernel, by decide +kernel⟩, mI49, mS49, by decide, by decide +kernel⟩
theorem mv50 : ms0 50 2 := ⟨⟨by decide, mG50, by decide +kernel, by decide +kernel, by decide +kernel⟩, mT50⟩
theorem mv51 : mv 51 2 3 := ⟨⟨by decide, mG51, by decide +kernel, by decide +kernel, by decide +kernel⟩, mI51, mS51, by decide, by decide +kernel⟩
theorem mv52 : mv 52 3 3 := ⟨⟨by decide, mG52, by decide +kernel, by decide +kernel, by decide +kernel⟩, mI52, mS52, by decide, by decide +kernel⟩
theorem mv53 : mv 53 0 8 := ⟨⟨by decide, mG53, by decide +kernel, by decide +kernel, by decide +kernel⟩, mI53, mS53, by decide, by decide +kernel⟩
theorem mv54 : mv 54 2 8 := ⟨⟨by decide, mG54, by decide +kernel, by decide +kernel, by decide +kernel⟩, mI54, mS54, by decide, by decide +kernel⟩
theorem mv55 : mv 55 1 8 := ⟨⟨by decide, mG55, by decide +kernel, by decide +kernel, by decide +kernel⟩, mI55, mS55, by decide, by decide +kernel⟩
theorem mv56 : mv 56 2 8 := ⟨⟨by decide, mG56, by decide +kernel, by decide +kernel, by decide +kernel⟩, mI56, mS56, by decide, by decide +kernel⟩
theorem mv57 : ms0 57 1 := ⟨⟨by decide, mG57, by decide +kernel, by decide +kernel, by decide +kernel⟩, mT57⟩
theorem mv58 : mv 58 1 8 := ⟨⟨by decide, mG58, by decide +kernel, by decide +kernel, by decide +kernel⟩, mI58, mS58, by decide, by decide +kernel⟩
theorem mv59 : mv 59 1 2 := ⟨⟨by decide, mG59, by decide +kernel, by decide +kernel, by decide +kernel⟩, mI59, mS59, by decide, by decide +kernel⟩
theorem mv60 : mv 60 0 2 := ⟨⟨by decide, mG60, by decide +kernel, by decide +kernel, by decide +kernel⟩, mI60, mS60, by decide, by decide +kernel⟩
theorem mv61 : mv 61 0 2 := ⟨⟨by decide, mG61, by decide +kernel, by decide +kernel, by decide +kernel⟩, mI61, mS61, by decide, by decide +kernel⟩
theorem mv62 : mv 62 4 0 := ⟨⟨by decide, mG62, by decide +kernel, by decide +kernel, by decide +kernel⟩, mI62, mS62, by decide, by decide +kernel⟩
theorem mv63 : mv 63 2 0 := ⟨⟨by decide, mG63, by decide +kernel, by decide +kernel, by decide +kernel⟩, mI63, mS63, by decide, by decide +kernel⟩
theorem mv64 : mv 64 1 8 := ⟨⟨by decide, mG64, by decide +kernel, by decide +kernel, by decide +kernel⟩, mI64, mS64, by decide, by decide +kernel⟩
theorem mv65 : mv 65 1 7 := ⟨⟨by decide, mG65, by decide +kernel, by decide +kernel, by decide +kernel⟩, mI65, mS65, by decide, by decide +kernel⟩
theorem mv66 : mv 66 0 2 := ⟨⟨by decide, mG66, by decide +kernel, by decide +kernel, by decide +kernel⟩, mI66, mS66, by decide, by decide +kernel⟩
theorem mv67 : mv 67 3 5 := ⟨⟨by decide, mG67, by decide +kernel, by decide +kernel, by decide +kernel⟩, mI67, mS67, by decide, by decide +kernel⟩
theorem mv68 : mv 68 1 7 := ⟨⟨by decide, mG68, by decide +kernel, by decide +kernel, by decide +kernel⟩, mI68, mS68, by decide, by decide +kernel⟩
theorem mv69 : mv 69 0 2 := ⟨⟨by decide, mG69, by decide +kernel, by decide +kernel, by decide +kernel⟩, mI69, mS69, by decide, by decide +kernel⟩
theorem mv70 : mv 70 0 2 := ⟨⟨by decide, mG70, by decide +kernel, by decide +kernel, by decide +kernel⟩, mI70, mS70, by decide, by decide +kernel⟩
theorem mv71 : mv 71 3 2 := ⟨⟨by decide, mG71, by decide +kernel, by decide +kernel, by decide +kernel⟩, mI71, mS71, by decide, by decide +kernel⟩
theorem mv72 : mv 72 2 4 := ⟨⟨by decide, mG72, by decide +kernel, by decide +kernel, by decide +kernel⟩, mI72, mS72, by decide, by decide +kernel⟩
theorem mv73 : mv 73 3 1 := ⟨⟨by decide, mG73, by decide +kernel, by decide +kernel, by decide +kernel⟩, mI73, mS73, by decide, by decide +kernel⟩
theorem mv74 : mv 74 1 2 := ⟨⟨by decide, mG74, by decide +kernel, by decide +kernel, by decide +kernel⟩, mI74, mS74, by decide, by decide +kernel⟩
theorem mv75 : mv 75 0 2 := ⟨⟨by decide, mG75, by decide +kernel, by decide +kernel, by decide +kernel⟩, mI75, mS75, by decide, by decide +kernel⟩
theorem mv76 : mv 76 1 2 := ⟨⟨by decide, mG76, by decide +kernel, by decide +kernel, by decide +kernel⟩, mI76, mS76, by decide, by decide +kernel⟩
theorem mv77 : mv 77 1 5 := ⟨⟨by decide, mG77, by decide +kernel, by decide +kernel, by decide +kernel⟩, mI77, mS77, by decide, by decide +kernel⟩
theorem mv78 : mv 78 1 5 := ⟨⟨by decide, mG78, by decide +kernel, by decide +kernel, by decide +kernel⟩, mI78, mS78, by decide, by decide +kernel⟩
theorem mv79 : mv 79 0 2 := ⟨⟨by decide, mG79, by decide +kernel, by decide +kernel, by decide +kernel⟩, mI79, mS79, by decide, by decide +kernel⟩
theorem mv80 : mv 80 1 7 := ⟨⟨by decide, mG80, by decide +kernel, by decide +kernel, by decide +kernel⟩, mI80, mS80, by decide, by decide +kernel⟩
theorem mv81 : mv 81 1 7 := ⟨⟨by decide, mG81, by decide +kernel, by decide +kernel, by decide +kernel⟩, mI81, mS81, by decide, by decide +kernel⟩
theorem mv82 : mv 82 1 5 := ⟨⟨by decide, mG82, by decide +kernel, by decide +kernel, by decide +kernel⟩, mI82, mS82, by decide, by decide +kernel⟩
theorem mv83 : mv 83 0 2 := ⟨⟨by decide, mG83, by decide +kernel, by decide +kernel, by decide +kernel⟩, mI83, mS83, by decide, by decide +kernel⟩
theorem mv84 : mv 84 2 7 := ⟨⟨by decide, mG84, by decide +kernel, by decide +kernel, by decide +kernel⟩, mI84, mS84, by decide, by decide +kernel⟩
theorem mv85 : mv 85 2 4 := ⟨⟨by decide, mG85, by decide +kernel, by decide +kernel, by decide +kernel⟩, mI85, mS85, by decide, by decide +kernel⟩
theorem mv86 : ms0 86 3 := ⟨⟨by decide, mG86, by decide +kernel, by decide +kernel, by decide +kernel⟩, mT86⟩
theorem mv87 : mv 87 2 2 := ⟨⟨by decide, mG87, by decide +kernel, by decide +kernel, by decide +kernel⟩, mI87, mS87, by decide, by decide +kernel⟩
theorem mv88 : mv 88 2 7 := ⟨⟨by decide, mG88, by decide +kernel, by decide +kernel, by decide +kernel⟩, mI88, mS88, by decide, by decide +kernel⟩
theorem mv89 : mv 89 2 7 := ⟨⟨by decide, mG89, by decide +kernel, by decide +kernel, by decide +kernel⟩, mI89, mS89, by decide, by decide +kernel⟩
theorem mv90 : mv 90 2 7 := ⟨⟨by decide, mG90, by decide +kernel, by decide +kernel, by decide +kernel⟩, mI90, mS90, by decide, by decide +kernel⟩
theorem mv91 : ms0 91 2 := ⟨⟨by decide, mG91, by decide +kernel, by decide +kernel, by decide +kernel⟩, mT91⟩
theorem mv92 : mv 92 2 7 := ⟨⟨by decide, mG92, by decide +kernel, by decide +kernel, by decide +kernel⟩, mI92, mS92, by decide, by decide +kernel⟩
theorem mv93 : mv 93 0 2 := ⟨⟨by decide, mG93, by decide +kernel, by decide +kernel, by decide +kernel⟩, mI93, mS93, by decide, by decide +kernel⟩
theorem mv94 : mv 94 1 2 := ⟨⟨by decide, mG94, by decide +kernel, by decide +kernel, by decide +kernel⟩, mI94, mS94, by decide, by decide +kernel⟩
theorem mv95 : mv 95 0 2 := ⟨⟨by decide, mG95, by decide +kernel, by decide +kernel, by decide +kernel⟩, mI95, mS95, by decide, by decide +kernel⟩
theorem mv96 : mv 96 2 8 := ⟨⟨by decide, mG96, by decide +kernel, by decide +kernel, by decide +kernel⟩, mI96, mS96, by decide, by decide +kernel⟩
theorem mv97 : mv 97 2 8 := ⟨⟨by decide, mG97, by decide +kernel, by decide +kernel, by decide +kernel⟩, mI97, mS97, by decide, by decide +kernel⟩
theorem mv98 : mv 98 1 5 := ⟨⟨by decide, mG98, by decide +kernel, by decide +kernel, by decide +kernel⟩, mI98, mS98, by decide, by decide +kernel⟩
theorem mv99 : mv 99 2 8 := ⟨⟨by decide, mG99, by decide +kernel, by decide +kernel, by decide +kernel⟩, mI99, mS99, by decide, by decide +kernel⟩
theorem mv100 : ms0 100 1 := ⟨⟨by decide, mG100, by decide +kernel, by decide +kernel, by decide +kernel⟩, mT100⟩
theorem mv101 : mv 101 1 8 := ⟨⟨by decide, mG101, by decide +kernel, by decide +kernel, by decide +kernel⟩, mI101, mS101, by decide, by decide +kernel⟩
theorem mv102 : mv 102 1 8 := ⟨⟨by decide, mG102, by decide +kernel, by decide +kernel, by decide +kernel⟩, mI102, mS102, by decide, by decide +kernel⟩
theorem mv103 : mv 103 2 8 := ⟨⟨by decide, mG103, by decide +kernel, by decide +kernel, by decide +kernel⟩, mI103, mS103, by decide, by decide +kernel⟩
theorem mv104 : mv 104 0 2 := ⟨⟨by decide, mG104, by decide +kernel, by decide +kernel, by decide +kernel⟩, mI104, mS104, by decide, by decide +kernel⟩
theorem mv105 : mv 105 1 8 := ⟨⟨by decide, mG105, by decide +kernel, by decide +kernel, by decide +kernel⟩, mI105, mS105, by decide, by decide +kernel⟩
theorem mv106 : mv 106 2 8 := ⟨⟨by decide, mG106, by decide +kernel, by decide +kernel, by decide +kernel⟩, mI106, mS106, by decide, by decide +kernel⟩
theorem mv107 : mv 107 3 8 := ⟨⟨by decide, mG107, by decide +kernel, by decide +kernel, by decide +kernel⟩, mI107, mS107, by decide, by decide +kernel⟩
theorem mv108 : mv 108 2 8 := ⟨⟨by decide, mG108, by decide +kernel, by decide +kernel, by decide +kernel⟩, mI108, mS108, by decide, by decide +kernel⟩
theorem mv109 : mv 109 2 8 := ⟨⟨by decide, mG109, by decide +kernel, by decide +kernel, by decide +kernel⟩, mI109, mS109, by decide, by decide +kernel⟩
theorem mv110 : mv 110 0 8 := ⟨⟨by decide, mG110, by decide +kernel, by decide +kernel, by decide +kernel⟩, mI110, mS110, by decide, by decide +kernel⟩
theorem mv111 : mv 111 0 7 := ⟨⟨by decide, mG111, by decide +kernel, by decide +kernel, by decide +kernel⟩, mI111, mS111, by decide, by decide +kernel⟩
theorem mv112 : mv 112 1 7 := ⟨⟨by decide, mG112, by decide +kernel, by decide +kernel, by decide +kernel⟩, mI112, mS112, by decide, by decide +kernel⟩
theorem mv113 : mv 113 1 2 := ⟨⟨by decide, mG113, by decide +kernel, by decide +kernel, by decide +kernel⟩, mI113, mS113, by decide, by decide +kernel⟩
theorem mv114 : mv 114 1 5 := ⟨⟨by decide, mG114, by decide +kernel, by decide +kernel, by decide +kernel⟩, mI114, mS114, by decide, by decide +kernel⟩
theorem mv115 : mv 115 1 0 := ⟨⟨by decide, mG115, by decide +kernel, by decide +kernel, by decide +kernel⟩, mI115, mS115, by decide, by decide +kernel⟩
theorem mv116 : mv 116 0 8 := ⟨⟨by decide, mG116, by decide +kernel, by decide +kernel, by decide +kernel⟩, mI116, mS116, by decide, by decide +kernel⟩
theorem mv117 : mv 117 0 8 := ⟨⟨by decide, mG117, by decide +kernel, by decide +kernel, by decide +kernel⟩, mI117, mS117, by decide, by decide +kernel⟩
theorem mv118 : mv 118 2 8 := ⟨⟨by decide, mG118, by decide +kernel, by decide +kernel, by decide +kernel⟩, mI118, mS118, by decide, by decide +kernel⟩
theorem mv119 : mv 119 1 8 := ⟨⟨by decide, mG119, by decide +kernel, by decide +kernel, by decide +kernel⟩, mI119, mS119, by decide, by decide +kernel⟩
theorem mv120 : mv 120 1 8 := ⟨⟨by decide, mG120, by decide +kernel, by decide +kernel, by decide +kernel⟩, mI120, mS120, by decide, by decide +kernel⟩
theorem mv121 : mv 121 0 8 := ⟨⟨by decide, mG121, by decide +kernel, by decide +kernel, by decide +kernel⟩, mI121, mS121, by decide, by decide +kernel⟩
theorem mv122 : mv 122 0 7 := ⟨⟨by decide, mG122, by decide +kernel, by decide +kernel, by decide +kernel⟩, mI122, mS122, by decide, by decide +kernel⟩
theorem mv124 : mv 124 5 9 := ⟨⟨by decide, mG124, by decide +kernel, by decide +kernel, by decide +kernel⟩, mI124, mS124, by decide, by decide +kernel⟩
theorem mv125 : mv 125 1 9 := ⟨⟨by decide, mG125, by decide +kernel, by decide +kernel, by decide +kernel⟩, mI125, mS125, by decide, by decide +kernel⟩
theorem mv126 : mv 126 0 9 := ⟨⟨by decide, mG126, by decide +kernel, by decide +kernel, by decide +kernel⟩, mI126, mS126, by decide, by decide +kernel⟩
theorem mv127 : mv 127 0 9 := ⟨⟨by decide, mG127, by decide +kernel, by decide +kernel, by decide +kernel⟩, mI127, mS127, by decide, by decide +kernel⟩
theorem mv128 : mv 128 0 9 := ⟨⟨by decide, mG128, by decide +kernel, by decide +kernel, by decide +kernel⟩, mI128, mS128, by decide, by decide +kernel⟩
theorem mv129 : mv 129 1 9 := ⟨⟨by decide, mG129, by decide +kernel, by decide +kernel, by decide +kernel⟩, mI129, mS129, by decide, by decide +kernel⟩
theorem mv130 : ms0 130 1 := ⟨⟨by decide, mG130, by decide +kernel, by decide +kernel, by decide +kernel⟩, mT130⟩
theorem mv131 : ms0 131 1 := ⟨⟨by decide, mG131, by decide +kernel, by decide +kernel, by decide +kernel⟩, mT131⟩
theorem mv132 : ms0 132 1 := ⟨⟨by decide, mG132, by decide +kernel, by decide +kernel, by decide +kernel⟩, mT132⟩
theorem mv133 : ms0 133 1 := ⟨⟨by decide, mG133, by decide +kernel, by decide +kernel, by decide +kernel⟩, mT133⟩
theorem mv134 : mv 134 1 9 := ⟨⟨by decide, mG134, by decide +kernel, by decide +kernel, by decide +kernel⟩, mI134, mS134, by decide, by decide +kernel⟩
theorem mv135 : mv 135 0 9 := ⟨⟨by decide, mG135, by decide +kernel, by decide +kernel, by decide +kernel⟩, mI135, mS135, by decide, by decide +kernel⟩
theorem mv136 : mv 136 0 9 := ⟨⟨by decide, mG136, by decide +kernel, by decide +kernel, by decide +kernel⟩, mI136, mS136, by decide, by decide +kernel⟩
theorem mv137 : mv 137 1 9 := ⟨⟨by decide, mG137, by decide +kernel, by decide +kernel, by decide +kernel⟩, mI137, mS137, by decide, by decide +kernel⟩
theorem mv138 : mv 138 2 9 := ⟨⟨by decide, mG138, by decide +kernel, by decide +kernel, by decide +kernel⟩, mI138, mS138, by decide, by decide +kernel⟩
theorem mv139 : mv 139 0 9 := ⟨⟨by decide, mG139, by decide +kernel, by decide +kernel, by decide +kernel⟩, mI139, mS139, by decide, by decide +kernel⟩
theorem mv140 : mv 140 0 9 := ⟨⟨by decide, mG140, by decide +kernel, by decide +kernel, by decide +kernel⟩, mI140, mS140, by decide, by decide +kernel⟩
theorem mv141 : mv 141 0 9 := ⟨⟨by decide, mG141, by decide +kernel, by decide +kernel, by decide +kernel⟩, mI141, mS141, by decide, by decide +kernel⟩
theorem mv142 : ms0 142 1 := ⟨⟨by decide, mG142, by decide +kernel, by decide +kernel, by decide +kernel⟩, mT142⟩
theorem mv143 : mv 143 0 9 := ⟨⟨by decide, mG143, by decide +kernel, by decide +kernel, by decide +kernel⟩, mI143, mS143, by decide, by decide +kernel⟩
theorem mv144 : mv 144 1 9 := ⟨⟨by decide, mG144, by decide +kernel, by decide +kernel, by decide +kernel⟩, mI144, mS144, by decide, by decide +kernel⟩
theorem mv145 : mv 145 1 9 := ⟨⟨by decide, mG145, by decide +kernel, by decide +kernel, by decide +kernel⟩, mI145, mS145, by decide, by decide +kernel⟩
theorem mv146 : mv 146 0 9 := ⟨⟨by decide, mG146, by decide +kernel, by decide +kernel, by decide +kernel⟩, mI146, mS146, by decide, by decide +kernel⟩
theorem mv147 : mv 147 0 9 := ⟨⟨by decide, mG147, by decide +kernel, by decide +kernel, by decide +kernel⟩, mI147, mS147, by decide, by decide +kernel⟩
theorem mv148 : mv 148 3 9 := ⟨⟨by decide, mG148, by decide +kernel, by decide +kernel, by decide +kernel⟩, mI148, mS148, by decide, by decide +kernel⟩
theorem mv149 : mv 149 0 9 := ⟨⟨by decide, mG149, by decide +kernel, by decide +kernel, by decide +kernel⟩, mI149, mS149, by decide, by decide +kernel⟩
theorem mv150 : mv 150 1 9 := ⟨⟨by decide, mG150, by decide +kernel, by decide +kernel, by decide +kernel⟩, mI150, mS150, by decide, by decide +kernel⟩
theorem mv151 : ms0 151 1 := ⟨⟨by decide, mG151, by decide +kernel, by decide +kernel, by decide +kernel⟩, mT151⟩
theorem mv152 : mv 152 1 9 := ⟨⟨by decide, mG152, by decide +kernel, by decide +kernel, by decide +kernel⟩, mI152, mS152, by decide, by decide +kernel⟩
theorem mv153 : mv 153 2 9 := ⟨⟨by decide, mG153, by decide +kernel, by decide +kernel, by decide +kernel⟩, mI153, mS153, by decide, by decide +kernel⟩
theorem mv154 : mv 154 0 9 := ⟨⟨by decide, mG154, by decide +kernel, by decide +kernel, by decide +kernel⟩, mI154, mS154, by decide, by decide +kernel⟩
theorem mv155 : mv 155 2 9 := ⟨⟨by decide, mG155, by decide +kernel, by decide +kernel, by decide +kernel⟩, mI155, mS155, by decide, by decide +kernel⟩
theorem mv156 : mv 156 2 9 := ⟨⟨by decide, mG156, by decide +kernel, by decide +kernel, by decide +kernel⟩, mI156, mS156, by decide, by decide +kernel⟩
theorem mv157 : ms0 157 1 := ⟨⟨by decide, mG157, by decide +kernel, by decide +kernel, by decide +kernel⟩, mT157⟩
theorem mv158 : mv 158 1 9 := ⟨⟨by decide, mG158, by decide +kernel, by decide +kernel, by decide +kernel⟩, mI158, mS158, by decide, by decide +kernel⟩
theorem mv159 : mv 159 1 9 := ⟨⟨by decide, mG159, by decide +kernel, by decide +kernel, by decide +kernel⟩, mI159, mS159, by decide, by decide +kernel⟩
theorem mv160 : mv 160 0 9 := ⟨⟨by decide, mG160, by decide +kernel, by decide +kernel, by decide +kernel⟩, mI160, mS160, by decide, by decide +kernel⟩
theorem mv161 : mv 161 5 9 := ⟨⟨by decide, mG161, by decide +kernel, by decide +kernel, by decide +kernel⟩, mI161, mS161, by decide, by decide +kernel⟩
theorem mv162 : mv 162 1 9 := ⟨⟨by decide, mG162, by decide +kernel, by decide +kernel, by decide +kernel⟩, mI162, mS162, by decide, by decide +kernel⟩
theorem mv163 : mv 163 1 9 := ⟨⟨by decide, mG163, by decide +kernel, by decide +kernel, by decide +kernel⟩, mI163, mS163, by decide, by decide +kernel⟩
theorem mv164 : mv 164 1 9 := ⟨⟨by decide, mG164, by decide +kernel, by decide +kernel, by decide +kernel⟩, mI164, mS164, by decide, by decide +kernel⟩
theorem mv165 : mv 165 2 9 := ⟨⟨by decide, mG165, by decide +kernel, by decide +kernel, by decide +kernel⟩, mI165, mS165, by decide, by decide +kernel⟩
theorem mv166 : mv 166 3 9 := ⟨⟨by decide, mG166, by decide +kernel, by decide +kernel, by decide +kernel⟩, mI166, mS166, by decide, by decide +kernel⟩
theorem mv167 : mv 167 4 9 := ⟨⟨by decide, mG167, by decide +kernel, by decide +kernel, by decide +kernel⟩, mI167, mS167, by decide, by decide +kernel⟩
theorem mv168 : ms0 168 2 := ⟨⟨by decide, mG168, by decide +kernel, by decide +kernel, by decide +kernel⟩, mT168⟩
theorem mv169 : mv 169 4 9 := ⟨⟨by decide, mG169, by decide +kernel, by decide +kernel, by decide +kernel⟩, mI169, mS169, by decide, by decide +kernel⟩
theorem mv170 : mv 170 2 9 := ⟨⟨by decide, mG170, by decide +kernel, by decide +kernel, by decide +kernel⟩, mI170, mS170, by decide, by decide +kernel⟩
theorem mv171 : mv 171 1 9 := ⟨⟨by decide, mG171, by decide +kernel, by decide +kernel, by decide +kernel⟩, mI171, mS171, by decide, by decide +kernel⟩
theorem mv172 : mv 172 1 9 := ⟨⟨by decide, mG172, by decide +kernel, by decide +kernel, by decide +kernel⟩, mI172, mS172, by decide, by decide +kernel⟩
theorem mv173 : mv 173 2 9 := ⟨⟨by decide, mG173, by decide +kernel, by decide +kernel, by decide +kernel⟩, mI173, mS173, by decide, by decide +kernel⟩
theorem mv174 : mv 174 1 9 := ⟨⟨by decide, mG174, by decide +kernel, by decide +kernel, by decide +kernel⟩, mI174, mS174, by decide, by decide +kernel⟩
theorem mv175 : mv 175 2 9 := ⟨⟨by decide, mG175, by decide +kernel, by decide +kernel, by decide +kernel⟩, mI175, mS175, by decide, by decide +kernel⟩
theorem mv176 : mv 176 2 9 := ⟨⟨by decide, mG176, by decide +kernel, by decide +kernel, by decide +kernel⟩, mI176, mS176, by decide, by decide +kernel⟩
theorem mv177 : mv 177 2 9 := ⟨⟨by decide, mG177, by decide +kernel, by decide +kernel, by decide +kernel⟩, mI177, mS177, by decide, by decide +kernel⟩
theorem mv178 : mv 178 2 9 := ⟨⟨by decide, mG178, by decide +kernel, by decide +kernel, by decide +kernel⟩, mI178, mS178, by decide, by decide +kernel⟩
theorem mv179 : mv 179 2 9 := ⟨⟨by decide, mG179, by decide +kernel, by decide +kernel, by decide +kernel⟩, mI179, mS179, by decide, by decide +kernel⟩
theorem mv180 : ms0 180 1 := ⟨⟨by decide, mG180, by decide +kernel, by decide +kernel, by decide +kernel⟩, mT180⟩
theorem mv181 : mv 181 1 9 := ⟨⟨by decide, mG181, by decide +kernel, by decide +kernel, by decide +kernel⟩, mI181, mS181, by decide, by decide +kernel⟩
theorem mv182 : mv 182 1 9 := ⟨⟨by decide, mG182, by decide +kernel, by decide +kernel, by decide +kernel⟩, mI182, mS182, by decide, by decide +kernel⟩
theorem mv183 : mv 183 2 9 := ⟨⟨by decide, mG183, by decide +kernel, by decide +kernel, by decide +kernel⟩, mI183, mS183, by decide, by decide +kernel⟩
theorem mv184 : mv 184 1 9 := ⟨⟨by decide, mG184, by decide +kernel, by decide +kernel, by decide +kernel⟩, mI184, mS184, by decide, by decide +kernel⟩
theorem mv185 : mv 185 2 9 := ⟨⟨by decide, mG185, by decide +kernel, by decide +kernel, by decide +kernel⟩, mI185, mS185, by decide, by decide +kernel⟩
theorem mv186 : mv 186 3 9 := ⟨⟨by decide, mG186, by decide +kernel, by decide +kernel, by decide +kernel⟩, mI186, mS186, by decide, by decide +kernel⟩
theorem mv187 : mv 187 2 9 := ⟨⟨by decide, mG187, by decide +kernel, by decide +kernel, by decide +kernel⟩, mI187, mS187, by decide, by decide +kernel⟩
theorem mv188 : mv 188 2 9 := ⟨⟨by decide, mG188, by decide +kernel, by decide +kernel, by decide +kernel⟩, mI188, mS188, by decide, by decide +kernel⟩
theorem mv189 : mv 189 0 9 := ⟨⟨by decide, mG189, by decide +kernel, by decide +kernel, by decide +kernel⟩, mI189, mS189, by decide, by decide +kernel⟩
theorem mv190 : mv 190 1 9 := ⟨⟨by decide, mG190, by decide +kernel, by decide +kernel, by decide +kernel⟩, mI190, mS190, by decide, by decide +kernel⟩
theorem mv191 : mv 191 1 9 := ⟨⟨by decide, mG191, by decide +kernel, by decide +kernel, by decide +kernel⟩, mI191, mS191, by decide, by decide +kernel⟩
theorem mv192 : mv 192 0 9 := ⟨⟨by decide, mG192, by decide +kernel, by decide +kernel, by decide +kernel⟩, mI192, mS192, by decide, by decide +kernel⟩
theorem mv193 : mv 193 0 9 := ⟨⟨by decide, mG193, by decide +kernel, by decide +kernel, by decide +kernel⟩, mI193, mS193, by decide, by decide +kernel⟩
theorem mv194 : mv 194 2 9 := ⟨⟨by decide, mG194, by decide +kernel, by decide +kernel, by decide +kernel⟩, mI194, mS194, by decide, by decide +kernel⟩
theorem mv195 : mv 195 1 9 := ⟨⟨by decide, mG195, by decide +kernel, by decide +kernel, by decide +kernel⟩, mI195, mS195, by decide, by decide +kernel⟩
theorem mv196 : mv 196 0 9 := ⟨⟨by decide, mG196, by decide +kernel, by decide +kernel, by decide +kernel⟩, mI196, mS196, by decide, by decide +kernel⟩
def eqS (a b : Sh) : Bool := decide (a = b)
theorem of_eqS {a b : Sh} (h : eqS a b = true) : a = b := of_decide_eq_true h
theorem shF : ∀ i, i < 7 → sh (FA i) = .inl (2, [(0, 32, i, 0), (2, RW i, 0, 0), (2, RW i + 4, 0, 0), (2, RW i + 5, 0, 0), (2, CA (co i), 0, 0), (3, 37, i, 0), (0, 38, i, 0), (0, 39, i, 0), (0, 40, i, 0), (0, 41, i, 0), (0, 42, i, 0), (1, 43, i, 0), (0, 44, i, 0), (1, 45, i, 0), (0, 46, i, 0)]) := fun i h1 => of_eqS ((by decide +kernel : ∀ i, i < 7 → eqS (sh (FA i)) (.inl (2, [(0, 32, i, 0), (2, RW i, 0, 0), (2, RW i + 4, 0, 0), (2, RW i + 5, 0, 0), (2, CA (co i), 0, 0), (3, 37, i, 0), (0, 38, i, 0), (0, 39, i, 0), (0, 40, i, 0), (0, 41, i, 0), (0, 42, i, 0), (1, 43, i, 0), (0, 44, i, 0), (1, 45, i, 0), (0, 46, i, 0)])) = true) i h1)
theorem shR : ∀ i, i < 7 → sh (RW i) = .inl (5, [(0, 80, i, 0), (2, RW i + 1, 0, 0), (2, RW i + 2, 0, 0), (2, RW i + 3, 0, 0)]) := fun i h1 => of_eqS ((by decide +kernel : ∀ i, i < 7 → eqS (sh (RW i)) (.inl (5, [(0, 80, i, 0), (2, RW i + 1, 0, 0), (2, RW i + 2, 0, 0), (2, RW i + 3, 0, 0)])) = true) i h1)
theorem shR1 : ∀ i, i < 7 → sh (RW i + 1) = .inr (0, 22, 81, i) := fun i h1 => of_eqS ((by decide +kernel : ∀ i, i < 7 → eqS (sh (RW i + 1)) (.inr (0, 22, 81, i)) = true) i h1)
theorem shR2 : ∀ i, i < 7 → sh (RW i + 2) = .inr (0, 22, 82, i) := fun i h1 => of_eqS ((by decide +kernel : ∀ i, i < 7 → eqS (sh (RW i + 2)) (.inr (0, 22, 82, i)) = true) i h1)
theorem shR3 : ∀ i, i < 7 → sh (RW i + 3) = .inr (1, 22, 83, i) := fun i h1 => of_eqS ((by decide +kernel : ∀ i, i < 7 → eqS (sh (RW i + 3)) (.inr (1, 22, 83, i)) = true) i h1)
theorem shR4 : ∀ i, i < 7 → sh (RW i + 4) = .inr (1, 10, 34, i) := fun i h1 => of_eqS ((by decide +kernel : ∀ i, i < 7 → eqS (sh (RW i + 4)) (.inr (1, 10, 34, i)) = true) i h1)
theorem shR5 : ∀ i, i < 7 → sh (RW i + 5) = .inr (6, 9, RW i + 6, 1) := fun i h1 => of_eqS ((by decide +kernel : ∀ i, i < 7 → eqS (sh (RW i + 5)) (.inr (6, 9, RW i + 6, 1)) = true) i h1)
theorem shB : ∀ i, i < 7 → ∀ b, b < 9 → sh (RW i + 6 + b) = .inl (0, [(0, 0, i, b), (0, 1, i, b), (0, 2, i, b), (0, 3, i, b), (0, 4, i, b), (0, 5, i, b), (0, 6, i, b), (1, 7, i, b), (0, 8, i, b)]) := fun i h1 b h2 => of_eqS ((by decide +kernel : ∀ i, i < 7 → ∀ b, b < 9 → eqS (sh (RW i + 6 + b)) (.inl (0, [(0, 0, i, b), (0, 1, i, b), (0, 2, i, b), (0, 3, i, b), (0, 4, i, b), (0, 5, i, b), (0, 6, i, b), (1, 7, i, b), (0, 8, i, b)])) = true) i h1 b h2)
theorem shP : ∀ p, p < 13 → sh (PA p) = .inl (4, [(0, 64, p, 0), (0, 65, p, 0), (0, 66, p, 0), (0, 67, p, 0), (2, PA p + 1, 0, 0), (2, PA p + 2, 0, 0), (2, PA p + 3, 0, 0), (2, PA p + 4, 0, 0), (2, PA p + 5, 0, 0), (2, PA p + 6, 0, 0), (2, PA p + 7, 0, 0), (2, PA p + 8, 0, 0), (2, PA p + 9, 0, 0), (2, PA p + 10, 0, 0)]) := fun p h1 => of_eqS ((by decide +kernel : ∀ p, p < 13 → eqS (sh (PA p)) (.inl (4, [(0, 64, p, 0), (0, 65, p, 0), (0, 66, p, 0), (0, 67, p, 0), (2, PA p + 1, 0, 0), (2, PA p + 2, 0, 0), (2, PA p + 3, 0, 0), (2, PA p + 4, 0, 0), (2, PA p + 5, 0, 0), (2, PA p + 6, 0, 0), (2, PA p + 7, 0, 0), (2, PA p + 8, 0, 0), (2, PA p + 9, 0, 0), (2, PA p + 10, 0, 0)])) = true) p h1)
theorem shP1 : ∀ p, p < 13 → sh (PA p + 1) = .inr (0, 40, 68, p) := fun p h1 => of_eqS ((by decide +kernel : ∀ p, p < 13 → eqS (sh (PA p + 1)) (.inr (0, 40, 68, p)) = true) p h1)
theorem shP2 : ∀ p, p < 13 → sh (PA p + 2) = .inr (0, 40, 69, p) := fun p h1 => of_eqS ((by decide +kernel : ∀ p, p < 13 → eqS (sh (PA p + 2)) (.inr (0, 40, 69, p)) = true) p h1)
theorem shP3 : ∀ p, p < 13 → sh (PA p + 3) = .inr (0, 40, 70, p) := fun p h1 => of_eqS ((by decide +kernel : ∀ p, p < 13 → eqS (sh (PA p + 3)) (.inr (0, 40, 70, p)) = true) p h1)
theorem shP4 : ∀ p, p < 13 → sh (PA p + 4) = .inr (0, 40, 71, p) := fun p h1 => of_eqS ((by decide +kernel : ∀ p, p < 13 → eqS (sh (PA p + 4)) (.inr (0, 40, 71, p)) = true) p h1)
theorem shP5 : ∀ p, p < 13 → sh (PA p + 5) = .inr (0, 40, 72, p) := fun p h1 => of_eqS ((by decide +kernel : ∀ p, p < 13 → eqS (sh (PA p + 5)) (.inr (0, 40, 72, p)) = true) p h1)
theorem shP6 : ∀ p, p < 13 → sh (PA p + 6) = .inr (0, 40, 73, p) := fun p h1 => of_eqS ((by decide +kernel : ∀ p, p < 13 → eqS (sh (PA p + 6)) (.inr (0, 40, 73, p)) = true) p h1)
theorem shP7 : ∀ p, p < 13 → sh (PA p + 7) = .inr (0, 121, 74, p) := fun p h1 => of_eqS ((by decide +kernel : ∀ p, p < 13 → eqS (sh (PA p + 7)) (.inr (0, 121, 74, p)) = true) p h1)
theorem shP8 : ∀ p, p < 13 → sh (PA p + 8) = .inr (0, 120, 75, p) := fun p h1 => of_eqS ((by decide +kernel : ∀ p, p < 13 → eqS (sh (PA p + 8)) (.inr (0, 120, 75, p)) = true) p h1)
theorem shP9 : ∀ p, p < 13 → sh (PA p + 9) = .inr (0, 120, 76, p) := fun p h1 => of_eqS ((by decide +kernel : ∀ p, p < 13 → eqS (sh (PA p + 9)) (.inr (0, 120, 76, p)) = true) p h1)
theorem shP10 : ∀ p, p < 13 → sh (PA p + 10) = .inr (1, 60, 77, p) := fun p h1 => of_eqS ((by decide +kernel : ∀ p, p < 13 → eqS (sh (PA p + 10)) (.inr (1, 60, 77, p)) = true) p h1)
theorem shC : ∀ o, o < 2 → sh (CA o) = .inl (1, [(0, 16, o, 0), (0, 17, o, 0), (2, CA o + 1, 0, 0), (2, CA o + 2, 0, 0), (2, CA o + 3, 0, 0), (2, CA o + 4, 0, 0)]) := fun o h1 => of_eqS ((by decide +kernel : ∀ o, o < 2 → eqS (sh (CA o)) (.inl (1, [(0, 16, o, 0), (0, 17, o, 0), (2, CA o + 1, 0, 0), (2, CA o + 2, 0, 0), (2, CA o + 3, 0, 0), (2, CA o + 4, 0, 0)])) = true) o h1)
theorem shC1 : ∀ o, o < 2 → sh (CA o + 1) = .inr (0, if o = 0 then 400 else 0, 18, o) := fun o h1 => of_eqS ((by decide +kernel : ∀ o, o < 2 → eqS (sh (CA o + 1)) (.inr (0, if o = 0 then 400 else 0, 18, o)) = true) o h1)
theorem shC2 : ∀ o, o < 2 → sh (CA o + 2) = .inr (0, if o = 0 then 400 else 0, 19, o) := fun o h1 => of_eqS ((by decide +kernel : ∀ o, o < 2 → eqS (sh (CA o + 2)) (.inr (0, if o = 0 then 400 else 0, 19, o)) = true) o h1)
theorem shC3 : ∀ o, o < 2 → sh (CA o + 3) = .inr (0, if o = 0 then 400 else 0, 20, o) := fun o h1 => of_eqS ((by decide +kernel : ∀ o, o < 2 → eqS (sh (CA o + 3)) (.inr (0, if o = 0 then 400 else 0, 20, o)) = true) o h1)
theorem shC4 : ∀ o, o < 2 → sh (CA o + 4) = .inr (1, if o = 0 then 400 else 0, 21, o) := fun o h1 => of_eqS ((by decide +kernel : ∀ o, o < 2 → eqS (sh (CA o + 4)) (.inr (1, if o = 0 then 400 else 0, 21, o)) = true) o h1)
theorem shL3 : sh 3 = .inl (8, [(2, 4, 0, 0), (0, 129, 0, 0), (2, 5, 0, 0), (2, 10, 0, 0), (0, 132, 0, 0), (0, 133, 0, 0), (2, 143, 0, 0)]) := by decide +kernel
theorem shL4 : sh 4 = .inr (0, 800, 128, 0) := by decide +kernel
theorem shL5 : sh 5 = .inl (3, [(2, 6, 0, 0), (3, 49, 0, 0), (0, 50, 0, 0)]) := by decide +kernel
theorem shL6 : sh 6 = .inl (6, [(2, 7, 0, 0), (2, 8, 0, 0), (2, 9, 0, 0), (0, 99, 0, 0)]) := by decide +kernel
theorem shL7 : sh 7 = .inr (0, 801, 96, 0) := by decide +kernel
theorem shL8 : sh 8 = .inr (0, 801, 97, 0) := by decide +kernel
theorem shL9 : sh 9 = .inr (0, 801, 98, 0) := by decide +kernel
theorem shL10 : sh 10 = .inr (4, 12, 11, 11) := by decide +kernel
theorem shL143 : sh 143 = .inl (7, [(2, 146, 0, 0), (2, 162, 0, 0), (2, 144, 0, 0), (2, 145, 0, 0), (2, 259, 0, 0)]) := by decide +kernel
theorem shL144 : sh 144 = .inr (2, 8, 114, 0) := by decide +kernel
theorem shL145 : sh 145 = .inr (1, 8, 115, 0) := by decide +kernel
theorem shL162 : sh 162 = .inr (5, 6, 163, 16) := by decide +kernel
theorem shL280 : sh 280 = .inl (9, [(2, 281, 0, 0), (0, 201, 0, 0), (0, 202, 0, 0), (0, 203, 0, 0), (0, 204, 0, 0), (0, 205, 0, 0), (1, 206, 0, 0), (0, 207, 0, 0), (0, 208, 0, 0), (0, 209, 0, 0), (0, 210, 0, 0), (2, 282, 0, 0), (2, 283, 0, 0), (2, 284, 0, 0), (2, 285, 0, 0), (2, 286, 0, 0), (2, 287, 0, 0), (2, 288, 0, 0), (2, 289, 0, 0), (2, 290, 0, 0), (2, 291, 0, 0), (2, 292, 0, 0), (2, 293, 0, 0), (2, 294, 0, 0), (2, 295, 0, 0), (2, 296, 0, 0), (2, 297, 0, 0), (0, 227, 0, 0), (2, 298, 0, 0), (0, 229, 0, 0), (0, 230, 0, 0), (2, 299, 0, 0), (0, 232, 0, 0), (2, 300, 0, 0), (2, 301, 0, 0), (2, 302, 0, 0), (0, 236, 0, 0), (0, 237, 0, 0), (2, 303, 0, 0), (2, 304, 0, 0), (2, 305, 0, 0), (2, 306, 0, 0), (2, 307, 0, 0), (2, 308, 0, 0), (2, 309, 0, 0), (2, 310, 0, 0), (2, 311, 0, 0), (2, 312, 0, 0), (2, 313, 0, 0), (2, 314, 0, 0), (2, 315, 0, 0), (2, 316, 0, 0), (2, 317, 0, 0), (2, 318, 0, 0), (2, 319, 0, 0), (2, 320, 0, 0), (2, 321, 0, 0), (2, 322, 0, 0), (2, 323, 0, 0), (2, 324, 0, 0), (0, 260, 0, 0), (2, 325, 0, 0), (2, 326, 0, 0), (0, 263, 0, 0), (2, 327, 0, 0), (2, 328, 0, 0), (2, 329, 0, 0), (2, 330, 0, 0), (2, 331, 0, 0)]) := by decide +kernel
theorem shL281 : sh 281 = .inr (3, 800, 200, 0) := by decide +kernel
theorem shL282 : sh 282 = .inr (0, 12, 211, 0) := by decide +kernel
theorem shL283 : sh 283 = .inr (0, 12, 212, 0) := by decide +kernel
theorem shL284 : sh 284 = .inr (0, 12, 213, 0) := by decide +kernel
theorem shL285 : sh 285 = .inr (0, 12, 214, 0) := by decide +kernel
theorem shL286 : sh 286 = .inr (0, 12, 215, 0) := by decide +kernel
theorem shL287 : sh 287 = .inr (0, 480, 216, 0) := by decide +kernel
theorem shL288 : sh 288 = .inr (0, 480, 217, 0) := by decide +kernel
theorem shL289 : sh 289 = .inr (0, 480, 218, 0) := by decide +kernel
theorem shL290 : sh 290 = .inr (0, 1440, 219, 0) := by decide +kernel
theorem shL291 : sh 291 = .inr (2, 1440, 220, 0) := by decide +kernel
theorem shL292 : sh 292 = .inr (0, 480, 221, 0) := by decide +kernel
theorem shL293 : sh 293 = .inr (0, 480, 222, 0) := by decide +kernel
theorem shL294 : sh 294 = .inr (0, 480, 223, 0) := by decide +kernel
theorem shL295 : sh 295 = .inr (0, 2400, 224, 0) := by decide +kernel
theorem shL296 : sh 296 = .inr (0, 2400, 225, 0) := by decide +kernel
theorem shL297 : sh 297 = .inr (1, 2400, 226, 0) := by decide +kernel
theorem shL298 : sh 298 = .inr (0, 64, 228, 0) := by decide +kernel
theorem shL299 : sh 299 = .inr (2, 16, 231, 0) := by decide +kernel
theorem shL300 : sh 300 = .inr (0, 10, 233, 0) := by decide +kernel
theorem shL301 : sh 301 = .inr (0, 10, 234, 0) := by decide +kernel
theorem shL302 : sh 302 = .inr (0, 10, 235, 0) := by decide +kernel
theorem shL303 : sh 303 = .inr (2, 8, 238, 0) := by decide +kernel
theorem shL304 : sh 304 = .inr (1, 8, 239, 0) := by decide +kernel
theorem shL305 : sh 305 = .inr (0, 7, 240, 0) := by decide +kernel
theorem shL306 : sh 306 = .inr (0, 7, 241, 0) := by decide +kernel
theorem shL307 : sh 307 = .inr (0, 7, 242, 0) := by decide +kernel
theorem shL308 : sh 308 = .inr (0, 7, 243, 0) := by decide +kernel
theorem shL309 : sh 309 = .inr (1, 7, 244, 0) := by decide +kernel
theorem shL310 : sh 310 = .inr (1, 70, 245, 0) := by decide +kernel
theorem shL311 : sh 311 = .inr (0, 7, 246, 0) := by decide +kernel
theorem shL312 : sh 312 = .inr (0, 63, 247, 0) := by decide +kernel
theorem shL313 : sh 313 = .inr (0, 63, 248, 0) := by decide +kernel
theorem shL314 : sh 314 = .inr (0, 63, 249, 0) := by decide +kernel
theorem shL315 : sh 315 = .inr (1, 63, 250, 0) := by decide +kernel
theorem shL316 : sh 316 = .inr (2, 63, 251, 0) := by decide +kernel
theorem shL317 : sh 317 = .inr (0, 63, 252, 0) := by decide +kernel
theorem shL318 : sh 318 = .inr (1, 63, 253, 0) := by decide +kernel
theorem shL319 : sh 319 = .inr (0, 63, 254, 0) := by decide +kernel
theorem shL320 : sh 320 = .inr (0, 7, 255, 0) := by decide +kernel
theorem shL321 : sh 321 = .inr (0, 224, 256, 0) := by decide +kernel
theorem shL322 : sh 322 = .inr (1, 224, 257, 0) := by decide +kernel
theorem shL323 : sh 323 = .inr (0, 224, 258, 0) := by decide +kernel
theorem shL324 : sh 324 = .inr (0, 224, 259, 0) := by decide +kernel
theorem shL325 : sh 325 = .inr (0, 7, 261, 0) := by decide +kernel
theorem shL326 : sh 326 = .inr (0, 7, 262, 0) := by decide +kernel
theorem shL327 : sh 327 = .inr (0, 400, 264, 0) := by decide +kernel
theorem shL328 : sh 328 = .inr (0, 400, 265, 0) := by decide +kernel
theorem shL329 : sh 329 = .inr (0, 400, 266, 0) := by decide +kernel
theorem shL330 : sh 330 = .inr (1, 400, 267, 0) := by decide +kernel
theorem shL331 : sh 331 = .inr (1, 64, 268, 0) := by decide +kernel
section YR
variable {R : Room} {j : Nat} {Z : Zt} {k n pc : Nat} {lv : List (Nat × Value)} {st : List Value} {s : St}
theorem y_geti {a ci f idx id o e : Nat} {ds : List Ds} (hd : decode (mB j) pc = .ok (.getfield idx, 3)) (hw : fk (mY j).cls idx ci f) (hs : sh a = .inl (ci, ds)) (hf : ds[f]? = some (0, id, o, e)) (kk : Wp R j Z k n (pc + 3) lv (.int (s.1 id o e) :: st) (mk s) TT) : Wp R j Z k n pc lv (.ref a :: st) (mk s) TT :=
  x_getf hd hw.1 hw.2.1 hw.2.2 (sh_in hw.2.1 hs) (by unfold mk; rw [hs]; rfl) (by rw [List.getElem?_map, hf]; rfl) kk
theorem y_getl {a ci f idx id o e : Nat} {ds : List Ds} (hd : decode (mB j) pc = .ok (.getfield idx, 3)) (hw : fk (mY j).cls idx ci f) (hs : sh a = .inl (ci, ds)) (hf : ds[f]? = some (1, id, o, e)) (kk : Wp R j Z k n (pc + 3) lv (.long (s.2 id o e) :: st) (mk s) TT) : Wp R j Z k n pc lv (.ref a :: st) (mk s) TT :=
  x_getf hd hw.1 hw.2.1 hw.2.2 (sh_in hw.2.1 hs) (by unfold mk; rw [hs]; rfl) (by rw [List.getElem?_map, hf]; rfl) kk
theorem y_getr {a ci f idx b : Nat} {ds : List Ds} (hd : decode (mB j) pc = .ok (.getfield idx, 3)) (hw : fk (mY j).cls idx ci f) (hs : sh a = .inl (ci, ds)) (hf : ds[f]? = some (2, b, 0, 0)) (kk : Wp R j Z k n (pc + 3) lv (.ref b :: st) (mk s) TT) : Wp R j Z k n pc lv (.ref a :: st) (mk s) TT :=
  x_getf hd hw.1 hw.2.1 hw.2.2 (sh_in hw.2.1 hs) (by unfold mk; rw [hs]; rfl) (by rw [List.getElem?_map, hf]; rfl) kk
theorem y_getp {a ci f idx id o e p : Nat} {ds : List Ds} (hd : decode (mB j) pc = .ok (.getfield idx, 3)) (hw : fk (mY j).cls idx ci f) (hs : sh a = .inl (ci, ds)) (hf : ds[f]? = some (3, id, o, e)) (hp0 : s.1 id o e = nI p) (hp1 : p < 13) (kk : Wp R j Z k n (pc + 3) lv (.ref (PA p) :: st) (mk s) TT) : Wp R j Z k n pc lv (.ref a :: st) (mk s) TT :=
  x_getf hd hw.1 hw.2.1 hw.2.2 (sh_in hw.2.1 hs) (by unfold mk; rw [hs]; rfl) (by rw [List.getElem?_map, hf]; show some (itp (s.1 id o e)) = _; rw [hp0, itp, if_neg (nI_pos (by omega)), nI_clamp (by omega)]) kk
theorem y_puti {a ci f idx id o e : Nat} {ds : List Ds} {v : Int32} (hd : decode (mB j) pc = .ok (.putfield idx, 3)) (hw : fk (mY j).cls idx ci f) (hs : sh a = .inl (ci, ds)) (hf : ds[f]? = some (0, id, o, e)) (hfin : (clT ci f).2.2.2 = false) (hn : narrow (clY ci f) (.int v) = .int v ∧ fits (clY ci f) (.int v) = true) (kk : Wp R j Z k n (pc + 3) lv st (mk (si s id o e v)) TT) : Wp R j Z k n pc lv (.int v :: .ref a :: st) (mk s) TT := by
  refine x_putf hd hw.1 hw.2.1 hw.2.2 hfin (sh_in hw.2.1 hs) (fs := ds.map (itv s)) (by unfold mk; rw [hs]; rfl) hn (by rw [List.length_map]; exact (List.getElem?_eq_some_iff.mp hf).1) ?_
  rw [mk_puti hs hf]; exact kk
theorem y_putl {a ci f idx id o e : Nat} {ds : List Ds} {v : Int64} (hd : decode (mB j) pc = .ok (.putfield idx, 3)) (hw : fk (mY j).cls idx ci f) (hs : sh a = .inl (ci, ds)) (hf : ds[f]? = some (1, id, o, e)) (hfin : (clT ci f).2.2.2 = false) (hn : clY ci f = .long) (kk : Wp R j Z k n (pc + 3) lv st (mk (sl s id o e v)) TT) : Wp R j Z k n pc lv (.long v :: .ref a :: st) (mk s) TT := by
  refine x_putf hd hw.1 hw.2.1 hw.2.2 hfin (sh_in hw.2.1 hs) (fs := ds.map (itv s)) (by unfold mk; rw [hs]; rfl) (by rw [hn]; exact ⟨rfl, rfl⟩) (by rw [List.length_map]; exact (List.getElem?_eq_some_iff.mp hf).1) ?_
  rw [mk_putl hs hf]; exact kk
theorem y_putp {a ci f idx id o e p : Nat} {ds : List Ds} {C0 : String} (hd : decode (mB j) pc = .ok (.putfield idx, 3)) (hw : fk (mY j).cls idx ci f) (hs : sh a = .inl (ci, ds)) (hf : ds[f]? = some (3, id, o, e)) (hfin : (clT ci f).2.2.2 = false) (hn : clY ci f = .object C0) (hp1 : p < 13) (kk : Wp R j Z k n (pc + 3) lv st (mk (si s id o e (nI p))) TT) : Wp R j Z k n pc lv (.ref (PA p) :: .ref a :: st) (mk s) TT := by
  refine x_putf hd hw.1 hw.2.1 hw.2.2 hfin (sh_in hw.2.1 hs) (fs := ds.map (itv s)) (by unfold mk; rw [hs]; rfl) (by rw [hn]; exact ⟨rfl, rfl⟩) (by rw [List.length_map]; exact (List.getElem?_eq_some_iff.mp hf).1) ?_
  rw [mk_putp hp1 hs hf]; exact kk
theorem y_iald {a N id o : Nat} {i : Int32} (hd : decode (mB j) pc = .ok (.iaload, 1)) (hs : sh a = .inr (0, N, id, o)) (hi : vp_in i N) (kk : Wp R j Z k n (pc + 1) lv (.int (s.1 id o i.toNatClampNeg) :: st) (mk s) TT) : Wp R j Z k n pc lv (.int i :: .ref a :: st) (mk s) TT :=
  x_iald hd (sh_inA hs) (N := N) (f := s.1 id o) (by unfold mk; rw [hs]; rfl) hi kk
theorem y_zald {a N id o : Nat} {i : Int32} (hd : decode (mB j) pc = .ok (.baload, 1)) (hs : sh a = .inr (2, N, id, o)) (hi : vp_in i N) (kk : Wp R j Z k n (pc + 1) lv (.int (s.1 id o i.toNatClampNeg) :: st) (mk s) TT) : Wp R j Z k n pc lv (.int i :: .ref a :: st) (mk s) TT :=
  x_zald hd (sh_inA hs) (N := N) (f := s.1 id o) (by unfold mk; rw [hs]; rfl) hi kk
theorem y_bald {a N id o : Nat} {i : Int32} (hd : decode (mB j) pc = .ok (.baload, 1)) (hs : sh a = .inr (3, N, id, o)) (hi : vp_in i N) (kk : Wp R j Z k n (pc + 1) lv (.int (s.1 id o i.toNatClampNeg) :: st) (mk s) TT) : Wp R j Z k n pc lv (.int i :: .ref a :: st) (mk s) TT :=
  x_bald hd (sh_inA hs) (N := N) (f := s.1 id o) (by unfold mk; rw [hs]; rfl) hi kk
theorem y_lald {a N id o : Nat} {i : Int32} (hd : decode (mB j) pc = .ok (.laload, 1)) (hs : sh a = .inr (1, N, id, o)) (hi : vp_in i N) (kk : Wp R j Z k n (pc + 1) lv (.long (s.2 id o i.toNatClampNeg) :: st) (mk s) TT) : Wp R j Z k n pc lv (.int i :: .ref a :: st) (mk s) TT :=
  x_lald hd (sh_inA hs) (N := N) (f := s.2 id o) (by unfold mk; rw [hs]; rfl) hi kk
theorem y_iast {a N id o : Nat} {i v : Int32} (hd : decode (mB j) pc = .ok (.iastore, 1)) (hs : sh a = .inr (0, N, id, o)) (hi : vp_in i N) (kk : Wp R j Z k n (pc + 1) lv st (mk (si s id o i.toNatClampNeg v)) TT) : Wp R j Z k n pc lv (.int v :: .int i :: .ref a :: st) (mk s) TT := by
  refine x_iast hd (sh_inA hs) (N := N) (f := s.1 id o) (by unfold mk; rw [hs]; rfl) hi ?_
  rw [mk_asti (by decide) hs]; exact kk
theorem y_zast {a N id o : Nat} {i v : Int32} (hd : decode (mB j) pc = .ok (.bastore, 1)) (hs : sh a = .inr (2, N, id, o)) (hi : vp_in i N) (kk : Wp R j Z k n (pc + 1) lv st (mk (si s id o i.toNatClampNeg (vp_nar .boolean v))) TT) : Wp R j Z k n pc lv (.int v :: .int i :: .ref a :: st) (mk s) TT := by
  refine x_zast hd (sh_inA hs) (N := N) (f := s.1 id o) (by unfold mk; rw [hs]; rfl) hi ?_
  rw [mk_asti (by decide) hs]; exact kk
theorem y_bast {a N id o : Nat} {i v : Int32} (hd : decode (mB j) pc = .ok (.bastore, 1)) (hs : sh a = .inr (3, N, id, o)) (hi : vp_in i N) (kk : Wp R j Z k n (pc + 1) lv st (mk (si s id o i.toNatClampNeg (vp_nar .byte v))) TT) : Wp R j Z k n pc lv (.int v :: .int i :: .ref a :: st) (mk s) TT := by
  refine x_bast hd (sh_inA hs) (N := N) (f := s.1 id o) (by unfold mk; rw [hs]; rfl) hi ?_
  rw [mk_asti (by decide) hs]; exact kk
theorem y_last {a N id o : Nat} {i : Int32} {v : Int64} (hd : decode (mB j) pc = .ok (.lastore, 1)) (hs : sh a = .inr (1, N, id, o)) (hi : vp_in i N) (kk : Wp R j Z k n (pc + 1) lv st (mk (sl s id o i.toNatClampNeg v)) TT) : Wp R j Z k n pc lv (.long v :: .int i :: .ref a :: st) (mk s) TT := by
  refine x_last hd (sh_inA hs) (N := N) (f := s.2 id o) (by unfold mk; rw [hs]; rfl) hi ?_
  rw [mk_astl hs]; exact kk
theorem y_aaldP {i : Int32} (hd : decode (mB j) pc = .ok (.aaload, 1)) (hi : vp_in i 12) (kk : Wp R j Z k n (pc + 1) lv (.ref (PA i.toNatClampNeg) :: st) (mk s) TT) : Wp R j Z k n pc lv (.int i :: .ref 10 :: st) (mk s) TT := by
  have hlt : i.toNatClampNeg < 12 := Nat.not_le.mp fun q => hi (Or.inr q)
  refine x_aald (t := 4) (by decide) hd (sh_inA shL10) (N := 12) (f := fun q => some (11 + 11 * q)) (by unfold mk; rw [shL10]; rfl) hi ?_
  have e : va_rf (some (11 + 11 * i.toNatClampNeg)) = .ref (PA i.toNatClampNeg) := by
    rw [show PA i.toNatClampNeg = 11 + 11 * i.toNatClampNeg from by unfold PA; rw [if_pos hlt]]; rfl
  rw [e]; exact kk
theorem y_aaldF {i : Int32} (hd : decode (mB j) pc = .ok (.aaload, 1)) (hi : vp_in i 6) (kk : Wp R j Z k n (pc + 1) lv (.ref (FA i.toNatClampNeg) :: st) (mk s) TT) : Wp R j Z k n pc lv (.int i :: .ref 162 :: st) (mk s) TT := by
  have hlt : i.toNatClampNeg < 6 := Nat.not_le.mp fun q => hi (Or.inr q)
  refine x_aald (t := 5) (by decide) hd (sh_inA shL162) (N := 6) (f := fun q => some (163 + 16 * q)) (by unfold mk; rw [shL162]; rfl) hi ?_
  have e : va_rf (some (163 + 16 * i.toNatClampNeg)) = .ref (FA i.toNatClampNeg) := by
    rw [show FA i.toNatClampNeg = 163 + 16 * i.toNatClampNeg from by unfold FA; rw [if_pos hlt]]; rfl
  rw [e]; exact kk
theorem y_aaldB {i : Int32} {q : Nat} (hq : q < 7) (hd : decode (mB j) pc = .ok (.aaload, 1)) (hi : vp_in i 9) (kk : Wp R j Z k n (pc + 1) lv (.ref (RW q + 6 + i.toNatClampNeg) :: st) (mk s) TT) : Wp R j Z k n pc lv (.int i :: .ref (RW q + 5) :: st) (mk s) TT := by
  refine x_aald (t := 6) (by decide) hd (sh_inA (shR5 q hq)) (N := 9) (f := fun z => some (RW q + 6 + 1 * z)) (by unfold mk; rw [shR5 q hq]; rfl) hi ?_
  have e : va_rf (some (RW q + 6 + 1 * i.toNatClampNeg)) = .ref (RW q + 6 + i.toNatClampNeg) := by rw [Nat.one_mul]; rfl
  rw [e]; exact kk
def Rv (d y : Nat) (av : List Value) (s : St) (Q : St → Prop) : Prop := Ct d 0 0 y av (mk s) TT (fun r M1 t1 => ∃ s1 : St, r = none ∧ M1 = mk s1 ∧ t1 = TT ∧ Q s1)
def Ri (d y : Nat) (av : List Value) (s : St) (Q : Int32 → St → Prop) : Prop := Ct d 0 0 y av (mk s) TT (fun r M1 t1 => ∃ (v : Int32) (s1 : St), r = some (.int v) ∧ M1 = mk s1 ∧ t1 = TT ∧ Q v s1)
def Rj (d y : Nat) (av : List Value) (s : St) (Q : Int64 → St → Prop) : Prop := Ct d 0 0 y av (mk s) TT (fun r M1 t1 => ∃ (v : Int64) (s1 : St), r = some (.long v) ∧ M1 = mk s1 ∧ t1 = TT ∧ Q v s1)
abbrev zv (Q : St → Prop) : Zt := mZ (fun r M1 t1 => ∃ s1 : St, r = none ∧ M1 = mk s1 ∧ t1 = TT ∧ Q s1) 0 0
abbrev zi (Q : Int32 → St → Prop) : Zt := mZ (fun r M1 t1 => ∃ (v : Int32) (s1 : St), r = some (.int v) ∧ M1 = mk s1 ∧ t1 = TT ∧ Q v s1) 0 0
abbrev zj (Q : Int64 → St → Prop) : Zt := mZ (fun r M1 t1 => ∃ (v : Int64) (s1 : St), r = some (.long v) ∧ M1 = mk s1 ∧ t1 = TT ∧ Q v s1) 0 0
theorem Rv.imp {d y : Nat} {av : List Value} {Q Q2 : St → Prop} (h : Rv d y av s Q) (hq : ∀ s1, Q s1 → Q2 s1) : Rv d y av s Q2 := Ct.post h (fun _ _ _ ⟨s1, h1, h2, h3, h4⟩ => ⟨s1, h1, h2, h3, hq s1 h4⟩)
theorem Ri.imp {d y : Nat} {av : List Value} {Q Q2 : Int32 → St → Prop} (h : Ri d y av s Q) (hq : ∀ v s1, Q v s1 → Q2 v s1) : Ri d y av s Q2 := Ct.post h (fun _ _ _ ⟨v, s1, h1, h2, h3, h4⟩ => ⟨v, s1, h1, h2, h3, hq v s1 h4⟩)
theorem Rj.imp {d y : Nat} {av : List Value} {Q Q2 : Int64 → St → Prop} (h : Rj d y av s Q) (hq : ∀ v s1, Q v s1 → Q2 v s1) : Rj d y av s Q2 := Ct.post h (fun _ _ _ ⟨v, s1, h1, h2, h3, h4⟩ => ⟨v, s1, h1, h2, h3, hq v s1 h4⟩)
theorem y_vret {Q : St → Prop} (hd : decode (mB j) pc = .ok (.return_, 1)) (hr : mR j = none) (hq : Q s) : Wp R j (zv Q) 0 0 pc lv [] (mk s) TT := x_vret hd hr ⟨Nat.le_refl _, Nat.le_refl _⟩ ⟨s, rfl, rfl, rfl, hq⟩
theorem y_iret {Q : Int32 → St → Prop} {v : Int32} (hd : decode (mB j) pc = .ok (.ireturn, 1)) (hr : mR j = some .int) (hq : Q v s) : Wp R j (zi Q) 0 0 pc lv [.int v] (mk s) TT := x_iret hd hr rfl ⟨Nat.le_refl _, Nat.le_refl _⟩ ⟨v, s, rfl, rfl, rfl, hq⟩
theorem y_zret {Q : Int32 → St → Prop} {v : Int32} (hd : decode (mB j) pc = .ok (.ireturn, 1)) (hr : mR j = some .boolean) (hv : v = 0 ∨ v = 1) (hq : Q v s) : Wp R j (zi Q) 0 0 pc lv [.int v] (mk s) TT := x_iret hd hr (by rcases hv with rfl | rfl <;> rfl) ⟨Nat.le_refl _, Nat.le_refl _⟩ ⟨v, s, rfl, rfl, rfl, hq⟩
theorem y_lret {Q : Int64 → St → Prop} {v : Int64} (hd : decode (mB j) pc = .ok (.lreturn, 1)) (hr : mR j = some .long) (hq : Q v s) : Wp R j (zj Q) 0 0 pc lv [.long v] (mk s) TT := x_lret hd hr ⟨Nat.le_refl _, Nat.le_refl _⟩ ⟨v, s, rfl, rfl, rfl, hq⟩
theorem y_cV0v {y idx a ci d : Nat} {ds : List Ds} {Q : St → Prop} (hd : decode (mB j) pc = .ok (.invokevirtual idx, 3)) (hw : Cond.methodLink (mY j).cls idx (mY y) ∈ gw) (hm : mv y 0 ci) (hs : sh a = .inl (ci, ds)) (hct : Rv d y [.ref a] s Q) (hR : d + 1 ≤ R.frames ∧ 8 + (mL y + 11) + 40 * d ≤ R.locals) (hr : (st.map fun v => v.category).sum ≤ 8) (hf : k ≤ R.cells ∧ n ≤ R.slots) (kk : ∀ s1, Q s1 → Wp R j Z k n (pc + 3) lv st (mk s1) TT) : Wp R j Z k n pc lv (.ref a :: st) (mk s) TT := by
  refine x_callV (As := []) (mc := 0) (ms := 0) (fs := ds.map (itv s)) hd hw hm.1 hm.2.1 hm.2.2.1 rfl hm.2.2.2.1 hm.2.2.2.2 (sh_in hm.2.2.2.1 hs) (by unfold mk; rw [hs]; rfl) hr hct hR hf (fun r M1 t1 h => by
    obtain ⟨s1, rfl, rfl, rfl, hq⟩ := h
    exact kk s1 hq)
theorem y_cS0v {y idx d : Nat} {Q : St → Prop} (hd : decode (mB j) pc = .ok (.invokestatic idx, 3)) (hw : Cond.methodLink (mY j).cls idx (mY y) ∈ gw) (hm : ms0 y 0) (hct : Rv d y [] s Q) (hR : d + 1 ≤ R.frames ∧ 8 + (mL y + 11) + 40 * d ≤ R.locals) (hr : (st.map fun v => v.category).sum ≤ 8) (hf : k ≤ R.cells ∧ n ≤ R.slots) (kk : ∀ s1, Q s1 → Wp R j Z k n (pc + 3) lv st (mk s1) TT) : Wp R j Z k n pc lv (st) (mk s) TT := by
  refine x_callS (As := []) (mc := 0) (ms := 0) hd hw hm.1 hm.2 rfl hr hct hR hf (fun r M1 t1 h => by
    obtain ⟨s1, rfl, rfl, rfl, hq⟩ := h
    exact kk s1 hq)
theorem y_cV0i {y idx a ci d : Nat} {ds : List Ds} {Q : Int32 → St → Prop} (hd : decode (mB j) pc = .ok (.invokevirtual idx, 3)) (hw : Cond.methodLink (mY j).cls idx (mY y) ∈ gw) (hm : mv y 0 ci) (hs : sh a = .inl (ci, ds)) (hct : Ri d y [.ref a] s Q) (hR : d + 1 ≤ R.frames ∧ 8 + (mL y + 11) + 40 * d ≤ R.locals) (hr : (st.map fun v => v.category).sum ≤ 8) (hf : k ≤ R.cells ∧ n ≤ R.slots) (kk : ∀ v s1, Q v s1 → Wp R j Z k n (pc + 3) lv (.int v :: st) (mk s1) TT) : Wp R j Z k n pc lv (.ref a :: st) (mk s) TT := by
  refine x_callV (As := []) (mc := 0) (ms := 0) (fs := ds.map (itv s)) hd hw hm.1 hm.2.1 hm.2.2.1 rfl hm.2.2.2.1 hm.2.2.2.2 (sh_in hm.2.2.2.1 hs) (by unfold mk; rw [hs]; rfl) hr hct hR hf (fun r M1 t1 h => by
    obtain ⟨v, s1, rfl, rfl, rfl, hq⟩ := h
    exact kk v s1 hq)
theorem y_cS0i {y idx d : Nat} {Q : Int32 → St → Prop} (hd : decode (mB j) pc = .ok (.invokestatic idx, 3)) (hw : Cond.methodLink (mY j).cls idx (mY y) ∈ gw) (hm : ms0 y 0) (hct : Ri d y [] s Q) (hR : d + 1 ≤ R.frames ∧ 8 + (mL y + 11) + 40 * d ≤ R.locals) (hr : (st.map fun v => v.category).sum ≤ 8) (hf : k ≤ R.cells ∧ n ≤ R.slots) (kk : ∀ v s1, Q v s1 → Wp R j Z k n (pc + 3) lv (.int v :: st) (mk s1) TT) : Wp R j Z k n pc lv (st) (mk s) TT := by
  refine x_callS (As := []) (mc := 0) (ms := 0) hd hw hm.1 hm.2 rfl hr hct hR hf (fun r M1 t1 h => by
    obtain ⟨v, s1, rfl, rfl, rfl, hq⟩ := h
    exact kk v s1 hq)
theorem y_cV0j {y idx a ci d : Nat} {ds : List Ds} {Q : Int64 → St → Prop} (hd : decode (mB j) pc = .ok (.invokevirtual idx, 3)) (hw : Cond.methodLink (mY j).cls idx (mY y) ∈ gw) (hm : mv y 0 ci) (hs : sh a = .inl (ci, ds)) (hct : Rj d y [.ref a] s Q) (hR : d + 1 ≤ R.frames ∧ 8 + (mL y + 11) + 40 * d ≤ R.locals) (hr : (st.map fun v => v.category).sum ≤ 8) (hf : k ≤ R.cells ∧ n ≤ R.slots) (kk : ∀ v s1, Q v s1 → Wp R j Z k n (pc + 3) lv (.long v :: st) (mk s1) TT) : Wp R j Z k n pc lv (.ref a :: st) (mk s) TT := by
  refine x_callV (As := []) (mc := 0) (ms := 0) (fs := ds.map (itv s)) hd hw hm.1 hm.2.1 hm.2.2.1 rfl hm.2.2.2.1 hm.2.2.2.2 (sh_in hm.2.2.2.1 hs) (by unfold mk; rw [hs]; rfl) hr hct hR hf (fun r M1 t1 h => by
    obtain ⟨v, s1, rfl, rfl, rfl, hq⟩ := h
    exact kk v s1 hq)
theorem y_cS0j {y idx d : Nat} {Q : Int64 → St → Prop} (hd : decode (mB j) pc = .ok (.invokestatic idx, 3)) (hw : Cond.methodLink (mY j).cls idx (mY y) ∈ gw) (hm : ms0 y 0) (hct : Rj d y [] s Q) (hR : d + 1 ≤ R.frames ∧ 8 + (mL y + 11) + 40 * d ≤ R.locals) (hr : (st.map fun v => v.category).sum ≤ 8) (hf : k ≤ R.cells ∧ n ≤ R.slots) (kk : ∀ v s1, Q v s1 → Wp R j Z k n (pc + 3) lv (.long v :: st) (mk s1) TT) : Wp R j Z k n pc lv (st) (mk s) TT := by
  refine x_callS (As := []) (mc := 0) (ms := 0) hd hw hm.1 hm.2 rfl hr hct hR hf (fun r M1 t1 h => by
    obtain ⟨v, s1, rfl, rfl, rfl, hq⟩ := h
    exact kk v s1 hq)
theorem y_cV1v {y idx a ci d : Nat} {ds : List Ds} {v1 : Value} {Q : St → Prop} (hd : decode (mB j) pc = .ok (.invokevirtual idx, 3)) (hw : Cond.methodLink (mY j).cls idx (mY y) ∈ gw) (hm : mv y 1 ci) (hs : sh a = .inl (ci, ds)) (hct : Rv d y [.ref a, v1] s Q) (hR : d + 1 ≤ R.frames ∧ 8 + (mL y + 11) + 40 * d ≤ R.locals) (hr : (st.map fun v => v.category).sum ≤ 8) (hf : k ≤ R.cells ∧ n ≤ R.slots) (kk : ∀ s1, Q s1 → Wp R j Z k n (pc + 3) lv st (mk s1) TT) : Wp R j Z k n pc lv (v1 :: .ref a :: st) (mk s) TT := by
  refine x_callV (As := [v1]) (mc := 0) (ms := 0) (fs := ds.map (itv s)) hd hw hm.1 hm.2.1 hm.2.2.1 rfl hm.2.2.2.1 hm.2.2.2.2 (sh_in hm.2.2.2.1 hs) (by unfold mk; rw [hs]; rfl) hr hct hR hf (fun r M1 t1 h => by
    obtain ⟨s1, rfl, rfl, rfl, hq⟩ := h
    exact kk s1 hq)
theorem y_cS1v {y idx d : Nat} {v1 : Value} {Q : St → Prop} (hd : decode (mB j) pc = .ok (.invokestatic idx, 3)) (hw : Cond.methodLink (mY j).cls idx (mY y) ∈ gw) (hm : ms0 y 1) (hct : Rv d y [v1] s Q) (hR : d + 1 ≤ R.frames ∧ 8 + (mL y + 11) + 40 * d ≤ R.locals) (hr : (st.map fun v => v.category).sum ≤ 8) (hf : k ≤ R.cells ∧ n ≤ R.slots) (kk : ∀ s1, Q s1 → Wp R j Z k n (pc + 3) lv st (mk s1) TT) : Wp R j Z k n pc lv (v1 :: st) (mk s) TT := by
  refine x_callS (As := [v1]) (mc := 0) (ms := 0) hd hw hm.1 hm.2 rfl hr hct hR hf (fun r M1 t1 h => by
    obtain ⟨s1, rfl, rfl, rfl, hq⟩ := h
    exact kk s1 hq)
theorem y_cV1i {y idx a ci d : Nat} {ds : List Ds} {v1 : Value} {Q : Int32 → St → Prop} (hd : decode (mB j) pc = .ok (.invokevirtual idx, 3)) (hw : Cond.methodLink (mY j).cls idx (mY y) ∈ gw) (hm : mv y 1 ci) (hs : sh a = .inl (ci, ds)) (hct : Ri d y [.ref a, v1] s Q) (hR : d + 1 ≤ R.frames ∧ 8 + (mL y + 11) + 40 * d ≤ R.locals) (hr : (st.map fun v => v.category).sum ≤ 8) (hf : k ≤ R.cells ∧ n ≤ R.slots) (kk : ∀ v s1, Q v s1 → Wp R j Z k n (pc + 3) lv (.int v :: st) (mk s1) TT) : Wp R j Z k n pc lv (v1 :: .ref a :: st) (mk s) TT := by
  refine x_callV (As := [v1]) (mc := 0) (ms := 0) (fs := ds.map (itv s)) hd hw hm.1 hm.2.1 hm.2.2.1 rfl hm.2.2.2.1 hm.2.2.2.2 (sh_in hm.2.2.2.1 hs) (by unfold mk; rw [hs]; rfl) hr hct hR hf (fun r M1 t1 h => by
    obtain ⟨v, s1, rfl, rfl, rfl, hq⟩ := h
    exact kk v s1 hq)
theorem y_cS1i {y idx d : Nat} {v1 : Value} {Q : Int32 → St → Prop} (hd : decode (mB j) pc = .ok (.invokestatic idx, 3)) (hw : Cond.methodLink (mY j).cls idx (mY y) ∈ gw) (hm : ms0 y 1) (hct : Ri d y [v1] s Q) (hR : d + 1 ≤ R.frames ∧ 8 + (mL y + 11) + 40 * d ≤ R.locals) (hr : (st.map fun v => v.category).sum ≤ 8) (hf : k ≤ R.cells ∧ n ≤ R.slots) (kk : ∀ v s1, Q v s1 → Wp R j Z k n (pc + 3) lv (.int v :: st) (mk s1) TT) : Wp R j Z k n pc lv (v1 :: st) (mk s) TT := by
  refine x_callS (As := [v1]) (mc := 0) (ms := 0) hd hw hm.1 hm.2 rfl hr hct hR hf (fun r M1 t1 h => by
    obtain ⟨v, s1, rfl, rfl, rfl, hq⟩ := h
    exact kk v s1 hq)
theorem y_cV1j {y idx a ci d : Nat} {ds : List Ds} {v1 : Value} {Q : Int64 → St → Prop} (hd : decode (mB j) pc = .ok (.invokevirtual idx, 3)) (hw : Cond.methodLink (mY j).cls idx (mY y) ∈ gw) (hm : mv y 1 ci) (hs : sh a = .inl (ci, ds)) (hct : Rj d y [.ref a, v1] s Q) (hR : d + 1 ≤ R.frames ∧ 8 + (mL y + 11) + 40 * d ≤ R.locals) (hr : (st.map fun v => v.category).sum ≤ 8) (hf : k ≤ R.cells ∧ n ≤ R.slots) (kk : ∀ v s1, Q v s1 → Wp R j Z k n (pc + 3) lv (.long v :: st) (mk s1) TT) : Wp R j Z k n pc lv (v1 :: .ref a :: st) (mk s) TT := by
  refine x_callV (As := [v1]) (mc := 0) (ms := 0) (fs := ds.map (itv s)) hd hw hm.1 hm.2.1 hm.2.2.1 rfl hm.2.2.2.1 hm.2.2.2.2 (sh_in hm.2.2.2.1 hs) (by unfold mk; rw [hs]; rfl) hr hct hR hf (fun r M1 t1 h => by
    obtain ⟨v, s1, rfl, rfl, rfl, hq⟩ := h
    exact kk v s1 hq)
theorem y_cS1j {y idx d : Nat} {v1 : Value} {Q : Int64 → St → Prop} (hd : decode (mB j) pc = .ok (.invokestatic idx, 3)) (hw : Cond.methodLink (mY j).cls idx (mY y) ∈ gw) (hm : ms0 y 1) (hct : Rj d y [v1] s Q) (hR : d + 1 ≤ R.frames ∧ 8 + (mL y + 11) + 40 * d ≤ R.locals) (hr : (st.map fun v => v.category).sum ≤ 8) (hf : k ≤ R.cells ∧ n ≤ R.slots) (kk : ∀ v s1, Q v s1 → Wp R j Z k n (pc + 3) lv (.long v :: st) (mk s1) TT) : Wp R j Z k n pc lv (v1 :: st) (mk s) TT := by
  refine x_callS (As := [v1]) (mc := 0) (ms := 0) hd hw hm.1 hm.2 rfl hr hct hR hf (fun r M1 t1 h => by
    obtain ⟨v, s1, rfl, rfl, rfl, hq⟩ := h
    exact kk v s1 hq)
theorem y_cV2v {y idx a ci d : Nat} {ds : List Ds} {v1 v2 : Value} {Q : St → Prop} (hd : decode (mB j) pc = .ok (.invokevirtual idx, 3)) (hw : Cond.methodLink (mY j).cls idx (mY y) ∈ gw) (hm : mv y 2 ci) (hs : sh a = .inl (ci, ds)) (hct : Rv d y [.ref a, v1, v2] s Q) (hR : d + 1 ≤ R.frames ∧ 8 + (mL y + 11) + 40 * d ≤ R.locals) (hr : (st.map fun v => v.category).sum ≤ 8) (hf : k ≤ R.cells ∧ n ≤ R.slots) (kk : ∀ s1, Q s1 → Wp R j Z k n (pc + 3) lv st (mk s1) TT) : Wp R j Z k n pc lv (v2 :: v1 :: .ref a :: st) (mk s) TT := by
  refine x_callV (As := [v1, v2]) (mc := 0) (ms := 0) (fs := ds.map (itv s)) hd hw hm.1 hm.2.1 hm.2.2.1 rfl hm.2.2.2.1 hm.2.2.2.2 (sh_in hm.2.2.2.1 hs) (by unfold mk; rw [hs]; rfl) hr hct hR hf (fun r M1 t1 h => by
    obtain ⟨s1, rfl, rfl, rfl, hq⟩ := h
    exact kk s1 hq)
theorem y_cS2v {y idx d : Nat} {v1 v2 : Value} {Q : St → Prop} (hd : decode (mB j) pc = .ok (.invokestatic idx, 3)) (hw : Cond.methodLink (mY j).cls idx (mY y) ∈ gw) (hm : ms0 y 2) (hct : Rv d y [v1, v2] s Q) (hR : d + 1 ≤ R.frames ∧ 8 + (mL y + 11) + 40 * d ≤ R.locals) (hr : (st.map fun v => v.category).sum ≤ 8) (hf : k ≤ R.cells ∧ n ≤ R.slots) (kk : ∀ s1, Q s1 → Wp R j Z k n (pc + 3) lv st (mk s1) TT) : Wp R j Z k n pc lv (v2 :: v1 :: st) (mk s) TT := by
  refine x_callS (As := [v1, v2]) (mc := 0) (ms := 0) hd hw hm.1 hm.2 rfl hr hct hR hf (fun r M1 t1 h => by
    obtain ⟨s1, rfl, rfl, rfl, hq⟩ := h
    exact kk s1 hq)
theorem y_cV2i {y idx a ci d : Nat} {ds : List Ds} {v1 v2 : Value} {Q : Int32 → St → Prop} (hd : decode (mB j) pc = .ok (.invokevirtual idx, 3)) (hw : Cond.methodLink (mY j).cls idx (mY y) ∈ gw) (hm : mv y 2 ci) (hs : sh a = .inl (ci, ds)) (hct : Ri d y [.ref a, v1, v2] s Q) (hR : d + 1 ≤ R.frames ∧ 8 + (mL y + 11) + 40 * d ≤ R.locals) (hr : (st.map fun v => v.category).sum ≤ 8) (hf : k ≤ R.cells ∧ n ≤ R.slots) (kk : ∀ v s1, Q v s1 → Wp R j Z k n (pc + 3) lv (.int v :: st) (mk s1) TT) : Wp R j Z k n pc lv (v2 :: v1 :: .ref a :: st) (mk s) TT := by
  refine x_callV (As := [v1, v2]) (mc := 0) (ms := 0) (fs := ds.map (itv s)) hd hw hm.1 hm.2.1 hm.2.2.1 rfl hm.2.2.2.1 hm.2.2.2.2 (sh_in hm.2.2.2.1 hs) (by unfold mk; rw [hs]; rfl) hr hct hR hf (fun r M1 t1 h => by
    obtain ⟨v, s1, rfl, rfl, rfl, hq⟩ := h
    exact kk v s1 hq)
theorem y_cS2i {y idx d : Nat} {v1 v2 : Value} {Q : Int32 → St → Prop} (hd : decode (mB j) pc = .ok (.invokestatic idx, 3)) (hw : Cond.methodLink (mY j).cls idx (mY y) ∈ gw) (hm : ms0 y 2) (hct : Ri d y [v1, v2] s Q) (hR : d + 1 ≤ R.frames ∧ 8 + (mL y + 11) + 40 * d ≤ R.locals) (hr : (st.map fun v => v.category).sum ≤ 8) (hf : k ≤ R.cells ∧ n ≤ R.slots) (kk : ∀ v s1, Q v s1 → Wp R j Z k n (pc + 3) lv (.int v :: st) (mk s1) TT) : Wp R j Z k n pc lv (v2 :: v1 :: st) (mk s) TT := by
  refine x_callS (As := [v1, v2]) (mc := 0) (ms := 0) hd hw hm.1 hm.2 rfl hr hct hR hf (fun r M1 t1 h => by
    obtain ⟨v, s1, rfl, rfl, rfl, hq⟩ := h
    exact kk v s1 hq)
theorem y_cV2j {y idx a ci d : Nat} {ds : List Ds} {v1 v2 : Value} {Q : Int64 → St → Prop} (hd : decode (mB j) pc = .ok (.invokevirtual idx, 3)) (hw : Cond.methodLink (mY j).cls idx (mY y) ∈ gw) (hm : mv y 2 ci) (hs : sh a = .inl (ci, ds)) (hct : Rj d y [.ref a, v1, v2] s Q) (hR : d + 1 ≤ R.frames ∧ 8 + (mL y + 11) + 40 * d ≤ R.locals) (hr : (st.map fun v => v.category).sum ≤ 8) (hf : k ≤ R.cells ∧ n ≤ R.slots) (kk : ∀ v s1, Q v s1 → Wp R j Z k n (pc + 3) lv (.long v :: st) (mk s1) TT) : Wp R j Z k n pc lv (v2 :: v1 :: .ref a :: st) (mk s) TT := by
  refine x_callV (As := [v1, v2]) (mc := 0) (ms := 0) (fs := ds.map (itv s)) hd hw hm.1 hm.2.1 hm.2.2.1 rfl hm.2.2.2.1 hm.2.2.2.2 (sh_in hm.2.2.2.1 hs) (by unfold mk; rw [hs]; rfl) hr hct hR hf (fun r M1 t1 h => by
    obtain ⟨v, s1, rfl, rfl, rfl, hq⟩ := h
    exact kk v s1 hq)
theorem y_cS2j {y idx d : Nat} {v1 v2 : Value} {Q : Int64 → St → Prop} (hd : decode (mB j) pc = .ok (.invokestatic idx, 3)) (hw : Cond.methodLink (mY j).cls idx (mY y) ∈ gw) (hm : ms0 y 2) (hct : Rj d y [v1, v2] s Q) (hR : d + 1 ≤ R.frames ∧ 8 + (mL y + 11) + 40 * d ≤ R.locals) (hr : (st.map fun v => v.category).sum ≤ 8) (hf : k ≤ R.cells ∧ n ≤ R.slots) (kk : ∀ v s1, Q v s1 → Wp R j Z k n (pc + 3) lv (.long v :: st) (mk s1) TT) : Wp R j Z k n pc lv (v2 :: v1 :: st) (mk s) TT := by
  refine x_callS (As := [v1, v2]) (mc := 0) (ms := 0) hd hw hm.1 hm.2 rfl hr hct hR hf (fun r M1 t1 h => by
    obtain ⟨v, s1, rfl, rfl, rfl, hq⟩ := h
    exact kk v s1 hq)
theorem y_cV3v {y idx a ci d : Nat} {ds : List Ds} {v1 v2 v3 : Value} {Q : St → Prop} (hd : decode (mB j) pc = .ok (.invokevirtual idx, 3)) (hw : Cond.methodLink (mY j).cls idx (mY y) ∈ gw) (hm : mv y 3 ci) (hs : sh a = .inl (ci, ds)) (hct : Rv d y [.ref a, v1, v2, v3] s Q) (hR : d + 1 ≤ R.frames ∧ 8 + (mL y + 11) + 40 * d ≤ R.locals) (hr : (st.map fun v => v.category).sum ≤ 8) (hf : k ≤ R.cells ∧ n ≤ R.slots) (kk : ∀ s1, Q s1 → Wp R j Z k n (pc + 3) lv st (mk s1) TT) : Wp R j Z k n pc lv (v3 :: v2 :: v1 :: .ref a :: st) (mk s) TT := by
  refine x_callV (As := [v1, v2, v3]) (mc := 0) (ms := 0) (fs := ds.map (itv s)) hd hw hm.1 hm.2.1 hm.2.2.1 rfl hm.2.2.2.1 hm.2.2.2.2 (sh_in hm.2.2.2.1 hs) (by unfold mk; rw [hs]; rfl) hr hct hR hf (fun r M1 t1 h => by
    obtain ⟨s1, rfl, rfl, rfl, hq⟩ := h
    exact kk s1 hq)
theorem y_cS3v {y idx d : Nat} {v1 v2 v3 : Value} {Q : St → Prop} (hd : decode (mB j) pc = .ok (.invokestatic idx, 3)) (hw : Cond.methodLink (mY j).cls idx (mY y) ∈ gw) (hm : ms0 y 3) (hct : Rv d y [v1, v2, v3] s Q) (hR : d + 1 ≤ R.frames ∧ 8 + (mL y + 11) + 40 * d ≤ R.locals) (hr : (st.map fun v => v.category).sum ≤ 8) (hf : k ≤ R.cells ∧ n ≤ R.slots) (kk : ∀ s1, Q s1 → Wp R j Z k n (pc + 3) lv st (mk s1) TT) : Wp R j Z k n pc lv (v3 :: v2 :: v1 :: st) (mk s) TT := by
  refine x_callS (As := [v1, v2, v3]) (mc := 0) (ms := 0) hd hw hm.1 hm.2 rfl hr hct hR hf (fun r M1 t1 h => by
    obtain ⟨s1, rfl, rfl, rfl, hq⟩ := h
    exact kk s1 hq)
theorem y_cV3i {y idx a ci d : Nat} {ds : List Ds} {v1 v2 v3 : Value} {Q : Int32 → St → Prop} (hd : decode (mB j) pc = .ok (.invokevirtual idx, 3)) (hw : Cond.methodLink (mY j).cls idx (mY y) ∈ gw) (hm : mv y 3 ci) (hs : sh a = .inl (ci, ds)) (hct : Ri d y [.ref a, v1, v2, v3] s Q) (hR : d + 1 ≤ R.frames ∧ 8 + (mL y + 11) + 40 * d ≤ R.locals) (hr : (st.map fun v => v.category).sum ≤ 8) (hf : k ≤ R.cells ∧ n ≤ R.slots) (kk : ∀ v s1, Q v s1 → Wp R j Z k n (pc + 3) lv (.int v :: st) (mk s1) TT) : Wp R j Z k n pc lv (v3 :: v2 :: v1 :: .ref a :: st) (mk s) TT := by
  refine x_callV (As := [v1, v2, v3]) (mc := 0) (ms := 0) (fs := ds.map (itv s)) hd hw hm.1 hm.2.1 hm.2.2.1 rfl hm.2.2.2.1 hm.2.2.2.2 (sh_in hm.2.2.2.1 hs) (by unfold mk; rw [hs]; rfl) hr hct hR hf (fun r M1 t1 h => by
    obtain ⟨v, s1, rfl, rfl, rfl, hq⟩ := h
    exact kk v s1 hq)
theorem y_cS3i {y idx d : Nat} {v1 v2 v3 : Value} {Q : Int32 → St → Prop} (hd : decode (mB j) pc = .ok (.invokestatic idx, 3)) (hw : Cond.methodLink (mY j).cls idx (mY y) ∈ gw) (hm : ms0 y 3) (hct : Ri d y [v1, v2, v3] s Q) (hR : d + 1 ≤ R.frames ∧ 8 + (mL y + 11) + 40 * d ≤ R.locals) (hr : (st.map fun v => v.category).sum ≤ 8) (hf : k ≤ R.cells ∧ n ≤ R.slots) (kk : ∀ v s1, Q v s1 → Wp R j Z k n (pc + 3) lv (.int v :: st) (mk s1) TT) : Wp R j Z k n pc lv (v3 :: v2 :: v1 :: st) (mk s) TT := by
  refine x_callS (As := [v1, v2, v3]) (mc := 0) (ms := 0) hd hw hm.1 hm.2 rfl hr hct hR hf (fun r M1 t1 h => by
    obtain ⟨v, s1, rfl, rfl, rfl, hq⟩ := h
    exact kk v s1 hq)
theorem y_cV3j {y idx a ci d : Nat} {ds : List Ds} {v1 v2 v3 : Value} {Q : Int64 → St → Prop} (hd : decode (mB j) pc = .ok (.invokevirtual idx, 3)) (hw : Cond.methodLink (mY j).cls idx (mY y) ∈ gw) (hm : mv y 3 ci) (hs : sh a = .inl (ci, ds)) (hct : Rj d y [.ref a, v1, v2, v3] s Q) (hR : d + 1 ≤ R.frames ∧ 8 + (mL y + 11) + 40 * d ≤ R.locals) (hr : (st.map fun v => v.category).sum ≤ 8) (hf : k ≤ R.cells ∧ n ≤ R.slots) (kk : ∀ v s1, Q v s1 → Wp R j Z k n (pc + 3) lv (.long v :: st) (mk s1) TT) : Wp R j Z k n pc lv (v3 :: v2 :: v1 :: .ref a :: st) (mk s) TT := by
  refine x_callV (As := [v1, v2, v3]) (mc := 0) (ms := 0) (fs := ds.map (itv s)) hd hw hm.1 hm.2.1 hm.2.2.1 rfl hm.2.2.2.1 hm.2.2.2.2 (sh_in hm.2.2.2.1 hs) (by unfold mk; rw [hs]; rfl) hr hct hR hf (fun r M1 t1 h => by
    obtain ⟨v, s1, rfl, rfl, rfl, hq⟩ := h
    exact kk v s1 hq)
theorem y_cS3j {y idx d : Nat} {v1 v2 v3 : Value} {Q : Int64 → St → Prop} (hd : decode (mB j) pc = .ok (.invokestatic idx, 3)) (hw : Cond.methodLink (mY j).cls idx (mY y) ∈ gw) (hm : ms0 y 3) (hct : Rj d y [v1, v2, v3] s Q) (hR : d + 1 ≤ R.frames ∧ 8 + (mL y + 11) + 40 * d ≤ R.locals) (hr : (st.map fun v => v.category).sum ≤ 8) (hf : k ≤ R.cells ∧ n ≤ R.slots) (kk : ∀ v s1, Q v s1 → Wp R j Z k n (pc + 3) lv (.long v :: st) (mk s1) TT) : Wp R j Z k n pc lv (v3 :: v2 :: v1 :: st) (mk s) TT := by
  refine x_callS (As := [v1, v2, v3]) (mc := 0) (ms := 0) hd hw hm.1 hm.2 rfl hr hct hR hf (fun r M1 t1 h => by
    obtain ⟨v, s1, rfl, rfl, rfl, hq⟩ := h
    exact kk v s1 hq)
theorem y_cV4v {y idx a ci d : Nat} {ds : List Ds} {v1 v2 v3 v4 : Value} {Q : St → Prop} (hd : decode (mB j) pc = .ok (.invokevirtual idx, 3)) (hw : Cond.methodLink (mY j).cls idx (mY y) ∈ gw) (hm : mv y 4 ci) (hs : sh a = .inl (ci, ds)) (hct : Rv d y [.ref a, v1, v2, v3, v4] s Q) (hR : d + 1 ≤ R.frames ∧ 8 + (mL y + 11) + 40 * d ≤ R.locals) (hr : (st.map fun v => v.category).sum ≤ 8) (hf : k ≤ R.cells ∧ n ≤ R.slots) (kk : ∀ s1, Q s1 → Wp R j Z k n (pc + 3) lv st (mk s1) TT) : Wp R j Z k n pc lv (v4 :: v3 :: v2 :: v1 :: .ref a :: st) (mk s) TT := by
  refine x_callV (As := [v1, v2, v3, v4]) (mc := 0) (ms := 0) (fs := ds.map (itv s)) hd hw hm.1 hm.2.1 hm.2.2.1 rfl hm.2.2.2.1 hm.2.2.2.2 (sh_in hm.2.2.2.1 hs) (by unfold mk; rw [hs]; rfl) hr hct hR hf (fun r M1 t1 h => by
    obtain ⟨s1, rfl, rfl, rfl, hq⟩ := h
    exact kk s1 hq)
theorem y_cS4v {y idx d : Nat} {v1 v2 v3 v4 : Value} {Q : St → Prop} (hd : decode (mB j) pc = .ok (.invokestatic idx, 3)) (hw : Cond.methodLink (mY j).cls idx (mY y) ∈ gw) (hm : ms0 y 4) (hct : Rv d y [v1, v2, v3, v4] s Q) (hR : d + 1 ≤ R.frames ∧ 8 + (mL y + 11) + 40 * d ≤ R.locals) (hr : (st.map fun v => v.category).sum ≤ 8) (hf : k ≤ R.cells ∧ n ≤ R.slots) (kk : ∀ s1, Q s1 → Wp R j Z k n (pc + 3) lv st (mk s1) TT) : Wp R j Z k n pc lv (v4 :: v3 :: v2 :: v1 :: st) (mk s) TT := by
  refine x_callS (As := [v1, v2, v3, v4]) (mc := 0) (ms := 0) hd hw hm.1 hm.2 rfl hr hct hR hf (fun r M1 t1 h => by
    obtain ⟨s1, rfl, rfl, rfl, hq⟩ := h
    exact kk s1 hq)
theorem y_cV4i {y idx a ci d : Nat} {ds : List Ds} {v1 v2 v3 v4 : Value} {Q : Int32 → St → Prop} (hd : decode (mB j) pc = .ok (.invokevirtual idx, 3)) (hw : Cond.methodLink (mY j).cls idx (mY y) ∈ gw) (hm : mv y 4 ci) (hs : sh a = .inl (ci, ds)) (hct : Ri d y [.ref a, v1, v2, v3, v4] s Q) (hR : d + 1 ≤ R.frames ∧ 8 + (mL y + 11) + 40 * d ≤ R.locals) (hr : (st.map fun v => v.category).sum ≤ 8) (hf : k ≤ R.cells ∧ n ≤ R.slots) (kk : ∀ v s1, Q v s1 → Wp R j Z k n (pc + 3) lv (.int v :: st) (mk s1) TT) : Wp R j Z k n pc lv (v4 :: v3 :: v2 :: v1 :: .ref a :: st) (mk s) TT := by
  refine x_callV (As := [v1, v2, v3, v4]) (mc := 0) (ms := 0) (fs := ds.map (itv s)) hd hw hm.1 hm.2.1 hm.2.2.1 rfl hm.2.2.2.1 hm.2.2.2.2 (sh_in hm.2.2.2.1 hs) (by unfold mk; rw [hs]; rfl) hr hct hR hf (fun r M1 t1 h => by
    obtain ⟨v, s1, rfl, rfl, rfl, hq⟩ := h
    exact kk v s1 hq)
theorem y_cS4i {y idx d : Nat} {v1 v2 v3 v4 : Value} {Q : Int32 → St → Prop} (hd : decode (mB j) pc = .ok (.invokestatic idx, 3)) (hw : Cond.methodLink (mY j).cls idx (mY y) ∈ gw) (hm : ms0 y 4) (hct : Ri d y [v1, v2, v3, v4] s Q) (hR : d + 1 ≤ R.frames ∧ 8 + (mL y + 11) + 40 * d ≤ R.locals) (hr : (st.map fun v => v.category).sum ≤ 8) (hf : k ≤ R.cells ∧ n ≤ R.slots) (kk : ∀ v s1, Q v s1 → Wp R j Z k n (pc + 3) lv (.int v :: st) (mk s1) TT) : Wp R j Z k n pc lv (v4 :: v3 :: v2 :: v1 :: st) (mk s) TT := by
  refine x_callS (As := [v1, v2, v3, v4]) (mc := 0) (ms := 0) hd hw hm.1 hm.2 rfl hr hct hR hf (fun r M1 t1 h => by
    obtain ⟨v, s1, rfl, rfl, rfl, hq⟩ := h
    exact kk v s1 hq)
theorem y_cV4j {y idx a ci d : Nat} {ds : List Ds} {v1 v2 v3 v4 : Value} {Q : Int64 → St → Prop} (hd : decode (mB j) pc = .ok (.invokevirtual idx, 3)) (hw : Cond.methodLink (mY j).cls idx (mY y) ∈ gw) (hm : mv y 4 ci) (hs : sh a = .inl (ci, ds)) (hct : Rj d y [.ref a, v1, v2, v3, v4] s Q) (hR : d + 1 ≤ R.frames ∧ 8 + (mL y + 11) + 40 * d ≤ R.locals) (hr : (st.map fun v => v.category).sum ≤ 8) (hf : k ≤ R.cells ∧ n ≤ R.slots) (kk : ∀ v s1, Q v s1 → Wp R j Z k n (pc + 3) lv (.long v :: st) (mk s1) TT) : Wp R j Z k n pc lv (v4 :: v3 :: v2 :: v1 :: .ref a :: st) (mk s) TT := by
  refine x_callV (As := [v1, v2, v3, v4]) (mc := 0) (ms := 0) (fs := ds.map (itv s)) hd hw hm.1 hm.2.1 hm.2.2.1 rfl hm.2.2.2.1 hm.2.2.2.2 (sh_in hm.2.2.2.1 hs) (by unfold mk; rw [hs]; rfl) hr hct hR hf (fun r M1 t1 h => by
    obtain ⟨v, s1, rfl, rfl, rfl, hq⟩ := h
    exact kk v s1 hq)
theorem y_cS4j {y idx d : Nat} {v1 v2 v3 v4 : Value} {Q : Int64 → St → Prop} (hd : decode (mB j) pc = .ok (.invokestatic idx, 3)) (hw : Cond.methodLink (mY j).cls idx (mY y) ∈ gw) (hm : ms0 y 4) (hct : Rj d y [v1, v2, v3, v4] s Q) (hR : d + 1 ≤ R.frames ∧ 8 + (mL y + 11) + 40 * d ≤ R.locals) (hr : (st.map fun v => v.category).sum ≤ 8) (hf : k ≤ R.cells ∧ n ≤ R.slots) (kk : ∀ v s1, Q v s1 → Wp R j Z k n (pc + 3) lv (.long v :: st) (mk s1) TT) : Wp R j Z k n pc lv (v4 :: v3 :: v2 :: v1 :: st) (mk s) TT := by
  refine x_callS (As := [v1, v2, v3, v4]) (mc := 0) (ms := 0) hd hw hm.1 hm.2 rfl hr hct hR hf (fun r M1 t1 h => by
    obtain ⟨v, s1, rfl, rfl, rfl, hq⟩ := h
    exact kk v s1 hq)
theorem y_cV5v {y idx a ci d : Nat} {ds : List Ds} {v1 v2 v3 v4 v5 : Value} {Q : St → Prop} (hd : decode (mB j) pc = .ok (.invokevirtual idx, 3)) (hw : Cond.methodLink (mY j).cls idx (mY y) ∈ gw) (hm : mv y 5 ci) (hs : sh a = .inl (ci, ds)) (hct : Rv d y [.ref a, v1, v2, v3, v4, v5] s Q) (hR : d + 1 ≤ R.frames ∧ 8 + (mL y + 11) + 40 * d ≤ R.locals) (hr : (st.map fun v => v.category).sum ≤ 8) (hf : k ≤ R.cells ∧ n ≤ R.slots) (kk : ∀ s1, Q s1 → Wp R j Z k n (pc + 3) lv st (mk s1) TT) : Wp R j Z k n pc lv (v5 :: v4 :: v3 :: v2 :: v1 :: .ref a :: st) (mk s) TT := by
  refine x_callV (As := [v1, v2, v3, v4, v5]) (mc := 0) (ms := 0) (fs := ds.map (itv s)) hd hw hm.1 hm.2.1 hm.2.2.1 rfl hm.2.2.2.1 hm.2.2.2.2 (sh_in hm.2.2.2.1 hs) (by unfold mk; rw [hs]; rfl) hr hct hR hf (fun r M1 t1 h => by
    obtain ⟨s1, rfl, rfl, rfl, hq⟩ := h
    exact kk s1 hq)
theorem y_cS5v {y idx d : Nat} {v1 v2 v3 v4 v5 : Value} {Q : St → Prop} (hd : decode (mB j) pc = .ok (.invokestatic idx, 3)) (hw : Cond.methodLink (mY j).cls idx (mY y) ∈ gw) (hm : ms0 y 5) (hct : Rv d y [v1, v2, v3, v4, v5] s Q) (hR : d + 1 ≤ R.frames ∧ 8 + (mL y + 11) + 40 * d ≤ R.locals) (hr : (st.map fun v => v.category).sum ≤ 8) (hf : k ≤ R.cells ∧ n ≤ R.slots) (kk : ∀ s1, Q s1 → Wp R j Z k n (pc + 3) lv st (mk s1) TT) : Wp R j Z k n pc lv (v5 :: v4 :: v3 :: v2 :: v1 :: st) (mk s) TT := by
  refine x_callS (As := [v1, v2, v3, v4, v5]) (mc := 0) (ms := 0) hd hw hm.1 hm.2 rfl hr hct hR hf (fun r M1 t1 h => by
    obtain ⟨s1, rfl, rfl, rfl, hq⟩ := h
    exact kk s1 hq)
theorem y_cV5i {y idx a ci d : Nat} {ds : List Ds} {v1 v2 v3 v4 v5 : Value} {Q : Int32 → St → Prop} (hd : decode (mB j) pc = .ok (.invokevirtual idx, 3)) (hw : Cond.methodLink (mY j).cls idx (mY y) ∈ gw) (hm : mv y 5 ci) (hs : sh a = .inl (ci, ds)) (hct : Ri d y [.ref a, v1, v2, v3, v4, v5] s Q) (hR : d + 1 ≤ R.frames ∧ 8 + (mL y + 11) + 40 * d ≤ R.locals) (hr : (st.map fun v => v.category).sum ≤ 8) (hf : k ≤ R.cells ∧ n ≤ R.slots) (kk : ∀ v s1, Q v s1 → Wp R j Z k n (pc + 3) lv (.int v :: st) (mk s1) TT) : Wp R j Z k n pc lv (v5 :: v4 :: v3 :: v2 :: v1 :: .ref a :: st) (mk s) TT := by
  refine x_callV (As := [v1, v2, v3, v4, v5]) (mc := 0) (ms := 0) (fs := ds.map (itv s)) hd hw hm.1 hm.2.1 hm.2.2.1 rfl hm.2.2.2.1 hm.2.2.2.2 (sh_in hm.2.2.2.1 hs) (by unfold mk; rw [hs]; rfl) hr hct hR hf (fun r M1 t1 h => by
    obtain ⟨v, s1, rfl, rfl, rfl, hq⟩ := h
    exact kk v s1 hq)
theorem y_cS5i {y idx d : Nat} {v1 v2 v3 v4 v5 : Value} {Q : Int32 → St → Prop} (hd : decode (mB j) pc = .ok (.invokestatic idx, 3)) (hw : Cond.methodLink (mY j).cls idx (mY y) ∈ gw) (hm : ms0 y 5) (hct : Ri d y [v1, v2, v3, v4, v5] s Q) (hR : d + 1 ≤ R.frames ∧ 8 + (mL y + 11) + 40 * d ≤ R.locals) (hr : (st.map fun v => v.category).sum ≤ 8) (hf : k ≤ R.cells ∧ n ≤ R.slots) (kk : ∀ v s1, Q v s1 → Wp R j Z k n (pc + 3) lv (.int v :: st) (mk s1) TT) : Wp R j Z k n pc lv (v5 :: v4 :: v3 :: v2 :: v1 :: st) (mk s) TT := by
  refine x_callS (As := [v1, v2, v3, v4, v5]) (mc := 0) (ms := 0) hd hw hm.1 hm.2 rfl hr hct hR hf (fun r M1 t1 h => by
    obtain ⟨v, s1, rfl, rfl, rfl, hq⟩ := h
    exact kk v s1 hq)
theorem y_cV5j {y idx a ci d : Nat} {ds : List Ds} {v1 v2 v3 v4 v5 : Value} {Q : Int64 → St → Prop} (hd : decode (mB j) pc = .ok (.invokevirtual idx, 3)) (hw : Cond.methodLink (mY j).cls idx (mY y) ∈ gw) (hm : mv y 5 ci) (hs : sh a = .inl (ci, ds)) (hct : Rj d y [.ref a, v1, v2, v3, v4, v5] s Q) (hR : d + 1 ≤ R.frames ∧ 8 + (mL y + 11) + 40 * d ≤ R.locals) (hr : (st.map fun v => v.category).sum ≤ 8) (hf : k ≤ R.cells ∧ n ≤ R.slots) (kk : ∀ v s1, Q v s1 → Wp R j Z k n (pc + 3) lv (.long v :: st) (mk s1) TT) : Wp R j Z k n pc lv (v5 :: v4 :: v3 :: v2 :: v1 :: .ref a :: st) (mk s) TT := by
  refine x_callV (As := [v1, v2, v3, v4, v5]) (mc := 0) (ms := 0) (fs := ds.map (itv s)) hd hw hm.1 hm.2.1 hm.2.2.1 rfl hm.2.2.2.1 hm.2.2.2.2 (sh_in hm.2.2.2.1 hs) (by unfold mk; rw [hs]; rfl) hr hct hR hf (fun r M1 t1 h => by
    obtain ⟨v, s1, rfl, rfl, rfl, hq⟩ := h
    exact kk v s1 hq)
theorem y_cS5j {y idx d : Nat} {v1 v2 v3 v4 v5 : Value} {Q : Int64 → St → Prop} (hd : decode (mB j) pc = .ok (.invokestatic idx, 3)) (hw : Cond.methodLink (mY j).cls idx (mY y) ∈ gw) (hm : ms0 y 5) (hct : Rj d y [v1, v2, v3, v4, v5] s Q) (hR : d + 1 ≤ R.frames ∧ 8 + (mL y + 11) + 40 * d ≤ R.locals) (hr : (st.map fun v => v.category).sum ≤ 8) (hf : k ≤ R.cells ∧ n ≤ R.slots) (kk : ∀ v s1, Q v s1 → Wp R j Z k n (pc + 3) lv (.long v :: st) (mk s1) TT) : Wp R j Z k n pc lv (v5 :: v4 :: v3 :: v2 :: v1 :: st) (mk s) TT := by
  refine x_callS (As := [v1, v2, v3, v4, v5]) (mc := 0) (ms := 0) hd hw hm.1 hm.2 rfl hr hct hR hf (fun r M1 t1 h => by
    obtain ⟨v, s1, rfl, rfl, rfl, hq⟩ := h
    exact kk v s1 hq)
theorem y_cV6v {y idx a ci d : Nat} {ds : List Ds} {v1 v2 v3 v4 v5 v6 : Value} {Q : St → Prop} (hd : decode (mB j) pc = .ok (.invokevirtual idx, 3)) (hw : Cond.methodLink (mY j).cls idx (mY y) ∈ gw) (hm : mv y 6 ci) (hs : sh a = .inl (ci, ds)) (hct : Rv d y [.ref a, v1, v2, v3, v4, v5, v6] s Q) (hR : d + 1 ≤ R.frames ∧ 8 + (mL y + 11) + 40 * d ≤ R.locals) (hr : (st.map fun v => v.category).sum ≤ 8) (hf : k ≤ R.cells ∧ n ≤ R.slots) (kk : ∀ s1, Q s1 → Wp R j Z k n (pc + 3) lv st (mk s1) TT) : Wp R j Z k n pc lv (v6 :: v5 :: v4 :: v3 :: v2 :: v1 :: .ref a :: st) (mk s) TT := by
  refine x_callV (As := [v1, v2, v3, v4, v5, v6]) (mc := 0) (ms := 0) (fs := ds.map (itv s)) hd hw hm.1 hm.2.1 hm.2.2.1 rfl hm.2.2.2.1 hm.2.2.2.2 (sh_in hm.2.2.2.1 hs) (by unfold mk; rw [hs]; rfl) hr hct hR hf (fun r M1 t1 h => by
    obtain ⟨s1, rfl, rfl, rfl, hq⟩ := h
    exact kk s1 hq)
theorem y_cS6v {y idx d : Nat} {v1 v2 v3 v4 v5 v6 : Value} {Q : St → Prop} (hd : decode (mB j) pc = .ok (.invokestatic idx, 3)) (hw : Cond.methodLink (mY j).cls idx (mY y) ∈ gw) (hm : ms0 y 6) (hct : Rv d y [v1, v2, v3, v4, v5, v6] s Q) (hR : d + 1 ≤ R.frames ∧ 8 + (mL y + 11) + 40 * d ≤ R.locals) (hr : (st.map fun v => v.category).sum ≤ 8) (hf : k ≤ R.cells ∧ n ≤ R.slots) (kk : ∀ s1, Q s1 → Wp R j Z k n (pc + 3) lv st (mk s1) TT) : Wp R j Z k n pc lv (v6 :: v5 :: v4 :: v3 :: v2 :: v1 :: st) (mk s) TT := by
  refine x_callS (As := [v1, v2, v3, v4, v5, v6]) (mc := 0) (ms := 0) hd hw hm.1 hm.2 rfl hr hct hR hf (fun r M1 t1 h => by
    obtain ⟨s1, rfl, rfl, rfl, hq⟩ := h
    exact kk s1 hq)
theorem y_cV6i {y idx a ci d : Nat} {ds : List Ds} {v1 v2 v3 v4 v5 v6 : Value} {Q : Int32 → St → Prop} (hd : decode (mB j) pc = .ok (.invokevirtual idx, 3)) (hw : Cond.methodLink (mY j).cls idx (mY y) ∈ gw) (hm : mv y 6 ci) (hs : sh a = .inl (ci, ds)) (hct : Ri d y [.ref a, v1, v2, v3, v4, v5, v6] s Q) (hR : d + 1 ≤ R.frames ∧ 8 + (mL y + 11) + 40 * d ≤ R.locals) (hr : (st.map fun v => v.category).sum ≤ 8) (hf : k ≤ R.cells ∧ n ≤ R.slots) (kk : ∀ v s1, Q v s1 → Wp R j Z k n (pc + 3) lv (.int v :: st) (mk s1) TT) : Wp R j Z k n pc lv (v6 :: v5 :: v4 :: v3 :: v2 :: v1 :: .ref a :: st) (mk s) TT := by
  refine x_callV (As := [v1, v2, v3, v4, v5, v6]) (mc := 0) (ms := 0) (fs := ds.map (itv s)) hd hw hm.1 hm.2.1 hm.2.2.1 rfl hm.2.2.2.1 hm.2.2.2.2 (sh_in hm.2.2.2.1 hs) (by unfold mk; rw [hs]; rfl) hr hct hR hf (fun r M1 t1 h => by
    obtain ⟨v, s1, rfl, rfl, rfl, hq⟩ := h
    exact kk v s1 hq)
theorem y_cS6i {y idx d : Nat} {v1 v2 v3 v4 v5 v6 : Value} {Q : Int32 → St → Prop} (hd : decode (mB j) pc = .ok (.invokestatic idx, 3)) (hw : Cond.methodLink (mY j).cls idx (mY y) ∈ gw) (hm : ms0 y 6) (hct : Ri d y [v1, v2, v3, v4, v5, v6] s Q) (hR : d + 1 ≤ R.frames ∧ 8 + (mL y + 11) + 40 * d ≤ R.locals) (hr : (st.map fun v => v.category).sum ≤ 8) (hf : k ≤ R.cells ∧ n ≤ R.slots) (kk : ∀ v s1, Q v s1 → Wp R j Z k n (pc + 3) lv (.int v :: st) (mk s1) TT) : Wp R j Z k n pc lv (v6 :: v5 :: v4 :: v3 :: v2 :: v1 :: st) (mk s) TT := by
  refine x_callS (As := [v1, v2, v3, v4, v5, v6]) (mc := 0) (ms := 0) hd hw hm.1 hm.2 rfl hr hct hR hf (fun r M1 t1 h => by
    obtain ⟨v, s1, rfl, rfl, rfl, hq⟩ := h
    exact kk v s1 hq)
theorem y_cV6j {y idx a ci d : Nat} {ds : List Ds} {v1 v2 v3 v4 v5 v6 : Value} {Q : Int64 → St → Prop} (hd : decode (mB j) pc = .ok (.invokevirtual idx, 3)) (hw : Cond.methodLink (mY j).cls idx (mY y) ∈ gw) (hm : mv y 6 ci) (hs : sh a = .inl (ci, ds)) (hct : Rj d y [.ref a, v1, v2, v3, v4, v5, v6] s Q) (hR : d + 1 ≤ R.frames ∧ 8 + (mL y + 11) + 40 * d ≤ R.locals) (hr : (st.map fun v => v.category).sum ≤ 8) (hf : k ≤ R.cells ∧ n ≤ R.slots) (kk : ∀ v s1, Q v s1 → Wp R j Z k n (pc + 3) lv (.long v :: st) (mk s1) TT) : Wp R j Z k n pc lv (v6 :: v5 :: v4 :: v3 :: v2 :: v1 :: .ref a :: st) (mk s) TT := by
  refine x_callV (As := [v1, v2, v3, v4, v5, v6]) (mc := 0) (ms := 0) (fs := ds.map (itv s)) hd hw hm.1 hm.2.1 hm.2.2.1 rfl hm.2.2.2.1 hm.2.2.2.2 (sh_in hm.2.2.2.1 hs) (by unfold mk; rw [hs]; rfl) hr hct hR hf (fun r M1 t1 h => by
    obtain ⟨v, s1, rfl, rfl, rfl, hq⟩ := h
    exact kk v s1 hq)
theorem y_cS6j {y idx d : Nat} {v1 v2 v3 v4 v5 v6 : Value} {Q : Int64 → St → Prop} (hd : decode (mB j) pc = .ok (.invokestatic idx, 3)) (hw : Cond.methodLink (mY j).cls idx (mY y) ∈ gw) (hm : ms0 y 6) (hct : Rj d y [v1, v2, v3, v4, v5, v6] s Q) (hR : d + 1 ≤ R.frames ∧ 8 + (mL y + 11) + 40 * d ≤ R.locals) (hr : (st.map fun v => v.category).sum ≤ 8) (hf : k ≤ R.cells ∧ n ≤ R.slots) (kk : ∀ v s1, Q v s1 → Wp R j Z k n (pc + 3) lv (.long v :: st) (mk s1) TT) : Wp R j Z k n pc lv (v6 :: v5 :: v4 :: v3 :: v2 :: v1 :: st) (mk s) TT := by
  refine x_callS (As := [v1, v2, v3, v4, v5, v6]) (mc := 0) (ms := 0) hd hw hm.1 hm.2 rfl hr hct hR hf (fun r M1 t1 h => by
    obtain ⟨v, s1, rfl, rfl, rfl, hq⟩ := h
    exact kk v s1 hq)
end YR
