/-! the law: a script, its cases -/
def Zs (xs : Nat → Int32) (L : Nat) (Z : Zt) : Zt := fun E args s below t => eX E = xs ∧ eL E = L → Z E args s below t
section XL
variable {R : Room} {j : Nat} {Z : Zt} {k n pc : Nat} {lv : List (Nat × Value)} {st : List Value} {M : Me} {top : Nat} {xs : Nat → Int32} {L : Nat}
theorem x_w (kk : Wp R j Z k n pc lv st M top) : Wp R j (Zs xs L Z) k n pc lv st M top := by
  intro l E p e s m args below meth c C H locs hl hH ls hv T hT X
  obtain ⟨t, a, b⟩ := kk l E p e s m args below meth c C H locs hl hH ls hv T hT X
  exact ⟨t, a, fun _ => b⟩
theorem x_sldZ {i : Int32} (hd : decode (mB j) pc = .ok (.iaload, 1)) (hi : vp_in i L) (kk : Wp R j (Zs xs L Z) k n (pc + 1) lv (.int (xs i.toNatClampNeg) :: st) M top) : Wp R j (Zs xs L Z) k n pc lv (.int i :: .ref 0 :: st) M top := by
  intro l E p e s m args below meth c C H locs hl hH ls hv
  by_cases hE : eX E = xs ∧ eL E = L
  · obtain ⟨e1, e2⟩ := hE
    have hF := C.2.2.2.2.2.2.2.2.2.1
    have h9 := kk l E p e s m args below meth c C H locs hl hH ls hv
    rw [← e1] at h9
    refine va_sld (A := eNew E) (xs := eX E) (L := eL E) C.2.1 C.2.2.1 hF.2.2.2.2.2.1 (by rw [C.1.2.2]; exact C.1.2.1 0 (by decide)) (by have := C.1.2.1 0 (by decide); show ¬ eS E ≤ _; omega) (hp_S C.1 hH hl) (by rw [e2]; exact hi) hd ?_
    rw [e1] at h9 ⊢
    exact h9
  · intro T hT X
    exact ⟨_, Steps.refl _, fun h => absurd h hE⟩
theorem x_slenZ (hd : decode (mB j) pc = .ok (.arraylength, 1)) (kk : Wp R j (Zs xs L Z) k n (pc + 1) lv (.int (Int32.ofNat L) :: st) M top) : Wp R j (Zs xs L Z) k n pc lv (.ref 0 :: st) M top := by
  intro l E p e s m args below meth c C H locs hl hH ls hv
  by_cases hE : eX E = xs ∧ eL E = L
  · obtain ⟨e1, e2⟩ := hE
    have hF := C.2.2.2.2.2.2.2.2.2.1
    have h9 := kk l E p e s m args below meth c C H locs hl hH ls hv
    refine va_slen (A := eNew E) (xs := eX E) (L := eL E) C.2.1 C.2.2.1 hF.2.2.2.2.2.1 (by rw [C.1.2.2]; exact C.1.2.1 0 (by decide)) (by have := C.1.2.1 0 (by decide); show ¬ eS E ≤ _; omega) (hp_S C.1 hH hl) hd ?_
    rw [e2]
    exact h9
  · intro T hT X
    exact ⟨_, Steps.refl _, fun h => absurd h hE⟩
end XL
theorem and31 (y : Int32) : ∃ q, q < 32 ∧ y &&& 31 = nI q := by
  refine ⟨(y.toBitVec &&& 31#32).toNat, ?_, ?_⟩
  · rw [BitVec.toNat_and]
    exact Nat.lt_of_le_of_lt Nat.and_le_right (by decide)
  · apply Int32.toBitVec_inj.mp
    show y.toBitVec &&& 31#32 = BitVec.ofNat 32 _
    rw [BitVec.ofNat_toNat]; simp
theorem nI_ad {a c : Nat} : nI a + nI c = nI (a + c) := nI_add a c
theorem vin6 {i L c : Nat} (h : i + 6 ≤ L) (hL : L < 2 ^ 31) (hc : c < 6) : vp_in (nI i + nI c) L := fun z => by
  rw [nI_ad] at z
  rcases z with z | z
  · exact nI_pos (by omega) z
  · rw [nI_clamp (by omega)] at z; omega
def lvL (i : Nat) : List (Nat × Value) := [(3, .int (nI i)), (2, .ref 280), (1, .ref 3), (0, .ref 0)]
section CS
variable {R : Room} {Z : Zt} {k n i K L : Nat} {xs : Nat → Int32} {X : St}
set_option maxRecDepth 100000 in
theorem law_0 (h : IV K X) (hk : K + 2000 < 2 ^ 30) (hi : i + 6 ≤ L) (hL : L < 2 ^ 31) (hR : 100 ≤ R.frames ∧ 4500 ≤ R.locals) (hc : k ≤ R.cells ∧ n ≤ R.slots) (hend : ∀ X2, IV (K + 2000) X2 → Wp R 197 (Zs xs L Z) k n 854 (lvL i) [] (mk X2) TT) : Wp R 197 (Zs xs L Z) k n 140 (lvL i) [] (mk X) TT := by
  obtain ⟨v, X1, X2, h1, h2, h3⟩ := J_feed (xs (nI i + 1).toNatClampNeg) (xs (nI i + 2).toNatClampNeg) (xs (nI i + 3).toNatClampNeg) (xs (nI i + 4).toNatClampNeg) (xs (nI i + 5).toNatClampNeg) h
  unfold lvL
  refine x_aload_n (pc := 140) d197_140 rfl ?_
  refine x_aload_n (pc := 141) d197_141 rfl ?_
  refine x_iload_n (pc := 142) d197_142 rfl ?_
  refine x_iconst (pc := 143) (v := (1)) d197_143 (by decide) ?_
  refine x_iadd (pc := 144) d197_144 ?_
  refine x_sldZ (pc := 145) d197_145 (vin6 (c := 1) hi hL (by decide)) ?_
  refine x_aload_n (pc := 146) d197_146 rfl ?_
  refine x_iload_n (pc := 147) d197_147 rfl ?_
  refine x_iconst (pc := 148) (v := (2)) d197_148 (by decide) ?_
  refine x_iadd (pc := 149) d197_149 ?_
  refine x_sldZ (pc := 150) d197_150 (vin6 (c := 2) hi hL (by decide)) ?_
  refine x_aload_n (pc := 151) d197_151 rfl ?_
  refine x_iload_n (pc := 152) d197_152 rfl ?_
  refine x_iconst (pc := 153) (v := (3)) d197_153 (by decide) ?_
  refine x_iadd (pc := 154) d197_154 ?_
  refine x_sldZ (pc := 155) d197_155 (vin6 (c := 3) hi hL (by decide)) ?_
  refine x_aload_n (pc := 156) d197_156 rfl ?_
  refine x_iload_n (pc := 157) d197_157 rfl ?_
  refine x_iconst (pc := 158) (v := (4)) d197_158 (by decide) ?_
  refine x_iadd (pc := 159) d197_159 ?_
  refine x_sldZ (pc := 160) d197_160 (vin6 (c := 4) hi hL (by decide)) ?_
  refine x_aload_n (pc := 161) d197_161 rfl ?_
  refine x_iload_n (pc := 162) d197_162 rfl ?_
  refine x_iconst (pc := 163) (v := (5)) d197_163 (by decide) ?_
  refine x_iadd (pc := 164) d197_164 ?_
  refine x_sldZ (pc := 165) d197_165 (vin6 (c := 5) hi hL (by decide)) ?_
  refine y_cV5i (pc := 166) d197_166 ml10_13 mv10 shL3 h1 ⟨Nat.le_trans (Nat.le_of_ble_eq_true rfl) hR.1, Nat.le_trans (Nat.le_of_ble_eq_true rfl) hR.2⟩ (Nat.le_of_ble_eq_true rfl) hc (fun w s1 hq => ?_)
  obtain ⟨rfl, rfl⟩ := hq
  refine x_aload_n (pc := 169) d197_169 rfl ?_
  refine x_aload_n (pc := 170) d197_170 rfl ?_
  refine x_iload_n (pc := 171) d197_171 rfl ?_
  refine x_iconst (pc := 172) (v := (1)) d197_172 (by decide) ?_
  refine x_iadd (pc := 173) d197_173 ?_
  refine x_sldZ (pc := 174) d197_174 (vin6 (c := 1) hi hL (by decide)) ?_
  refine x_aload_n (pc := 175) d197_175 rfl ?_
  refine x_iload_n (pc := 176) d197_176 rfl ?_
  refine x_iconst (pc := 177) (v := (2)) d197_177 (by decide) ?_
  refine x_iadd (pc := 178) d197_178 ?_
  refine x_sldZ (pc := 179) d197_179 (vin6 (c := 2) hi hL (by decide)) ?_
  refine x_aload_n (pc := 180) d197_180 rfl ?_
  refine x_iload_n (pc := 181) d197_181 rfl ?_
  refine x_iconst (pc := 182) (v := (3)) d197_182 (by decide) ?_
  refine x_iadd (pc := 183) d197_183 ?_
  refine x_sldZ (pc := 184) d197_184 (vin6 (c := 3) hi hL (by decide)) ?_
  refine x_aload_n (pc := 185) d197_185 rfl ?_
  refine x_iload_n (pc := 186) d197_186 rfl ?_
  refine x_iconst (pc := 187) (v := (4)) d197_187 (by decide) ?_
  refine x_iadd (pc := 188) d197_188 ?_
  refine x_sldZ (pc := 189) d197_189 (vin6 (c := 4) hi hL (by decide)) ?_
  refine x_aload_n (pc := 190) d197_190 rfl ?_
  refine x_iload_n (pc := 191) d197_191 rfl ?_
  refine x_iconst (pc := 192) (v := (5)) d197_192 (by decide) ?_
  refine x_iadd (pc := 193) d197_193 ?_
  refine x_sldZ (pc := 194) d197_194 (vin6 (c := 5) hi hL (by decide)) ?_
  refine y_cV5i (pc := 195) d197_195 ml10_17 mv124 shL280 h2 ⟨Nat.le_trans (Nat.le_of_ble_eq_true rfl) hR.1, Nat.le_trans (Nat.le_of_ble_eq_true rfl) hR.2⟩ (Nat.le_of_ble_eq_true rfl) hc (fun w s1 hq => ?_)
  obtain ⟨rfl, rfl⟩ := hq
  exact x_icmp_eq (pc := 198) (tgt := 854) d197_198 (by decide) (fun _ => hend _ h3) (fun q => absurd rfl q)
set_option maxRecDepth 100000 in
theorem law_1 (h : IV K X) (hk : K + 2000 < 2 ^ 30) (hi : i + 6 ≤ L) (hL : L < 2 ^ 31) (hR : 100 ≤ R.frames ∧ 4500 ≤ R.locals) (hc : k ≤ R.cells ∧ n ≤ R.slots) (hend : ∀ X2, IV (K + 2000) X2 → Wp R 197 (Zs xs L Z) k n 854 (lvL i) [] (mk X2) TT) : Wp R 197 (Zs xs L Z) k n 203 (lvL i) [] (mk X) TT := by
  obtain ⟨v, X1, X2, h1, h2, h3⟩ := J_end (xs (nI i + 1).toNatClampNeg) h
  unfold lvL
  refine x_aload_n (pc := 203) d197_203 rfl ?_
  refine x_aload_n (pc := 204) d197_204 rfl ?_
  refine x_iload_n (pc := 205) d197_205 rfl ?_
  refine x_iconst (pc := 206) (v := (1)) d197_206 (by decide) ?_
  refine x_iadd (pc := 207) d197_207 ?_
  refine x_sldZ (pc := 208) d197_208 (vin6 (c := 1) hi hL (by decide)) ?_
  refine y_cV1i (pc := 209) d197_209 ml10_18 mv12 shL3 h1 ⟨Nat.le_trans (Nat.le_of_ble_eq_true rfl) hR.1, Nat.le_trans (Nat.le_of_ble_eq_true rfl) hR.2⟩ (Nat.le_of_ble_eq_true rfl) hc (fun w s1 hq => ?_)
  obtain ⟨rfl, rfl⟩ := hq
  refine x_aload_n (pc := 212) d197_212 rfl ?_
  refine x_aload_n (pc := 213) d197_213 rfl ?_
  refine x_iload_n (pc := 214) d197_214 rfl ?_
  refine x_iconst (pc := 215) (v := (1)) d197_215 (by decide) ?_
  refine x_iadd (pc := 216) d197_216 ?_
  refine x_sldZ (pc := 217) d197_217 (vin6 (c := 1) hi hL (by decide)) ?_
  refine y_cV1i (pc := 218) d197_218 ml10_22 mv125 shL280 h2 ⟨Nat.le_trans (Nat.le_of_ble_eq_true rfl) hR.1, Nat.le_trans (Nat.le_of_ble_eq_true rfl) hR.2⟩ (Nat.le_of_ble_eq_true rfl) hc (fun w s1 hq => ?_)
  obtain ⟨rfl, rfl⟩ := hq
  exact x_icmp_eq (pc := 221) (tgt := 854) d197_221 (by decide) (fun _ => hend _ h3) (fun q => absurd rfl q)
set_option maxRecDepth 100000 in
theorem law_2 (h : IV K X) (hk : K + 2000 < 2 ^ 30) (hi : i + 6 ≤ L) (hL : L < 2 ^ 31) (hR : 100 ≤ R.frames ∧ 4500 ≤ R.locals) (hc : k ≤ R.cells ∧ n ≤ R.slots) (hend : ∀ X2, IV (K + 2000) X2 → Wp R 197 (Zs xs L Z) k n 854 (lvL i) [] (mk X2) TT) : Wp R 197 (Zs xs L Z) k n 226 (lvL i) [] (mk X) TT := by
  obtain ⟨v, X1, X2, h1, h2, h3⟩ := J_text  h
  unfold lvL
  refine x_aload_n (pc := 226) d197_226 rfl ?_
  refine y_cV0i (pc := 227) d197_227 ml10_23 mv13 shL3 h1 ⟨Nat.le_trans (Nat.le_of_ble_eq_true rfl) hR.1, Nat.le_trans (Nat.le_of_ble_eq_true rfl) hR.2⟩ (Nat.le_of_ble_eq_true rfl) hc (fun w s1 hq => ?_)
  obtain ⟨rfl, rfl⟩ := hq
  refine x_aload_n (pc := 230) d197_230 rfl ?_
  refine y_cV0i (pc := 231) d197_231 ml10_27 mv126 shL280 h2 ⟨Nat.le_trans (Nat.le_of_ble_eq_true rfl) hR.1, Nat.le_trans (Nat.le_of_ble_eq_true rfl) hR.2⟩ (Nat.le_of_ble_eq_true rfl) hc (fun w s1 hq => ?_)
  obtain ⟨rfl, rfl⟩ := hq
  exact x_icmp_eq (pc := 234) (tgt := 854) d197_234 (by decide) (fun _ => hend _ h3) (fun q => absurd rfl q)
set_option maxRecDepth 100000 in
theorem law_3 (h : IV K X) (hk : K + 2000 < 2 ^ 30) (hi : i + 6 ≤ L) (hL : L < 2 ^ 31) (hR : 100 ≤ R.frames ∧ 4500 ≤ R.locals) (hc : k ≤ R.cells ∧ n ≤ R.slots) (hend : ∀ X2, IV (K + 2000) X2 → Wp R 197 (Zs xs L Z) k n 854 (lvL i) [] (mk X2) TT) : Wp R 197 (Zs xs L Z) k n 239 (lvL i) [] (mk X) TT := by
  obtain ⟨v, X1, X2, h1, h2, h3⟩ := J_place  h
  unfold lvL
  refine x_aload_n (pc := 239) d197_239 rfl ?_
  refine y_cV0i (pc := 240) d197_240 ml10_28 mv53 shL3 h1 ⟨Nat.le_trans (Nat.le_of_ble_eq_true rfl) hR.1, Nat.le_trans (Nat.le_of_ble_eq_true rfl) hR.2⟩ (Nat.le_of_ble_eq_true rfl) hc (fun w s1 hq => ?_)
  obtain ⟨rfl, rfl⟩ := hq
  refine x_aload_n (pc := 243) d197_243 rfl ?_
  refine y_cV0i (pc := 244) d197_244 ml10_31 mv154 shL280 h2 ⟨Nat.le_trans (Nat.le_of_ble_eq_true rfl) hR.1, Nat.le_trans (Nat.le_of_ble_eq_true rfl) hR.2⟩ (Nat.le_of_ble_eq_true rfl) hc (fun w s1 hq => ?_)
  obtain ⟨rfl, rfl⟩ := hq
  exact x_icmp_eq (pc := 247) (tgt := 854) d197_247 (by decide) (fun _ => hend _ h3) (fun q => absurd rfl q)
set_option maxRecDepth 100000 in
theorem law_4 (h : IV K X) (hk : K + 2000 < 2 ^ 30) (hi : i + 6 ≤ L) (hL : L < 2 ^ 31) (hR : 100 ≤ R.frames ∧ 4500 ≤ R.locals) (hc : k ≤ R.cells ∧ n ≤ R.slots) (hend : ∀ X2, IV (K + 2000) X2 → Wp R 197 (Zs xs L Z) k n 854 (lvL i) [] (mk X2) TT) : Wp R 197 (Zs xs L Z) k n 252 (lvL i) [] (mk X) TT := by
  obtain ⟨v, X1, X2, h1, h2, h3⟩ := J_told (xs (nI i + 1).toNatClampNeg) (xs (nI i + 2).toNatClampNeg) h
  unfold lvL
  refine x_aload_n (pc := 252) d197_252 rfl ?_
  refine x_aload_n (pc := 253) d197_253 rfl ?_
  refine x_iload_n (pc := 254) d197_254 rfl ?_
  refine x_iconst (pc := 255) (v := (1)) d197_255 (by decide) ?_
  refine x_iadd (pc := 256) d197_256 ?_
  refine x_sldZ (pc := 257) d197_257 (vin6 (c := 1) hi hL (by decide)) ?_
  refine x_aload_n (pc := 258) d197_258 rfl ?_
  refine x_iload_n (pc := 259) d197_259 rfl ?_
  refine x_iconst (pc := 260) (v := (2)) d197_260 (by decide) ?_
  refine x_iadd (pc := 261) d197_261 ?_
  refine x_sldZ (pc := 262) d197_262 (vin6 (c := 2) hi hL (by decide)) ?_
  refine y_cV2i (pc := 263) d197_263 ml10_32 mv54 shL3 h1 ⟨Nat.le_trans (Nat.le_of_ble_eq_true rfl) hR.1, Nat.le_trans (Nat.le_of_ble_eq_true rfl) hR.2⟩ (Nat.le_of_ble_eq_true rfl) hc (fun w s1 hq => ?_)
  obtain ⟨rfl, rfl⟩ := hq
  refine x_aload_n (pc := 266) d197_266 rfl ?_
  refine x_aload_n (pc := 267) d197_267 rfl ?_
  refine x_iload_n (pc := 268) d197_268 rfl ?_
  refine x_iconst (pc := 269) (v := (1)) d197_269 (by decide) ?_
  refine x_iadd (pc := 270) d197_270 ?_
  refine x_sldZ (pc := 271) d197_271 (vin6 (c := 1) hi hL (by decide)) ?_
  refine x_aload_n (pc := 272) d197_272 rfl ?_
  refine x_iload_n (pc := 273) d197_273 rfl ?_
  refine x_iconst (pc := 274) (v := (2)) d197_274 (by decide) ?_
  refine x_iadd (pc := 275) d197_275 ?_
  refine x_sldZ (pc := 276) d197_276 (vin6 (c := 2) hi hL (by decide)) ?_
  refine y_cV2i (pc := 277) d197_277 ml10_36 mv155 shL280 h2 ⟨Nat.le_trans (Nat.le_of_ble_eq_true rfl) hR.1, Nat.le_trans (Nat.le_of_ble_eq_true rfl) hR.2⟩ (Nat.le_of_ble_eq_true rfl) hc (fun w s1 hq => ?_)
  obtain ⟨rfl, rfl⟩ := hq
  exact x_icmp_eq (pc := 280) (tgt := 854) d197_280 (by decide) (fun _ => hend _ h3) (fun q => absurd rfl q)
set_option maxRecDepth 100000 in
theorem law_5 (h : IV K X) (hk : K + 2000 < 2 ^ 30) (hi : i + 6 ≤ L) (hL : L < 2 ^ 31) (hR : 100 ≤ R.frames ∧ 4500 ≤ R.locals) (hc : k ≤ R.cells ∧ n ≤ R.slots) (hend : ∀ X2, IV (K + 2000) X2 → Wp R 197 (Zs xs L Z) k n 854 (lvL i) [] (mk X2) TT) : Wp R 197 (Zs xs L Z) k n 285 (lvL i) [] (mk X) TT := by
  obtain ⟨v, X1, X2, h1, h2, h3⟩ := J_start (xs (nI i + 1).toNatClampNeg) (xs (nI i + 2).toNatClampNeg) h
  unfold lvL
  refine x_aload_n (pc := 285) d197_285 rfl ?_
  refine x_aload_n (pc := 286) d197_286 rfl ?_
  refine x_iload_n (pc := 287) d197_287 rfl ?_
  refine x_iconst (pc := 288) (v := (1)) d197_288 (by decide) ?_
  refine x_iadd (pc := 289) d197_289 ?_
  refine x_sldZ (pc := 290) d197_290 (vin6 (c := 1) hi hL (by decide)) ?_
  refine x_aload_n (pc := 291) d197_291 rfl ?_
  refine x_iload_n (pc := 292) d197_292 rfl ?_
  refine x_iconst (pc := 293) (v := (2)) d197_293 (by decide) ?_
  refine x_iadd (pc := 294) d197_294 ?_
  refine x_sldZ (pc := 295) d197_295 (vin6 (c := 2) hi hL (by decide)) ?_
  refine y_cV2i (pc := 296) d197_296 ml10_37 mv56 shL3 h1 ⟨Nat.le_trans (Nat.le_of_ble_eq_true rfl) hR.1, Nat.le_trans (Nat.le_of_ble_eq_true rfl) hR.2⟩ (Nat.le_of_ble_eq_true rfl) hc (fun w s1 hq => ?_)
  obtain ⟨rfl, rfl⟩ := hq
  refine x_aload_n (pc := 299) d197_299 rfl ?_
  refine x_aload_n (pc := 300) d197_300 rfl ?_
  refine x_iload_n (pc := 301) d197_301 rfl ?_
  refine x_iconst (pc := 302) (v := (1)) d197_302 (by decide) ?_
  refine x_iadd (pc := 303) d197_303 ?_
  refine x_sldZ (pc := 304) d197_304 (vin6 (c := 1) hi hL (by decide)) ?_
  refine x_aload_n (pc := 305) d197_305 rfl ?_
  refine x_iload_n (pc := 306) d197_306 rfl ?_
  refine x_iconst (pc := 307) (v := (2)) d197_307 (by decide) ?_
  refine x_iadd (pc := 308) d197_308 ?_
  refine x_sldZ (pc := 309) d197_309 (vin6 (c := 2) hi hL (by decide)) ?_
  refine y_cV2i (pc := 310) d197_310 ml10_40 mv156 shL280 h2 ⟨Nat.le_trans (Nat.le_of_ble_eq_true rfl) hR.1, Nat.le_trans (Nat.le_of_ble_eq_true rfl) hR.2⟩ (Nat.le_of_ble_eq_true rfl) hc (fun w s1 hq => ?_)
  obtain ⟨rfl, rfl⟩ := hq
  exact x_icmp_eq (pc := 313) (tgt := 854) d197_313 (by decide) (fun _ => hend _ h3) (fun q => absurd rfl q)
set_option maxRecDepth 100000 in
theorem law_6 (h : IV K X) (hk : K + 2000 < 2 ^ 30) (hi : i + 6 ≤ L) (hL : L < 2 ^ 31) (hR : 100 ≤ R.frames ∧ 4500 ≤ R.locals) (hc : k ≤ R.cells ∧ n ≤ R.slots) (hend : ∀ X2, IV (K + 2000) X2 → Wp R 197 (Zs xs L Z) k n 854 (lvL i) [] (mk X2) TT) : Wp R 197 (Zs xs L Z) k n 318 (lvL i) [] (mk X) TT := by
  obtain ⟨v, X1, X2, h1, h2, h3⟩ := J_turn (xs (nI i + 1).toNatClampNeg) h hk
  unfold lvL
  refine x_aload_n (pc := 318) d197_318 rfl ?_
  refine x_aload_n (pc := 319) d197_319 rfl ?_
  refine x_iload_n (pc := 320) d197_320 rfl ?_
  refine x_iconst (pc := 321) (v := (1)) d197_321 (by decide) ?_
  refine x_iadd (pc := 322) d197_322 ?_
  refine x_sldZ (pc := 323) d197_323 (vin6 (c := 1) hi hL (by decide)) ?_
  refine y_cV1i (pc := 324) d197_324 ml10_41 mv64 shL3 h1 ⟨Nat.le_trans (Nat.le_of_ble_eq_true rfl) hR.1, Nat.le_trans (Nat.le_of_ble_eq_true rfl) hR.2⟩ (Nat.le_of_ble_eq_true rfl) hc (fun w s1 hq => ?_)
  obtain ⟨rfl, rfl⟩ := hq
  refine x_aload_n (pc := 327) d197_327 rfl ?_
  refine x_aload_n (pc := 328) d197_328 rfl ?_
  refine x_iload_n (pc := 329) d197_329 rfl ?_
  refine x_iconst (pc := 330) (v := (1)) d197_330 (by decide) ?_
  refine x_iadd (pc := 331) d197_331 ?_
  refine x_sldZ (pc := 332) d197_332 (vin6 (c := 1) hi hL (by decide)) ?_
  refine y_cV1i (pc := 333) d197_333 ml10_44 mv158 shL280 h2 ⟨Nat.le_trans (Nat.le_of_ble_eq_true rfl) hR.1, Nat.le_trans (Nat.le_of_ble_eq_true rfl) hR.2⟩ (Nat.le_of_ble_eq_true rfl) hc (fun w s1 hq => ?_)
  obtain ⟨rfl, rfl⟩ := hq
  exact x_icmp_eq (pc := 336) (tgt := 854) d197_336 (by decide) (fun _ => hend _ h3) (fun q => absurd rfl q)
set_option maxRecDepth 100000 in
theorem law_7 (h : IV K X) (hk : K + 2000 < 2 ^ 30) (hi : i + 6 ≤ L) (hL : L < 2 ^ 31) (hR : 100 ≤ R.frames ∧ 4500 ≤ R.locals) (hc : k ≤ R.cells ∧ n ≤ R.slots) (hend : ∀ X2, IV (K + 2000) X2 → Wp R 197 (Zs xs L Z) k n 854 (lvL i) [] (mk X2) TT) : Wp R 197 (Zs xs L Z) k n 341 (lvL i) [] (mk X) TT := by
  obtain ⟨v, X1, X2, h1, h2, h3⟩ := J_play (((xs (nI i + 1).toNatClampNeg).toInt64 <<< ((32 : Int32).toInt64 &&& 63)) ||| ((xs (nI i + 2).toNatClampNeg).toInt64 &&& (4294967295 : Int64))) (xs (nI i + 3).toNatClampNeg) h hk
  unfold lvL
  refine x_aload_n (pc := 341) d197_341 rfl ?_
  refine x_aload_n (pc := 342) d197_342 rfl ?_
  refine x_iload_n (pc := 343) d197_343 rfl ?_
  refine x_iconst (pc := 344) (v := (1)) d197_344 (by decide) ?_
  refine x_iadd (pc := 345) d197_345 ?_
  refine x_sldZ (pc := 346) d197_346 (vin6 (c := 1) hi hL (by decide)) ?_
  refine x_i2l (pc := 347) d197_347 ?_
  refine x_bipush (pc := 348) (v := (32)) d197_348 (by decide) ?_
  refine x_lshl (pc := 350) d197_350 ?_
  refine x_aload_n (pc := 351) d197_351 rfl ?_
  refine x_iload_n (pc := 352) d197_352 rfl ?_
  refine x_iconst (pc := 353) (v := (2)) d197_353 (by decide) ?_
  refine x_iadd (pc := 354) d197_354 ?_
  refine x_sldZ (pc := 355) d197_355 (vin6 (c := 2) hi hL (by decide)) ?_
  refine x_i2l (pc := 356) d197_356 ?_
  refine x_ldc2 (pc := 357) (v := (4294967295)) (gw_t (i := 1347) (by decide +kernel) (by decide +kernel)) d197_357 ?_
  refine x_land (pc := 360) d197_360 ?_
  refine x_lor (pc := 361) d197_361 ?_
  refine x_aload_n (pc := 362) d197_362 rfl ?_
  refine x_iload_n (pc := 363) d197_363 rfl ?_
  refine x_iconst (pc := 364) (v := (3)) d197_364 (by decide) ?_
  refine x_iadd (pc := 365) d197_365 ?_
  refine x_sldZ (pc := 366) d197_366 (vin6 (c := 3) hi hL (by decide)) ?_
  refine y_cV2i (pc := 367) d197_367 ml10_47 mv96 shL3 h1 ⟨Nat.le_trans (Nat.le_of_ble_eq_true rfl) hR.1, Nat.le_trans (Nat.le_of_ble_eq_true rfl) hR.2⟩ (Nat.le_of_ble_eq_true rfl) hc (fun w s1 hq => ?_)
  obtain ⟨rfl, rfl⟩ := hq
  refine x_aload_n (pc := 370) d197_370 rfl ?_
  refine x_aload_n (pc := 371) d197_371 rfl ?_
  refine x_iload_n (pc := 372) d197_372 rfl ?_
  refine x_iconst (pc := 373) (v := (1)) d197_373 (by decide) ?_
  refine x_iadd (pc := 374) d197_374 ?_
  refine x_sldZ (pc := 375) d197_375 (vin6 (c := 1) hi hL (by decide)) ?_
  refine x_i2l (pc := 376) d197_376 ?_
  refine x_bipush (pc := 377) (v := (32)) d197_377 (by decide) ?_
  refine x_lshl (pc := 379) d197_379 ?_
  refine x_aload_n (pc := 380) d197_380 rfl ?_
  refine x_iload_n (pc := 381) d197_381 rfl ?_
  refine x_iconst (pc := 382) (v := (2)) d197_382 (by decide) ?_
  refine x_iadd (pc := 383) d197_383 ?_
  refine x_sldZ (pc := 384) d197_384 (vin6 (c := 2) hi hL (by decide)) ?_
  refine x_i2l (pc := 385) d197_385 ?_
  refine x_ldc2 (pc := 386) (v := (4294967295)) (gw_t (i := 1347) (by decide +kernel) (by decide +kernel)) d197_386 ?_
  refine x_land (pc := 389) d197_389 ?_
  refine x_lor (pc := 390) d197_390 ?_
  refine x_aload_n (pc := 391) d197_391 rfl ?_
  refine x_iload_n (pc := 392) d197_392 rfl ?_
  refine x_iconst (pc := 393) (v := (3)) d197_393 (by decide) ?_
  refine x_iadd (pc := 394) d197_394 ?_
  refine x_sldZ (pc := 395) d197_395 (vin6 (c := 3) hi hL (by decide)) ?_
  refine y_cV2i (pc := 396) d197_396 ml10_51 mv177 shL280 h2 ⟨Nat.le_trans (Nat.le_of_ble_eq_true rfl) hR.1, Nat.le_trans (Nat.le_of_ble_eq_true rfl) hR.2⟩ (Nat.le_of_ble_eq_true rfl) hc (fun w s1 hq => ?_)
  obtain ⟨rfl, rfl⟩ := hq
  exact x_icmp_eq (pc := 399) (tgt := 854) d197_399 (by decide) (fun _ => hend _ h3) (fun q => absurd rfl q)
set_option maxRecDepth 100000 in
theorem law_8 (h : IV K X) (hk : K + 2000 < 2 ^ 30) (hi : i + 6 ≤ L) (hL : L < 2 ^ 31) (hR : 100 ≤ R.frames ∧ 4500 ≤ R.locals) (hc : k ≤ R.cells ∧ n ≤ R.slots) (hend : ∀ X2, IV (K + 2000) X2 → Wp R 197 (Zs xs L Z) k n 854 (lvL i) [] (mk X2) TT) : Wp R 197 (Zs xs L Z) k n 404 (lvL i) [] (mk X) TT := by
  obtain ⟨v, X1, X2, h1, h2, h3⟩ := J_hurl (xs (nI i + 1).toNatClampNeg) (((xs (nI i + 2).toNatClampNeg).toInt64 <<< ((32 : Int32).toInt64 &&& 63)) ||| ((xs (nI i + 3).toNatClampNeg).toInt64 &&& (4294967295 : Int64))) h
  unfold lvL
  refine x_aload_n (pc := 404) d197_404 rfl ?_
  refine x_aload_n (pc := 405) d197_405 rfl ?_
  refine x_iload_n (pc := 406) d197_406 rfl ?_
  refine x_iconst (pc := 407) (v := (1)) d197_407 (by decide) ?_
  refine x_iadd (pc := 408) d197_408 ?_
  refine x_sldZ (pc := 409) d197_409 (vin6 (c := 1) hi hL (by decide)) ?_
  refine x_aload_n (pc := 410) d197_410 rfl ?_
  refine x_iload_n (pc := 411) d197_411 rfl ?_
  refine x_iconst (pc := 412) (v := (2)) d197_412 (by decide) ?_
  refine x_iadd (pc := 413) d197_413 ?_
  refine x_sldZ (pc := 414) d197_414 (vin6 (c := 2) hi hL (by decide)) ?_
  refine x_i2l (pc := 415) d197_415 ?_
  refine x_bipush (pc := 416) (v := (32)) d197_416 (by decide) ?_
  refine x_lshl (pc := 418) d197_418 ?_
  refine x_aload_n (pc := 419) d197_419 rfl ?_
  refine x_iload_n (pc := 420) d197_420 rfl ?_
  refine x_iconst (pc := 421) (v := (3)) d197_421 (by decide) ?_
  refine x_iadd (pc := 422) d197_422 ?_
  refine x_sldZ (pc := 423) d197_423 (vin6 (c := 3) hi hL (by decide)) ?_
  refine x_i2l (pc := 424) d197_424 ?_
  refine x_ldc2 (pc := 425) (v := (4294967295)) (gw_t (i := 1347) (by decide +kernel) (by decide +kernel)) d197_425 ?_
  refine x_land (pc := 428) d197_428 ?_
  refine x_lor (pc := 429) d197_429 ?_
  refine y_cV2i (pc := 430) d197_430 ml10_52 mv97 shL3 h1 ⟨Nat.le_trans (Nat.le_of_ble_eq_true rfl) hR.1, Nat.le_trans (Nat.le_of_ble_eq_true rfl) hR.2⟩ (Nat.le_of_ble_eq_true rfl) hc (fun w s1 hq => ?_)
  obtain ⟨rfl, rfl⟩ := hq
  refine x_aload_n (pc := 433) d197_433 rfl ?_
  refine x_aload_n (pc := 434) d197_434 rfl ?_
  refine x_iload_n (pc := 435) d197_435 rfl ?_
  refine x_iconst (pc := 436) (v := (1)) d197_436 (by decide) ?_
  refine x_iadd (pc := 437) d197_437 ?_
  refine x_sldZ (pc := 438) d197_438 (vin6 (c := 1) hi hL (by decide)) ?_
  refine x_aload_n (pc := 439) d197_439 rfl ?_
  refine x_iload_n (pc := 440) d197_440 rfl ?_
  refine x_iconst (pc := 441) (v := (2)) d197_441 (by decide) ?_
  refine x_iadd (pc := 442) d197_442 ?_
  refine x_sldZ (pc := 443) d197_443 (vin6 (c := 2) hi hL (by decide)) ?_
  refine x_i2l (pc := 444) d197_444 ?_
  refine x_bipush (pc := 445) (v := (32)) d197_445 (by decide) ?_
  refine x_lshl (pc := 447) d197_447 ?_
  refine x_aload_n (pc := 448) d197_448 rfl ?_
  refine x_iload_n (pc := 449) d197_449 rfl ?_
  refine x_iconst (pc := 450) (v := (3)) d197_450 (by decide) ?_
  refine x_iadd (pc := 451) d197_451 ?_
  refine x_sldZ (pc := 452) d197_452 (vin6 (c := 3) hi hL (by decide)) ?_
  refine x_i2l (pc := 453) d197_453 ?_
  refine x_ldc2 (pc := 454) (v := (4294967295)) (gw_t (i := 1347) (by decide +kernel) (by decide +kernel)) d197_454 ?_
  refine x_land (pc := 457) d197_457 ?_
  refine x_lor (pc := 458) d197_458 ?_
  refine y_cV2i (pc := 459) d197_459 ml10_56 mv178 shL280 h2 ⟨Nat.le_trans (Nat.le_of_ble_eq_true rfl) hR.1, Nat.le_trans (Nat.le_of_ble_eq_true rfl) hR.2⟩ (Nat.le_of_ble_eq_true rfl) hc (fun w s1 hq => ?_)
  obtain ⟨rfl, rfl⟩ := hq
  exact x_icmp_eq (pc := 462) (tgt := 854) d197_462 (by decide) (fun _ => hend _ h3) (fun q => absurd rfl q)
set_option maxRecDepth 100000 in
theorem law_9 (h : IV K X) (hk : K + 2000 < 2 ^ 30) (hi : i + 6 ≤ L) (hL : L < 2 ^ 31) (hR : 100 ≤ R.frames ∧ 4500 ≤ R.locals) (hc : k ≤ R.cells ∧ n ≤ R.slots) (hend : ∀ X2, IV (K + 2000) X2 → Wp R 197 (Zs xs L Z) k n 854 (lvL i) [] (mk X2) TT) : Wp R 197 (Zs xs L Z) k n 467 (lvL i) [] (mk X) TT := by
  obtain ⟨v, X1, X2, h1, h2, h3⟩ := J_fill (xs (nI i + 1).toNatClampNeg) (((xs (nI i + 2).toNatClampNeg).toInt64 <<< ((32 : Int32).toInt64 &&& 63)) ||| ((xs (nI i + 3).toNatClampNeg).toInt64 &&& (4294967295 : Int64))) h
  unfold lvL
  refine x_aload_n (pc := 467) d197_467 rfl ?_
  refine x_aload_n (pc := 468) d197_468 rfl ?_
  refine x_iload_n (pc := 469) d197_469 rfl ?_
  refine x_iconst (pc := 470) (v := (1)) d197_470 (by decide) ?_
  refine x_iadd (pc := 471) d197_471 ?_
  refine x_sldZ (pc := 472) d197_472 (vin6 (c := 1) hi hL (by decide)) ?_
  refine x_aload_n (pc := 473) d197_473 rfl ?_
  refine x_iload_n (pc := 474) d197_474 rfl ?_
  refine x_iconst (pc := 475) (v := (2)) d197_475 (by decide) ?_
  refine x_iadd (pc := 476) d197_476 ?_
  refine x_sldZ (pc := 477) d197_477 (vin6 (c := 2) hi hL (by decide)) ?_
  refine x_i2l (pc := 478) d197_478 ?_
  refine x_bipush (pc := 479) (v := (32)) d197_479 (by decide) ?_
  refine x_lshl (pc := 481) d197_481 ?_
  refine x_aload_n (pc := 482) d197_482 rfl ?_
  refine x_iload_n (pc := 483) d197_483 rfl ?_
  refine x_iconst (pc := 484) (v := (3)) d197_484 (by decide) ?_
  refine x_iadd (pc := 485) d197_485 ?_
  refine x_sldZ (pc := 486) d197_486 (vin6 (c := 3) hi hL (by decide)) ?_
  refine x_i2l (pc := 487) d197_487 ?_
  refine x_ldc2 (pc := 488) (v := (4294967295)) (gw_t (i := 1347) (by decide +kernel) (by decide +kernel)) d197_488 ?_
  refine x_land (pc := 491) d197_491 ?_
  refine x_lor (pc := 492) d197_492 ?_
  refine y_cV2i (pc := 493) d197_493 ml10_57 mv99 shL3 h1 ⟨Nat.le_trans (Nat.le_of_ble_eq_true rfl) hR.1, Nat.le_trans (Nat.le_of_ble_eq_true rfl) hR.2⟩ (Nat.le_of_ble_eq_true rfl) hc (fun w s1 hq => ?_)
  obtain ⟨rfl, rfl⟩ := hq
  refine x_aload_n (pc := 496) d197_496 rfl ?_
  refine x_aload_n (pc := 497) d197_497 rfl ?_
  refine x_iload_n (pc := 498) d197_498 rfl ?_
  refine x_iconst (pc := 499) (v := (1)) d197_499 (by decide) ?_
  refine x_iadd (pc := 500) d197_500 ?_
  refine x_sldZ (pc := 501) d197_501 (vin6 (c := 1) hi hL (by decide)) ?_
  refine x_aload_n (pc := 502) d197_502 rfl ?_
  refine x_iload_n (pc := 503) d197_503 rfl ?_
  refine x_iconst (pc := 504) (v := (2)) d197_504 (by decide) ?_
  refine x_iadd (pc := 505) d197_505 ?_
  refine x_sldZ (pc := 506) d197_506 (vin6 (c := 2) hi hL (by decide)) ?_
  refine x_i2l (pc := 507) d197_507 ?_
  refine x_bipush (pc := 508) (v := (32)) d197_508 (by decide) ?_
  refine x_lshl (pc := 510) d197_510 ?_
  refine x_aload_n (pc := 511) d197_511 rfl ?_
  refine x_iload_n (pc := 512) d197_512 rfl ?_
  refine x_iconst (pc := 513) (v := (3)) d197_513 (by decide) ?_
  refine x_iadd (pc := 514) d197_514 ?_
  refine x_sldZ (pc := 515) d197_515 (vin6 (c := 3) hi hL (by decide)) ?_
  refine x_i2l (pc := 516) d197_516 ?_
  refine x_ldc2 (pc := 517) (v := (4294967295)) (gw_t (i := 1347) (by decide +kernel) (by decide +kernel)) d197_517 ?_
  refine x_land (pc := 520) d197_520 ?_
  refine x_lor (pc := 521) d197_521 ?_
  refine y_cV2i (pc := 522) d197_522 ml10_60 mv179 shL280 h2 ⟨Nat.le_trans (Nat.le_of_ble_eq_true rfl) hR.1, Nat.le_trans (Nat.le_of_ble_eq_true rfl) hR.2⟩ (Nat.le_of_ble_eq_true rfl) hc (fun w s1 hq => ?_)
  obtain ⟨rfl, rfl⟩ := hq
  exact x_icmp_eq (pc := 525) (tgt := 854) d197_525 (by decide) (fun _ => hend _ h3) (fun q => absurd rfl q)
set_option maxRecDepth 100000 in
theorem law_10 (h : IV K X) (hk : K + 2000 < 2 ^ 30) (hi : i + 6 ≤ L) (hL : L < 2 ^ 31) (hR : 100 ≤ R.frames ∧ 4500 ≤ R.locals) (hc : k ≤ R.cells ∧ n ≤ R.slots) (hend : ∀ X2, IV (K + 2000) X2 → Wp R 197 (Zs xs L Z) k n 854 (lvL i) [] (mk X2) TT) : Wp R 197 (Zs xs L Z) k n 530 (lvL i) [] (mk X) TT := by
  obtain ⟨v, X1, X2, h1, h2, h3⟩ := J_full (xs (nI i + 1).toNatClampNeg) h
  unfold lvL
  refine x_aload_n (pc := 530) d197_530 rfl ?_
  refine x_aload_n (pc := 531) d197_531 rfl ?_
  refine x_iload_n (pc := 532) d197_532 rfl ?_
  refine x_iconst (pc := 533) (v := (1)) d197_533 (by decide) ?_
  refine x_iadd (pc := 534) d197_534 ?_
  refine x_sldZ (pc := 535) d197_535 (vin6 (c := 1) hi hL (by decide)) ?_
  refine y_cV1i (pc := 536) d197_536 ml10_61 mv101 shL3 h1 ⟨Nat.le_trans (Nat.le_of_ble_eq_true rfl) hR.1, Nat.le_trans (Nat.le_of_ble_eq_true rfl) hR.2⟩ (Nat.le_of_ble_eq_true rfl) hc (fun w s1 hq => ?_)
  obtain ⟨rfl, rfl⟩ := hq
  refine x_aload_n (pc := 539) d197_539 rfl ?_
  refine x_aload_n (pc := 540) d197_540 rfl ?_
  refine x_iload_n (pc := 541) d197_541 rfl ?_
  refine x_iconst (pc := 542) (v := (1)) d197_542 (by decide) ?_
  refine x_iadd (pc := 543) d197_543 ?_
  refine x_sldZ (pc := 544) d197_544 (vin6 (c := 1) hi hL (by decide)) ?_
  refine y_cV1i (pc := 545) d197_545 ml10_64 mv181 shL280 h2 ⟨Nat.le_trans (Nat.le_of_ble_eq_true rfl) hR.1, Nat.le_trans (Nat.le_of_ble_eq_true rfl) hR.2⟩ (Nat.le_of_ble_eq_true rfl) hc (fun w s1 hq => ?_)
  obtain ⟨rfl, rfl⟩ := hq
  exact x_icmp_eq (pc := 548) (tgt := 854) d197_548 (by decide) (fun _ => hend _ h3) (fun q => absurd rfl q)
set_option maxRecDepth 100000 in
theorem law_11 (h : IV K X) (hk : K + 2000 < 2 ^ 30) (hi : i + 6 ≤ L) (hL : L < 2 ^ 31) (hR : 100 ≤ R.frames ∧ 4500 ≤ R.locals) (hc : k ≤ R.cells ∧ n ≤ R.slots) (hend : ∀ X2, IV (K + 2000) X2 → Wp R 197 (Zs xs L Z) k n 854 (lvL i) [] (mk X2) TT) : Wp R 197 (Zs xs L Z) k n 553 (lvL i) [] (mk X) TT := by
  obtain ⟨v, X1, X2, h1, h2, h3⟩ := J_box (xs (nI i + 1).toNatClampNeg) h
  unfold lvL
  refine x_aload_n (pc := 553) d197_553 rfl ?_
  refine x_aload_n (pc := 554) d197_554 rfl ?_
  refine x_iload_n (pc := 555) d197_555 rfl ?_
  refine x_iconst (pc := 556) (v := (1)) d197_556 (by decide) ?_
  refine x_iadd (pc := 557) d197_557 ?_
  refine x_sldZ (pc := 558) d197_558 (vin6 (c := 1) hi hL (by decide)) ?_
  refine y_cV1j (pc := 559) d197_559 ml10_65 mv102 shL3 h1 ⟨Nat.le_trans (Nat.le_of_ble_eq_true rfl) hR.1, Nat.le_trans (Nat.le_of_ble_eq_true rfl) hR.2⟩ (Nat.le_of_ble_eq_true rfl) hc (fun w s1 hq => ?_)
  obtain ⟨rfl, rfl⟩ := hq
  refine x_aload_n (pc := 562) d197_562 rfl ?_
  refine x_aload_n (pc := 563) d197_563 rfl ?_
  refine x_iload_n (pc := 564) d197_564 rfl ?_
  refine x_iconst (pc := 565) (v := (1)) d197_565 (by decide) ?_
  refine x_iadd (pc := 566) d197_566 ?_
  refine x_sldZ (pc := 567) d197_567 (vin6 (c := 1) hi hL (by decide)) ?_
  refine y_cV1j (pc := 568) d197_568 ml10_69 mv182 shL280 h2 ⟨Nat.le_trans (Nat.le_of_ble_eq_true rfl) hR.1, Nat.le_trans (Nat.le_of_ble_eq_true rfl) hR.2⟩ (Nat.le_of_ble_eq_true rfl) hc (fun w s1 hq => ?_)
  obtain ⟨rfl, rfl⟩ := hq
  exact y_lif_eq (pc := 571) (tgt := 854) d197_571 d197_572 (by decide) (fun _ => hend _ h3) (fun q => absurd rfl q)
set_option maxRecDepth 100000 in
theorem law_12 (h : IV K X) (hk : K + 2000 < 2 ^ 30) (hi : i + 6 ≤ L) (hL : L < 2 ^ 31) (hR : 100 ≤ R.frames ∧ 4500 ≤ R.locals) (hc : k ≤ R.cells ∧ n ≤ R.slots) (hend : ∀ X2, IV (K + 2000) X2 → Wp R 197 (Zs xs L Z) k n 854 (lvL i) [] (mk X2) TT) : Wp R 197 (Zs xs L Z) k n 577 (lvL i) [] (mk X) TT := by
  obtain ⟨v, X1, X2, h1, h2, h3⟩ := J_thread (xs (nI i + 1).toNatClampNeg) (xs (nI i + 2).toNatClampNeg) h
  unfold lvL
  refine x_aload_n (pc := 577) d197_577 rfl ?_
  refine x_aload_n (pc := 578) d197_578 rfl ?_
  refine x_iload_n (pc := 579) d197_579 rfl ?_
  refine x_iconst (pc := 580) (v := (1)) d197_580 (by decide) ?_
  refine x_iadd (pc := 581) d197_581 ?_
  refine x_sldZ (pc := 582) d197_582 (vin6 (c := 1) hi hL (by decide)) ?_
  refine x_aload_n (pc := 583) d197_583 rfl ?_
  refine x_iload_n (pc := 584) d197_584 rfl ?_
  refine x_iconst (pc := 585) (v := (2)) d197_585 (by decide) ?_
  refine x_iadd (pc := 586) d197_586 ?_
  refine x_sldZ (pc := 587) d197_587 (vin6 (c := 2) hi hL (by decide)) ?_
  refine y_cV2i (pc := 588) d197_588 ml10_70 mv103 shL3 h1 ⟨Nat.le_trans (Nat.le_of_ble_eq_true rfl) hR.1, Nat.le_trans (Nat.le_of_ble_eq_true rfl) hR.2⟩ (Nat.le_of_ble_eq_true rfl) hc (fun w s1 hq => ?_)
  obtain ⟨rfl, rfl⟩ := hq
  refine x_aload_n (pc := 591) d197_591 rfl ?_
  refine x_aload_n (pc := 592) d197_592 rfl ?_
  refine x_iload_n (pc := 593) d197_593 rfl ?_
  refine x_iconst (pc := 594) (v := (1)) d197_594 (by decide) ?_
  refine x_iadd (pc := 595) d197_595 ?_
  refine x_sldZ (pc := 596) d197_596 (vin6 (c := 1) hi hL (by decide)) ?_
  refine x_aload_n (pc := 597) d197_597 rfl ?_
  refine x_iload_n (pc := 598) d197_598 rfl ?_
  refine x_iconst (pc := 599) (v := (2)) d197_599 (by decide) ?_
  refine x_iadd (pc := 600) d197_600 ?_
  refine x_sldZ (pc := 601) d197_601 (vin6 (c := 2) hi hL (by decide)) ?_
  refine y_cV2i (pc := 602) d197_602 ml10_73 mv183 shL280 h2 ⟨Nat.le_trans (Nat.le_of_ble_eq_true rfl) hR.1, Nat.le_trans (Nat.le_of_ble_eq_true rfl) hR.2⟩ (Nat.le_of_ble_eq_true rfl) hc (fun w s1 hq => ?_)
  obtain ⟨rfl, rfl⟩ := hq
  exact x_icmp_eq (pc := 605) (tgt := 854) d197_605 (by decide) (fun _ => hend _ h3) (fun q => absurd rfl q)
set_option maxRecDepth 100000 in
theorem law_13 (h : IV K X) (hk : K + 2000 < 2 ^ 30) (hi : i + 6 ≤ L) (hL : L < 2 ^ 31) (hR : 100 ≤ R.frames ∧ 4500 ≤ R.locals) (hc : k ≤ R.cells ∧ n ≤ R.slots) (hend : ∀ X2, IV (K + 2000) X2 → Wp R 197 (Zs xs L Z) k n 854 (lvL i) [] (mk X2) TT) : Wp R 197 (Zs xs L Z) k n 610 (lvL i) [] (mk X) TT := by
  obtain ⟨v, X1, X2, h1, h2, h3⟩ := J_died (xs (nI i + 1).toNatClampNeg) h
  unfold lvL
  refine x_aload_n (pc := 610) d197_610 rfl ?_
  refine x_aload_n (pc := 611) d197_611 rfl ?_
  refine x_iload_n (pc := 612) d197_612 rfl ?_
  refine x_iconst (pc := 613) (v := (1)) d197_613 (by decide) ?_
  refine x_iadd (pc := 614) d197_614 ?_
  refine x_sldZ (pc := 615) d197_615 (vin6 (c := 1) hi hL (by decide)) ?_
  refine y_cV1j (pc := 616) d197_616 ml10_74 mv105 shL3 h1 ⟨Nat.le_trans (Nat.le_of_ble_eq_true rfl) hR.1, Nat.le_trans (Nat.le_of_ble_eq_true rfl) hR.2⟩ (Nat.le_of_ble_eq_true rfl) hc (fun w s1 hq => ?_)
  obtain ⟨rfl, rfl⟩ := hq
  refine x_aload_n (pc := 619) d197_619 rfl ?_
  refine x_aload_n (pc := 620) d197_620 rfl ?_
  refine x_iload_n (pc := 621) d197_621 rfl ?_
  refine x_iconst (pc := 622) (v := (1)) d197_622 (by decide) ?_
  refine x_iadd (pc := 623) d197_623 ?_
  refine x_sldZ (pc := 624) d197_624 (vin6 (c := 1) hi hL (by decide)) ?_
  refine y_cV1j (pc := 625) d197_625 ml10_77 mv184 shL280 h2 ⟨Nat.le_trans (Nat.le_of_ble_eq_true rfl) hR.1, Nat.le_trans (Nat.le_of_ble_eq_true rfl) hR.2⟩ (Nat.le_of_ble_eq_true rfl) hc (fun w s1 hq => ?_)
  obtain ⟨rfl, rfl⟩ := hq
  exact y_lif_eq (pc := 628) (tgt := 854) d197_628 d197_629 (by decide) (fun _ => hend _ h3) (fun q => absurd rfl q)
set_option maxRecDepth 100000 in
theorem law_14 (h : IV K X) (hk : K + 2000 < 2 ^ 30) (hi : i + 6 ≤ L) (hL : L < 2 ^ 31) (hR : 100 ≤ R.frames ∧ 4500 ≤ R.locals) (hc : k ≤ R.cells ∧ n ≤ R.slots) (hend : ∀ X2, IV (K + 2000) X2 → Wp R 197 (Zs xs L Z) k n 854 (lvL i) [] (mk X2) TT) : Wp R 197 (Zs xs L Z) k n 634 (lvL i) [] (mk X) TT := by
  obtain ⟨v, X1, X2, h1, h2, h3⟩ := J_local (xs (nI i + 1).toNatClampNeg) (xs (nI i + 2).toNatClampNeg) h
  unfold lvL
  refine x_aload_n (pc := 634) d197_634 rfl ?_
  refine x_aload_n (pc := 635) d197_635 rfl ?_
  refine x_iload_n (pc := 636) d197_636 rfl ?_
  refine x_iconst (pc := 637) (v := (1)) d197_637 (by decide) ?_
  refine x_iadd (pc := 638) d197_638 ?_
  refine x_sldZ (pc := 639) d197_639 (vin6 (c := 1) hi hL (by decide)) ?_
  refine x_aload_n (pc := 640) d197_640 rfl ?_
  refine x_iload_n (pc := 641) d197_641 rfl ?_
  refine x_iconst (pc := 642) (v := (2)) d197_642 (by decide) ?_
  refine x_iadd (pc := 643) d197_643 ?_
  refine x_sldZ (pc := 644) d197_644 (vin6 (c := 2) hi hL (by decide)) ?_
  refine y_cV2j (pc := 645) d197_645 ml10_78 mv106 shL3 h1 ⟨Nat.le_trans (Nat.le_of_ble_eq_true rfl) hR.1, Nat.le_trans (Nat.le_of_ble_eq_true rfl) hR.2⟩ (Nat.le_of_ble_eq_true rfl) hc (fun w s1 hq => ?_)
  obtain ⟨rfl, rfl⟩ := hq
  refine x_aload_n (pc := 648) d197_648 rfl ?_
  refine x_aload_n (pc := 649) d197_649 rfl ?_
  refine x_iload_n (pc := 650) d197_650 rfl ?_
  refine x_iconst (pc := 651) (v := (1)) d197_651 (by decide) ?_
  refine x_iadd (pc := 652) d197_652 ?_
  refine x_sldZ (pc := 653) d197_653 (vin6 (c := 1) hi hL (by decide)) ?_
  refine x_aload_n (pc := 654) d197_654 rfl ?_
  refine x_iload_n (pc := 655) d197_655 rfl ?_
  refine x_iconst (pc := 656) (v := (2)) d197_656 (by decide) ?_
  refine x_iadd (pc := 657) d197_657 ?_
  refine x_sldZ (pc := 658) d197_658 (vin6 (c := 2) hi hL (by decide)) ?_
  refine y_cV2j (pc := 659) d197_659 ml10_82 mv185 shL280 h2 ⟨Nat.le_trans (Nat.le_of_ble_eq_true rfl) hR.1, Nat.le_trans (Nat.le_of_ble_eq_true rfl) hR.2⟩ (Nat.le_of_ble_eq_true rfl) hc (fun w s1 hq => ?_)
  obtain ⟨rfl, rfl⟩ := hq
  exact y_lif_eq (pc := 662) (tgt := 854) d197_662 d197_663 (by decide) (fun _ => hend _ h3) (fun q => absurd rfl q)
set_option maxRecDepth 100000 in
theorem law_15 (h : IV K X) (hk : K + 2000 < 2 ^ 30) (hi : i + 6 ≤ L) (hL : L < 2 ^ 31) (hR : 100 ≤ R.frames ∧ 4500 ≤ R.locals) (hc : k ≤ R.cells ∧ n ≤ R.slots) (hend : ∀ X2, IV (K + 2000) X2 → Wp R 197 (Zs xs L Z) k n 854 (lvL i) [] (mk X2) TT) : Wp R 197 (Zs xs L Z) k n 668 (lvL i) [] (mk X) TT := by
  obtain ⟨v, X1, X2, h1, h2, h3⟩ := J_row (xs (nI i + 1).toNatClampNeg) (xs (nI i + 2).toNatClampNeg) (xs (nI i + 3).toNatClampNeg) h
  unfold lvL
  refine x_aload_n (pc := 668) d197_668 rfl ?_
  refine x_aload_n (pc := 669) d197_669 rfl ?_
  refine x_iload_n (pc := 670) d197_670 rfl ?_
  refine x_iconst (pc := 671) (v := (1)) d197_671 (by decide) ?_
  refine x_iadd (pc := 672) d197_672 ?_
  refine x_sldZ (pc := 673) d197_673 (vin6 (c := 1) hi hL (by decide)) ?_
  refine x_aload_n (pc := 674) d197_674 rfl ?_
  refine x_iload_n (pc := 675) d197_675 rfl ?_
  refine x_iconst (pc := 676) (v := (2)) d197_676 (by decide) ?_
  refine x_iadd (pc := 677) d197_677 ?_
  refine x_sldZ (pc := 678) d197_678 (vin6 (c := 2) hi hL (by decide)) ?_
  refine x_aload_n (pc := 679) d197_679 rfl ?_
  refine x_iload_n (pc := 680) d197_680 rfl ?_
  refine x_iconst (pc := 681) (v := (3)) d197_681 (by decide) ?_
  refine x_iadd (pc := 682) d197_682 ?_
  refine x_sldZ (pc := 683) d197_683 (vin6 (c := 3) hi hL (by decide)) ?_
  refine y_cV3i (pc := 684) d197_684 ml10_83 mv107 shL3 h1 ⟨Nat.le_trans (Nat.le_of_ble_eq_true rfl) hR.1, Nat.le_trans (Nat.le_of_ble_eq_true rfl) hR.2⟩ (Nat.le_of_ble_eq_true rfl) hc (fun w s1 hq => ?_)
  obtain ⟨rfl, rfl⟩ := hq
  refine x_aload_n (pc := 687) d197_687 rfl ?_
  refine x_aload_n (pc := 688) d197_688 rfl ?_
  refine x_iload_n (pc := 689) d197_689 rfl ?_
  refine x_iconst (pc := 690) (v := (1)) d197_690 (by decide) ?_
  refine x_iadd (pc := 691) d197_691 ?_
  refine x_sldZ (pc := 692) d197_692 (vin6 (c := 1) hi hL (by decide)) ?_
  refine x_aload_n (pc := 693) d197_693 rfl ?_
  refine x_iload_n (pc := 694) d197_694 rfl ?_
  refine x_iconst (pc := 695) (v := (2)) d197_695 (by decide) ?_
  refine x_iadd (pc := 696) d197_696 ?_
  refine x_sldZ (pc := 697) d197_697 (vin6 (c := 2) hi hL (by decide)) ?_
  refine x_aload_n (pc := 698) d197_698 rfl ?_
  refine x_iload_n (pc := 699) d197_699 rfl ?_
  refine x_iconst (pc := 700) (v := (3)) d197_700 (by decide) ?_
  refine x_iadd (pc := 701) d197_701 ?_
  refine x_sldZ (pc := 702) d197_702 (vin6 (c := 3) hi hL (by decide)) ?_
  refine y_cV3i (pc := 703) d197_703 ml10_87 mv186 shL280 h2 ⟨Nat.le_trans (Nat.le_of_ble_eq_true rfl) hR.1, Nat.le_trans (Nat.le_of_ble_eq_true rfl) hR.2⟩ (Nat.le_of_ble_eq_true rfl) hc (fun w s1 hq => ?_)
  obtain ⟨rfl, rfl⟩ := hq
  exact x_icmp_eq (pc := 706) (tgt := 854) d197_706 (by decide) (fun _ => hend _ h3) (fun q => absurd rfl q)
set_option maxRecDepth 100000 in
theorem law_16 (h : IV K X) (hk : K + 2000 < 2 ^ 30) (hi : i + 6 ≤ L) (hL : L < 2 ^ 31) (hR : 100 ≤ R.frames ∧ 4500 ≤ R.locals) (hc : k ≤ R.cells ∧ n ≤ R.slots) (hend : ∀ X2, IV (K + 2000) X2 → Wp R 197 (Zs xs L Z) k n 854 (lvL i) [] (mk X2) TT) : Wp R 197 (Zs xs L Z) k n 711 (lvL i) [] (mk X) TT := by
  obtain ⟨v, X1, X2, h1, h2, h3⟩ := J_value (xs (nI i + 1).toNatClampNeg) (xs (nI i + 2).toNatClampNeg) h
  unfold lvL
  refine x_aload_n (pc := 711) d197_711 rfl ?_
  refine x_aload_n (pc := 712) d197_712 rfl ?_
  refine x_iload_n (pc := 713) d197_713 rfl ?_
  refine x_iconst (pc := 714) (v := (1)) d197_714 (by decide) ?_
  refine x_iadd (pc := 715) d197_715 ?_
  refine x_sldZ (pc := 716) d197_716 (vin6 (c := 1) hi hL (by decide)) ?_
  refine x_aload_n (pc := 717) d197_717 rfl ?_
  refine x_iload_n (pc := 718) d197_718 rfl ?_
  refine x_iconst (pc := 719) (v := (2)) d197_719 (by decide) ?_
  refine x_iadd (pc := 720) d197_720 ?_
  refine x_sldZ (pc := 721) d197_721 (vin6 (c := 2) hi hL (by decide)) ?_
  refine y_cV2j (pc := 722) d197_722 ml10_88 mv109 shL3 h1 ⟨Nat.le_trans (Nat.le_of_ble_eq_true rfl) hR.1, Nat.le_trans (Nat.le_of_ble_eq_true rfl) hR.2⟩ (Nat.le_of_ble_eq_true rfl) hc (fun w s1 hq => ?_)
  obtain ⟨rfl, rfl⟩ := hq
  refine x_aload_n (pc := 725) d197_725 rfl ?_
  refine x_aload_n (pc := 726) d197_726 rfl ?_
  refine x_iload_n (pc := 727) d197_727 rfl ?_
  refine x_iconst (pc := 728) (v := (1)) d197_728 (by decide) ?_
  refine x_iadd (pc := 729) d197_729 ?_
  refine x_sldZ (pc := 730) d197_730 (vin6 (c := 1) hi hL (by decide)) ?_
  refine x_aload_n (pc := 731) d197_731 rfl ?_
  refine x_iload_n (pc := 732) d197_732 rfl ?_
  refine x_iconst (pc := 733) (v := (2)) d197_733 (by decide) ?_
  refine x_iadd (pc := 734) d197_734 ?_
  refine x_sldZ (pc := 735) d197_735 (vin6 (c := 2) hi hL (by decide)) ?_
  refine y_cV2j (pc := 736) d197_736 ml10_91 mv188 shL280 h2 ⟨Nat.le_trans (Nat.le_of_ble_eq_true rfl) hR.1, Nat.le_trans (Nat.le_of_ble_eq_true rfl) hR.2⟩ (Nat.le_of_ble_eq_true rfl) hc (fun w s1 hq => ?_)
  obtain ⟨rfl, rfl⟩ := hq
  exact y_lif_eq (pc := 739) (tgt := 854) d197_739 d197_740 (by decide) (fun _ => hend _ h3) (fun q => absurd rfl q)
set_option maxRecDepth 100000 in
theorem law_17 (h : IV K X) (hk : K + 2000 < 2 ^ 30) (hi : i + 6 ≤ L) (hL : L < 2 ^ 31) (hR : 100 ≤ R.frames ∧ 4500 ≤ R.locals) (hc : k ≤ R.cells ∧ n ≤ R.slots) (hend : ∀ X2, IV (K + 2000) X2 → Wp R 197 (Zs xs L Z) k n 854 (lvL i) [] (mk X2) TT) : Wp R 197 (Zs xs L Z) k n 745 (lvL i) [] (mk X) TT := by
  obtain ⟨v, X1, X2, h1, h2, h3⟩ := J_stuck  h
  unfold lvL
  refine x_aload_n (pc := 745) d197_745 rfl ?_
  refine y_cV0i (pc := 746) d197_746 ml10_92 mv110 shL3 h1 ⟨Nat.le_trans (Nat.le_of_ble_eq_true rfl) hR.1, Nat.le_trans (Nat.le_of_ble_eq_true rfl) hR.2⟩ (Nat.le_of_ble_eq_true rfl) hc (fun w s1 hq => ?_)
  obtain ⟨rfl, rfl⟩ := hq
  refine x_aload_n (pc := 749) d197_749 rfl ?_
  refine y_cV0i (pc := 750) d197_750 ml10_95 mv189 shL280 h2 ⟨Nat.le_trans (Nat.le_of_ble_eq_true rfl) hR.1, Nat.le_trans (Nat.le_of_ble_eq_true rfl) hR.2⟩ (Nat.le_of_ble_eq_true rfl) hc (fun w s1 hq => ?_)
  obtain ⟨rfl, rfl⟩ := hq
  exact x_icmp_eq (pc := 753) (tgt := 854) d197_753 (by decide) (fun _ => hend _ h3) (fun q => absurd rfl q)
set_option maxRecDepth 100000 in
theorem law_18 (h : IV K X) (hk : K + 2000 < 2 ^ 30) (hi : i + 6 ≤ L) (hL : L < 2 ^ 31) (hR : 100 ≤ R.frames ∧ 4500 ≤ R.locals) (hc : k ≤ R.cells ∧ n ≤ R.slots) (hend : ∀ X2, IV (K + 2000) X2 → Wp R 197 (Zs xs L Z) k n 854 (lvL i) [] (mk X2) TT) : Wp R 197 (Zs xs L Z) k n 758 (lvL i) [] (mk X) TT := by
  obtain ⟨v, X1, X2, h1, h2, h3⟩ := J_clock  h
  unfold lvL
  refine x_aload_n (pc := 758) d197_758 rfl ?_
  refine y_cV0i (pc := 759) d197_759 ml10_96 mv116 shL3 h1 ⟨Nat.le_trans (Nat.le_of_ble_eq_true rfl) hR.1, Nat.le_trans (Nat.le_of_ble_eq_true rfl) hR.2⟩ (Nat.le_of_ble_eq_true rfl) hc (fun w s1 hq => ?_)
  obtain ⟨rfl, rfl⟩ := hq
  refine x_aload_n (pc := 762) d197_762 rfl ?_
  refine y_cV0i (pc := 763) d197_763 ml10_99 mv192 shL280 h2 ⟨Nat.le_trans (Nat.le_of_ble_eq_true rfl) hR.1, Nat.le_trans (Nat.le_of_ble_eq_true rfl) hR.2⟩ (Nat.le_of_ble_eq_true rfl) hc (fun w s1 hq => ?_)
  obtain ⟨rfl, rfl⟩ := hq
  exact x_icmp_eq (pc := 766) (tgt := 854) d197_766 (by decide) (fun _ => hend _ h3) (fun q => absurd rfl q)
set_option maxRecDepth 100000 in
theorem law_19 (h : IV K X) (hk : K + 2000 < 2 ^ 30) (hi : i + 6 ≤ L) (hL : L < 2 ^ 31) (hR : 100 ≤ R.frames ∧ 4500 ≤ R.locals) (hc : k ≤ R.cells ∧ n ≤ R.slots) (hend : ∀ X2, IV (K + 2000) X2 → Wp R 197 (Zs xs L Z) k n 854 (lvL i) [] (mk X2) TT) : Wp R 197 (Zs xs L Z) k n 771 (lvL i) [] (mk X) TT := by
  obtain ⟨v, X1, X2, h1, h2, h3⟩ := J_notes  h
  unfold lvL
  refine x_aload_n (pc := 771) d197_771 rfl ?_
  refine y_cV0i (pc := 772) d197_772 ml10_100 mv117 shL3 h1 ⟨Nat.le_trans (Nat.le_of_ble_eq_true rfl) hR.1, Nat.le_trans (Nat.le_of_ble_eq_true rfl) hR.2⟩ (Nat.le_of_ble_eq_true rfl) hc (fun w s1 hq => ?_)
  obtain ⟨rfl, rfl⟩ := hq
  refine x_aload_n (pc := 775) d197_775 rfl ?_
  refine y_cV0i (pc := 776) d197_776 ml10_103 mv193 shL280 h2 ⟨Nat.le_trans (Nat.le_of_ble_eq_true rfl) hR.1, Nat.le_trans (Nat.le_of_ble_eq_true rfl) hR.2⟩ (Nat.le_of_ble_eq_true rfl) hc (fun w s1 hq => ?_)
  obtain ⟨rfl, rfl⟩ := hq
  exact x_icmp_eq (pc := 779) (tgt := 854) d197_779 (by decide) (fun _ => hend _ h3) (fun q => absurd rfl q)
set_option maxRecDepth 100000 in
theorem law_20 (h : IV K X) (hk : K + 2000 < 2 ^ 30) (hi : i + 6 ≤ L) (hL : L < 2 ^ 31) (hR : 100 ≤ R.frames ∧ 4500 ≤ R.locals) (hc : k ≤ R.cells ∧ n ≤ R.slots) (hend : ∀ X2, IV (K + 2000) X2 → Wp R 197 (Zs xs L Z) k n 854 (lvL i) [] (mk X2) TT) : Wp R 197 (Zs xs L Z) k n 784 (lvL i) [] (mk X) TT := by
  obtain ⟨v, X1, X2, h1, h2, h3⟩ := J_note (xs (nI i + 1).toNatClampNeg) (xs (nI i + 2).toNatClampNeg) h
  unfold lvL
  refine x_aload_n (pc := 784) d197_784 rfl ?_
  refine x_aload_n (pc := 785) d197_785 rfl ?_
  refine x_iload_n (pc := 786) d197_786 rfl ?_
  refine x_iconst (pc := 787) (v := (1)) d197_787 (by decide) ?_
  refine x_iadd (pc := 788) d197_788 ?_
  refine x_sldZ (pc := 789) d197_789 (vin6 (c := 1) hi hL (by decide)) ?_
  refine x_aload_n (pc := 790) d197_790 rfl ?_
  refine x_iload_n (pc := 791) d197_791 rfl ?_
  refine x_iconst (pc := 792) (v := (2)) d197_792 (by decide) ?_
  refine x_iadd (pc := 793) d197_793 ?_
  refine x_sldZ (pc := 794) d197_794 (vin6 (c := 2) hi hL (by decide)) ?_
  refine y_cV2i (pc := 795) d197_795 ml10_104 mv118 shL3 h1 ⟨Nat.le_trans (Nat.le_of_ble_eq_true rfl) hR.1, Nat.le_trans (Nat.le_of_ble_eq_true rfl) hR.2⟩ (Nat.le_of_ble_eq_true rfl) hc (fun w s1 hq => ?_)
  obtain ⟨rfl, rfl⟩ := hq
  refine x_aload_n (pc := 798) d197_798 rfl ?_
  refine x_aload_n (pc := 799) d197_799 rfl ?_
  refine x_iload_n (pc := 800) d197_800 rfl ?_
  refine x_iconst (pc := 801) (v := (1)) d197_801 (by decide) ?_
  refine x_iadd (pc := 802) d197_802 ?_
  refine x_sldZ (pc := 803) d197_803 (vin6 (c := 1) hi hL (by decide)) ?_
  refine x_aload_n (pc := 804) d197_804 rfl ?_
  refine x_iload_n (pc := 805) d197_805 rfl ?_
  refine x_iconst (pc := 806) (v := (2)) d197_806 (by decide) ?_
  refine x_iadd (pc := 807) d197_807 ?_
  refine x_sldZ (pc := 808) d197_808 (vin6 (c := 2) hi hL (by decide)) ?_
  refine y_cV2i (pc := 809) d197_809 ml10_107 mv194 shL280 h2 ⟨Nat.le_trans (Nat.le_of_ble_eq_true rfl) hR.1, Nat.le_trans (Nat.le_of_ble_eq_true rfl) hR.2⟩ (Nat.le_of_ble_eq_true rfl) hc (fun w s1 hq => ?_)
  obtain ⟨rfl, rfl⟩ := hq
  exact x_icmp_eq (pc := 812) (tgt := 854) d197_812 (by decide) (fun _ => hend _ h3) (fun q => absurd rfl q)
set_option maxRecDepth 100000 in
theorem law_21 (h : IV K X) (hk : K + 2000 < 2 ^ 30) (hi : i + 6 ≤ L) (hL : L < 2 ^ 31) (hR : 100 ≤ R.frames ∧ 4500 ≤ R.locals) (hc : k ≤ R.cells ∧ n ≤ R.slots) (hend : ∀ X2, IV (K + 2000) X2 → Wp R 197 (Zs xs L Z) k n 854 (lvL i) [] (mk X2) TT) : Wp R 197 (Zs xs L Z) k n 817 (lvL i) [] (mk X) TT := by
  obtain ⟨v, X1, X2, h1, h2, h3⟩ := J_noted (xs (nI i + 1).toNatClampNeg) h
  unfold lvL
  refine x_aload_n (pc := 817) d197_817 rfl ?_
  refine x_aload_n (pc := 818) d197_818 rfl ?_
  refine x_iload_n (pc := 819) d197_819 rfl ?_
  refine x_iconst (pc := 820) (v := (1)) d197_820 (by decide) ?_
  refine x_iadd (pc := 821) d197_821 ?_
  refine x_sldZ (pc := 822) d197_822 (vin6 (c := 1) hi hL (by decide)) ?_
  refine y_cV1j (pc := 823) d197_823 ml10_108 mv120 shL3 h1 ⟨Nat.le_trans (Nat.le_of_ble_eq_true rfl) hR.1, Nat.le_trans (Nat.le_of_ble_eq_true rfl) hR.2⟩ (Nat.le_of_ble_eq_true rfl) hc (fun w s1 hq => ?_)
  obtain ⟨rfl, rfl⟩ := hq
  refine x_aload_n (pc := 826) d197_826 rfl ?_
  refine x_aload_n (pc := 827) d197_827 rfl ?_
  refine x_iload_n (pc := 828) d197_828 rfl ?_
  refine x_iconst (pc := 829) (v := (1)) d197_829 (by decide) ?_
  refine x_iadd (pc := 830) d197_830 ?_
  refine x_sldZ (pc := 831) d197_831 (vin6 (c := 1) hi hL (by decide)) ?_
  refine y_cV1j (pc := 832) d197_832 ml10_111 mv195 shL280 h2 ⟨Nat.le_trans (Nat.le_of_ble_eq_true rfl) hR.1, Nat.le_trans (Nat.le_of_ble_eq_true rfl) hR.2⟩ (Nat.le_of_ble_eq_true rfl) hc (fun w s1 hq => ?_)
  obtain ⟨rfl, rfl⟩ := hq
  exact y_lif_eq (pc := 835) (tgt := 854) d197_835 d197_836 (by decide) (fun _ => hend _ h3) (fun q => absurd rfl q)
set_option maxRecDepth 100000 in
theorem law_22 (h : IV K X) (hk : K + 2000 < 2 ^ 30) (hi : i + 6 ≤ L) (hL : L < 2 ^ 31) (hR : 100 ≤ R.frames ∧ 4500 ≤ R.locals) (hc : k ≤ R.cells ∧ n ≤ R.slots) (hend : ∀ X2, IV (K + 2000) X2 → Wp R 197 (Zs xs L Z) k n 854 (lvL i) [] (mk X2) TT) : Wp R 197 (Zs xs L Z) k n 841 (lvL i) [] (mk X) TT := by
  obtain ⟨v, X1, X2, h1, h2, h3⟩ := J_clear  h
  unfold lvL
  refine x_aload_n (pc := 841) d197_841 rfl ?_
  refine y_cV0i (pc := 842) d197_842 ml10_112 mv121 shL3 h1 ⟨Nat.le_trans (Nat.le_of_ble_eq_true rfl) hR.1, Nat.le_trans (Nat.le_of_ble_eq_true rfl) hR.2⟩ (Nat.le_of_ble_eq_true rfl) hc (fun w s1 hq => ?_)
  obtain ⟨rfl, rfl⟩ := hq
  refine x_aload_n (pc := 845) d197_845 rfl ?_
  refine y_cV0i (pc := 846) d197_846 ml10_115 mv196 shL280 h2 ⟨Nat.le_trans (Nat.le_of_ble_eq_true rfl) hR.1, Nat.le_trans (Nat.le_of_ble_eq_true rfl) hR.2⟩ (Nat.le_of_ble_eq_true rfl) hc (fun w s1 hq => ?_)
  obtain ⟨rfl, rfl⟩ := hq
  exact x_icmp_eq (pc := 849) (tgt := 854) d197_849 (by decide) (fun _ => hend _ h3) (fun q => absurd rfl q)
end CS
theorem law_cmp {i L : Nat} (h : L < i + 6) (h2 : i < 2 ^ 31 - 6) : Int32.ofNat L - 6 < nI i := by
  show nI L - 6 < nI i
  rw [Int32.lt_iff_toInt_lt, Int32.toInt_sub, nI_toInt (by omega), nI_toInt (by omega), show (6 : Int32).toInt = 6 by decide, Int.bmod_eq_of_le (by omega) (by omega)]
  omega
theorem law_cmp' {i L : Nat} (h : i + 6 ≤ L) (hL : L < 2 ^ 31) : ¬ Int32.ofNat L - 6 < nI i := by
  show ¬ nI L - 6 < nI i
  rw [Int32.lt_iff_toInt_lt, Int32.toInt_sub, nI_toInt (by omega), nI_toInt (by omega), show (6 : Int32).toInt = 6 by decide, Int.bmod_eq_of_le (by omega) (by omega)]
  omega
theorem law_big {q : Nat} (h : 23 ≤ q) (h2 : q < 32) : (22 : Int) < (nI q).toInt := by
  rw [nI_toInt (by omega)]; omega
section LP
variable {R : Room} {Z : Zt} {k n L : Nat} {xs : Nat → Int32}
set_option maxRecDepth 100000 in
theorem law_loop (hL0 : L < 2 ^ 30) (hR : 100 ≤ R.frames ∧ 4500 ≤ R.locals) (hc : k ≤ R.cells ∧ n ≤ R.slots) (hout : ∀ i X, Wp R 197 (Zs xs L Z) k n 860 (lvL i) [] (mk X) TT) :
    ∀ (m i K : Nat) (X : St), L < i + 6 * m → i < 2 ^ 31 - 6 → IV K X → K + 2000 * m < 2 ^ 30 → Wp R 197 (Zs xs L Z) k n 18 (lvL i) [] (mk X) TT := by
  have hL : L < 2 ^ 31 := by omega
  intro m
  induction m with
  | zero =>
    intro i K X h1 h2 h3 h4
    unfold lvL
    refine x_iload_n (pc := 18) d197_18 rfl ?_
    refine x_aload_n (pc := 19) d197_19 rfl ?_
    refine x_slenZ (pc := 20) d197_20 ?_
    refine x_bipush (pc := 21) (v := (6)) d197_21 (by decide) ?_
    refine x_isub (pc := 23) d197_23 ?_
    refine x_icmp_gt (pc := 24) (tgt := 860) d197_24 (by decide) (fun _ => hout i X) (fun q => absurd ?_ q)
    exact law_cmp (by omega) h2
  | succ m ih =>
    intro i K X h1 h2 h3 h4
    have hend : ∀ X2, IV (K + 2000) X2 → i + 6 ≤ L → Wp R 197 (Zs xs L Z) k n 854 (lvL i) [] (mk X2) TT := fun X2 h hi => by
      unfold lvL
      refine y_inc (pc := 854) (c := (6)) d197_854 (by decide) (by decide) rfl ?_
      refine x_goto (pc := 857) (tgt := 18) d197_857 (by decide) ?_
      show Wp R 197 (Zs xs L Z) k n 18 [(3, .int (nI i + nI 6)), (2, .ref 280), (1, .ref 3), (0, .ref 0)] [] (mk X2) TT
      rw [nI_ad]
      exact ih (i + 6) (K + 2000) X2 (by omega) (by omega) h (by omega)
    by_cases hi : i + 6 ≤ L
    · unfold lvL
      refine x_iload_n (pc := 18) d197_18 rfl ?_
      refine x_aload_n (pc := 19) d197_19 rfl ?_
      refine x_slenZ (pc := 20) d197_20 ?_
      refine x_bipush (pc := 21) (v := (6)) d197_21 (by decide) ?_
      refine x_isub (pc := 23) d197_23 ?_
      refine x_icmp_gt (pc := 24) (tgt := 860) d197_24 (by decide) (fun q => absurd q (law_cmp' hi hL)) (fun _ => ?_)
      refine x_aload_n (pc := 27) d197_27 rfl ?_
      refine x_iload_n (pc := 28) d197_28 rfl ?_
      refine x_sldZ (pc := 29) d197_29 (by have := vin6 (c := 0) hi hL (by decide); rw [nI_ad] at this; exact this) ?_
      refine x_bipush (pc := 30) (v := (31)) d197_30 (by decide) ?_
      refine x_iand (pc := 32) d197_32 ?_
      obtain ⟨q, q1, q2⟩ := and31 (xs (nI i).toNatClampNeg)
      rw [q2]
      have hk : K + 2000 < 2 ^ 30 := by omega
      have he : ∀ X2, IV (K + 2000) X2 → Wp R 197 (Zs xs L Z) k n 854 (lvL i) [] (mk X2) TT := fun X2 h => hend X2 h hi
      by_cases q3 : q < 23
      · rcases (by omega : q = 0 ∨ q = 1 ∨ q = 2 ∨ q = 3 ∨ q = 4 ∨ q = 5 ∨ q = 6 ∨ q = 7 ∨ q = 8 ∨ q = 9 ∨ q = 10 ∨ q = 11 ∨ q = 12 ∨ q = 13 ∨ q = 14 ∨ q = 15 ∨ q = 16 ∨ q = 17 ∨ q = 18 ∨ q = 19 ∨ q = 20 ∨ q = 21 ∨ q = 22) with rfl | rfl | rfl | rfl | rfl | rfl | rfl | rfl | rfl | rfl | rfl | rfl | rfl | rfl | rfl | rfl | rfl | rfl | rfl | rfl | rfl | rfl | rfl
        · exact x_tableIn (pc := 33) (tgt := 140) d197_33 (by decide) (by decide) rfl (by decide) (law_0 h3 hk hi hL hR hc he)
        · exact x_tableIn (pc := 33) (tgt := 203) d197_33 (by decide) (by decide) rfl (by decide) (law_1 h3 hk hi hL hR hc he)
        · exact x_tableIn (pc := 33) (tgt := 226) d197_33 (by decide) (by decide) rfl (by decide) (law_2 h3 hk hi hL hR hc he)
        · exact x_tableIn (pc := 33) (tgt := 239) d197_33 (by decide) (by decide) rfl (by decide) (law_3 h3 hk hi hL hR hc he)
        · exact x_tableIn (pc := 33) (tgt := 252) d197_33 (by decide) (by decide) rfl (by decide) (law_4 h3 hk hi hL hR hc he)
        · exact x_tableIn (pc := 33) (tgt := 285) d197_33 (by decide) (by decide) rfl (by decide) (law_5 h3 hk hi hL hR hc he)
        · exact x_tableIn (pc := 33) (tgt := 318) d197_33 (by decide) (by decide) rfl (by decide) (law_6 h3 hk hi hL hR hc he)
        · exact x_tableIn (pc := 33) (tgt := 341) d197_33 (by decide) (by decide) rfl (by decide) (law_7 h3 hk hi hL hR hc he)
        · exact x_tableIn (pc := 33) (tgt := 404) d197_33 (by decide) (by decide) rfl (by decide) (law_8 h3 hk hi hL hR hc he)
        · exact x_tableIn (pc := 33) (tgt := 467) d197_33 (by decide) (by decide) rfl (by decide) (law_9 h3 hk hi hL hR hc he)
        · exact x_tableIn (pc := 33) (tgt := 530) d197_33 (by decide) (by decide) rfl (by decide) (law_10 h3 hk hi hL hR hc he)
        · exact x_tableIn (pc := 33) (tgt := 553) d197_33 (by decide) (by decide) rfl (by decide) (law_11 h3 hk hi hL hR hc he)
        · exact x_tableIn (pc := 33) (tgt := 577) d197_33 (by decide) (by decide) rfl (by decide) (law_12 h3 hk hi hL hR hc he)
        · exact x_tableIn (pc := 33) (tgt := 610) d197_33 (by decide) (by decide) rfl (by decide) (law_13 h3 hk hi hL hR hc he)
        · exact x_tableIn (pc := 33) (tgt := 634) d197_33 (by decide) (by decide) rfl (by decide) (law_14 h3 hk hi hL hR hc he)
        · exact x_tableIn (pc := 33) (tgt := 668) d197_33 (by decide) (by decide) rfl (by decide) (law_15 h3 hk hi hL hR hc he)
        · exact x_tableIn (pc := 33) (tgt := 711) d197_33 (by decide) (by decide) rfl (by decide) (law_16 h3 hk hi hL hR hc he)
        · exact x_tableIn (pc := 33) (tgt := 745) d197_33 (by decide) (by decide) rfl (by decide) (law_17 h3 hk hi hL hR hc he)
        · exact x_tableIn (pc := 33) (tgt := 758) d197_33 (by decide) (by decide) rfl (by decide) (law_18 h3 hk hi hL hR hc he)
        · exact x_tableIn (pc := 33) (tgt := 771) d197_33 (by decide) (by decide) rfl (by decide) (law_19 h3 hk hi hL hR hc he)
        · exact x_tableIn (pc := 33) (tgt := 784) d197_33 (by decide) (by decide) rfl (by decide) (law_20 h3 hk hi hL hR hc he)
        · exact x_tableIn (pc := 33) (tgt := 817) d197_33 (by decide) (by decide) rfl (by decide) (law_21 h3 hk hi hL hR hc he)
        · exact x_tableIn (pc := 33) (tgt := 841) d197_33 (by decide) (by decide) rfl (by decide) (law_22 h3 hk hi hL hR hc he)
      · refine x_tableOut (pc := 33) (tgt := 854) d197_33 (Or.inr (law_big (by omega) q1)) (by decide) ?_
        obtain ⟨sd, pc, n0, L0⟩ := h3
        exact he X ⟨sd, pc, n0, L0.up (by omega)⟩
    · unfold lvL
      refine x_iload_n (pc := 18) d197_18 rfl ?_
      refine x_aload_n (pc := 19) d197_19 rfl ?_
      refine x_slenZ (pc := 20) d197_20 ?_
      refine x_bipush (pc := 21) (v := (6)) d197_21 (by decide) ?_
      refine x_isub (pc := 23) d197_23 ?_
      refine x_icmp_gt (pc := 24) (tgt := 860) d197_24 (by decide) (fun _ => hout i X) (fun q => absurd ?_ q)
      exact law_cmp (by omega) h2
end LP
