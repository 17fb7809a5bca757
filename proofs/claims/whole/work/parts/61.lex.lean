/-! tokens, on both sides: bytes, words, numbers -/
theorem nI64 {n : Nat} (h : n < 2 ^ 31) : (nI n).toInt64 = Int64.ofNat n := by
  apply Int64.toBitVec_inj.mp
  show (BitVec.ofNat 32 n).signExtend 64 = BitVec.ofNat 64 n
  apply BitVec.eq_of_toNat_eq
  rw [BitVec.toNat_signExtend, BitVec.toNat_setWidth, BitVec.toNat_ofNat, BitVec.toNat_ofNat]
  have h1 : (BitVec.ofNat 32 n).msb = false := by
    rw [BitVec.msb_eq_false_iff_two_mul_lt, BitVec.toNat_ofNat]; omega
  rw [h1]; simp; omega
theorem pk8 {V b : Nat} (hV : V < 2 ^ 48) (hb : b < 256) : ((Int64.ofNat V) <<< ((8 : Int32).toInt64 &&& 63)) ||| (Int64.ofNat b) = Int64.ofNat (256 * V + b) := by
  apply Int64.toBitVec_inj.mp
  show (BitVec.ofNat 64 V <<< (((8 : Int32).toInt64 &&& 63).toBitVec.smod 64).toNat) ||| BitVec.ofNat 64 b = BitVec.ofNat 64 (256 * V + b)
  have e : (((8 : Int32).toInt64 &&& 63).toBitVec.smod 64).toNat = 8 := by decide
  rw [e]
  apply BitVec.eq_of_toNat_eq
  rw [BitVec.toNat_or, BitVec.toNat_shiftLeft, BitVec.toNat_ofNat, BitVec.toNat_ofNat, BitVec.toNat_ofNat]
  rw [Nat.mod_eq_of_lt (show V < 2 ^ 64 by omega), Nat.mod_eq_of_lt (show b < 2 ^ 64 by omega), Nat.mod_eq_of_lt (show 256 * V + b < 2 ^ 64 by omega)]
  rw [Nat.shiftLeft_eq, Nat.mod_eq_of_lt (show V * 2 ^ 8 < 2 ^ 64 by omega)]
  have := Nat.shiftLeft_add_eq_or_of_lt (show b < 2 ^ 8 by omega) V
  rw [Nat.shiftLeft_eq] at this
  rw [← this]; omega
theorem i64_inj {a b : Nat} (ha : a < 2 ^ 62) (hb : b < 2 ^ 62) (h : Int64.ofNat a = Int64.ofNat b) : a = b := by
  have h2 := congrArg (fun x => x.toBitVec.toNat) h
  have h3 : (BitVec.ofNat 64 a).toNat = (BitVec.ofNat 64 b).toNat := h2
  rw [BitVec.toNat_ofNat, BitVec.toNat_ofNat] at h3
  omega
theorem dg64 {V b : Nat} (hb : 48 ≤ b) : ((10 : Int64) * Int64.ofNat V + Int64.ofNat b) - 48 = Int64.ofNat (10 * V + (b - 48)) := by
  have e1 : (10 : Int64) * Int64.ofNat V = Int64.ofNat (10 * V) := by
    rw [show (10 : Int64) = Int64.ofNat 10 from rfl, ← Int64.ofNat_mul]
  rw [e1, ← Int64.ofNat_add, show (48 : Int64) = Int64.ofNat 48 from rfl, show 10 * V + b = (10 * V + (b - 48)) + 48 by omega, Int64.ofNat_add, Int64.add_sub_cancel]
theorem dg32 {V b : Nat} (hb : 48 ≤ b) : ((10 : Int32) * nI V + nI b) - 48 = nI (10 * V + (b - 48)) := by
  unfold nI
  rw [show (10 : Int32) = Int32.ofNat 10 from rfl, ← Int32.ofNat_mul, ← Int32.ofNat_add, show (48 : Int32) = Int32.ofNat 48 from rfl, show 10 * V + b = (10 * V + (b - 48)) + 48 by omega, Int32.ofNat_add, Int32.add_sub_cancel]
/-- the tape that both sides hold -/
def bB (s : St) (i : Nat) : Nat := (s.1 128 0 i).toNatClampNeg
def TU (s u : St) (z : Nat) : Prop := z ≤ 800 ∧ u.1 201 0 0 = nI z ∧ ∀ i, i < z → bB s i < 256 ∧ s.1 128 0 i = nI (bB s i) ∧ (u.1 200 0 i) &&& 255 = nI (bB s i)
theorem TU_of {s u : St} {z : Nat} (h8 : z ≤ 800) (h : TPz s u z) : TU s u z := ⟨h8, h.2.1, fun i hi => by
  obtain ⟨b, b1, b2, b3⟩ := h.2.2 i hi
  have e : bB s i = b := by unfold bB; rw [b2, nI_clamp (by omega)]
  rw [e]; exact ⟨b1, b2, b3⟩⟩
theorem r_bA {s u : St} {z i : Nat} (h : TU s u z) (hi : i ≤ 800) : r_byteAt (nI i) u = some (if i < z then nI (bB s i) else -1, u) := by
  obtain ⟨h8, hz, hb⟩ := h
  unfold r_byteAt
  rw [bnd_d, hz]
  by_cases hl : i < z
  · rw [if_neg (nI_ge hl (by omega)), if_pos hl, gI (by omega) (by decide), nI_clamp (by omega), (hb i hl).2.2]
  · rw [if_pos (nI_le (by omega) (by omega)), if_neg hl]
def isL (b : Nat) : Bool := decide (97 ≤ b ∧ b ≤ 122)
def isD (b : Nat) : Bool := decide (48 ≤ b ∧ b ≤ 57)
def isG (b : Nat) : Bool := decide (b ∈ [35, 40, 41, 42, 43, 45, 59, 60, 61, 123, 125])
def bI (b : Bool) : Int32 := if b then 1 else 0
theorem k_L {b : Nat} (hb : b < 256) (s : St) : k_isLetter (nI b) s = some (bI (isL b), s) := by
  unfold k_isLetter k_isLetter_16 bI isL
  by_cases h1 : 97 ≤ b
  · rw [if_neg (show ¬ nI b < 97 from nI_nlt (b := 97) h1 (by omega))]
    by_cases h2 : b ≤ 122
    · rw [if_neg (show ¬ (122 : Int32) < nI b from nI_nlt (a := 122) h2 (by decide)), decide_eq_true ⟨h1, h2⟩]; rfl
    · rw [if_pos (show (122 : Int32) < nI b from nI_lt (a := 122) (by omega) (by omega)), decide_eq_false (fun z => h2 z.2)]; rfl
  · rw [if_pos (show nI b < 97 from nI_lt (b := 97) (by omega) (by decide)), decide_eq_false (fun z => h1 z.1)]; rfl
theorem k_D {b : Nat} (hb : b < 256) (s : St) : k_isDigit (nI b) s = some (bI (isD b), s) := by
  unfold k_isDigit k_isDigit_16 bI isD
  by_cases h1 : 48 ≤ b
  · rw [if_neg (show ¬ nI b < 48 from nI_nlt (b := 48) h1 (by omega))]
    by_cases h2 : b ≤ 57
    · rw [if_neg (show ¬ (57 : Int32) < nI b from nI_nlt (a := 57) h2 (by decide)), decide_eq_true ⟨h1, h2⟩]; rfl
    · rw [if_pos (show (57 : Int32) < nI b from nI_lt (a := 57) (by omega) (by omega)), decide_eq_false (fun z => h2 z.2)]; rfl
  · rw [if_pos (show nI b < 48 from nI_lt (b := 48) (by omega) (by decide)), decide_eq_false (fun z => h1 z.1)]; rfl
theorem r_L {b : Nat} (hb : b < 256) (s : St) : r_isSmall (nI b) s = some (bI (isL b), s) := k_L hb s
theorem r_D {b : Nat} (hb : b < 256) (s : St) : r_isFigure (nI b) s = some (bI (isD b), s) := k_D hb s
theorem r_L1 (s : St) : r_isSmall (-1) s = some (0, s) := by unfold r_isSmall r_isSmall_16; rw [if_pos (by decide)]
theorem r_D1 (s : St) : r_isFigure (-1) s = some (0, s) := by unfold r_isFigure r_isFigure_16; rw [if_pos (by decide)]
theorem r_G {b : Nat} (hb : b < 256) (s : St) : r_isSignByte (nI b) s = some (bI (isG b), s) := by
  have e : ∀ q : Nat, q < 256 → (nI b = nI q ↔ b = q) := fun q hq => nI_eq (by omega) (by omega)
  unfold r_isSignByte
  have f : ∀ q : Nat, q < 256 → ¬ b = q → ¬ nI b = nI q := fun q hq h z => h ((e q hq).mp z)
  by_cases h1 : b = 35
  · subst h1; rfl
  rw [if_neg (show ¬ nI b = 35 from f 35 (by decide) h1)]
  by_cases h2 : b = 40
  · subst h2; rfl
  rw [if_neg (show ¬ nI b = 40 from f 40 (by decide) h2)]
  by_cases h3 : b = 41
  · subst h3; rfl
  rw [if_neg (show ¬ nI b = 41 from f 41 (by decide) h3)]
  by_cases h4 : b = 42
  · subst h4; rfl
  rw [if_neg (show ¬ nI b = 42 from f 42 (by decide) h4)]
  by_cases h5 : b = 43
  · subst h5; rfl
  rw [if_neg (show ¬ nI b = 43 from f 43 (by decide) h5)]
  by_cases h6 : b = 45
  · subst h6; rfl
  rw [if_neg (show ¬ nI b = 45 from f 45 (by decide) h6)]
  by_cases h7 : b = 59
  · subst h7; rfl
  rw [if_neg (show ¬ nI b = 59 from f 59 (by decide) h7)]
  by_cases h8 : b = 60
  · subst h8; rfl
  rw [if_neg (show ¬ nI b = 60 from f 60 (by decide) h8)]
  by_cases h9 : b = 61
  · subst h9; rfl
  rw [if_neg (show ¬ nI b = 61 from f 61 (by decide) h9)]
  by_cases h10 : b = 123
  · subst h10; rfl
  rw [if_neg (show ¬ nI b = 123 from f 123 (by decide) h10)]
  by_cases h11 : b = 125
  · subst h11; rfl
  rw [if_neg (show ¬ nI b = 125 from f 125 (by decide) h11)]
  have : isG b = false := by
    unfold isG
    refine decide_eq_false (fun z => ?_)
    simp only [List.mem_cons, List.not_mem_nil, or_false] at z
    omega
  rw [this]; rfl
def SL : List Nat := [61, 59, 40, 41, 123, 125, 60, 35, 43, 45, 42]
theorem sB1 : ∀ q, q < 11 → sB 1 q = nI (SL.getD q 0) ∧ SL.getD q 0 < 256 := by decide +kernel
theorem sN1 : sN 1 = 11 := by decide +kernel
theorem sN0 : 114 ≤ sN 0 ∧ sN 0 < 2 ^ 31 := by decide +kernel
def anyS (b : Nat) : Nat → Nat → Bool
  | 0, _ => false
  | m + 1, i => decide (SL.getD i 0 = b) || anyS b m (i + 1)
theorem k_G2 {b : Nat} (hb : b < 256) (s : St) : ∀ m i N, i + m = 11 → m < N → k_isSign_2 N (nI b) (nI i) s = some (bI (anyS b m i), s) := by
  intro m
  induction m with
  | zero =>
    intro i N hi hN
    obtain ⟨N, rfl⟩ : ∃ q, N = q + 1 := ⟨N - 1, by omega⟩
    rw [k_isSign_2.eq_2, sN1, if_pos (nI_le (by omega) (by omega))]; rfl
  | succ m ih =>
    intro i N hi hN
    obtain ⟨N, rfl⟩ : ∃ q, N = q + 1 := ⟨N - 1, by omega⟩
    obtain ⟨e1, e2⟩ := sB1 i (by omega)
    rw [k_isSign_2.eq_2, sN1, if_neg (nI_ge (by omega) (by omega)), gI (by omega) (by decide), nI_clamp (by omega), e1, nI_1]
    unfold anyS
    by_cases h : SL.getD i 0 = b
    · rw [if_pos (by rw [h]), decide_eq_true h]; rfl
    · rw [if_neg (fun z => h ((nI_eq (by omega) (by omega)).mp z)), decide_eq_false h, Bool.false_or]
      exact ih (i + 1) N (by omega) (by omega)
theorem anyS_G : ∀ b, b < 256 → anyS b 11 0 = isG b := by decide +kernel
theorem k_G {b : Nat} (hb : b < 256) (s : St) : k_isSign (nI b) s = some (bI (isG b), s) := by
  unfold k_isSign
  rw [← anyS_G b hb]
  exact k_G2 hb s 11 0 20 (by omega) (by omega)
/-! words -/
def WL : List (List Nat) := [[110, 111, 116, 101], [105, 102], [101, 108, 115, 101], [119, 104, 105, 108, 101], [116, 97, 107, 101], [116, 111], [112, 117, 116], [105, 110], [116, 104, 114, 111, 119], [115, 101, 110, 100], [109, 97, 115, 107], [104, 97, 114, 100], [111, 112, 101, 110], [116, 114, 121], [99, 97, 116, 99, 104], [102, 105, 114, 115, 116], [117, 115, 101], [108, 97, 115, 116], [119, 105, 116, 104, 105, 110]]
def WIL : List Int64 := [1852798053, 26982, 1701606245, 512852847717, 1952541541, 29807, 7370100, 26990, 499968536439, 1936027236, 1835103083, 1751216740, 1869636974, 7631481, 426836779880, 439855772532, 7697253, 1818325876, 131294808271214]
def WI (w : Nat) : Int64 := WIL.getD w 0
def fnd (P : Nat → Bool) : Nat → Nat → Nat
  | 0, w => w
  | m + 1, w => if P w = true then w else fnd P m (w + 1)
def gg (w : Nat) : Int32 := if w = 19 then -1 else nI w
theorem r_wO (x : Int64) (u : St) : r_wordOf x u = some (gg (fnd (fun w => decide (x = WI w)) 19 0), u) := by
  have st : ∀ m w, fnd (fun w => decide (x = WI w)) (m + 1) w = if decide (x = WI w) = true then w else fnd (fun w => decide (x = WI w)) m (w + 1) := fun _ _ => rfl
  unfold r_wordOf
  by_cases h0 : x = (1852798053 : Int64)
  · rw [if_pos h0, st, if_pos (show decide (x = WI 0) = true from decide_eq_true h0)]; rfl
  rw [if_neg h0, st, if_neg (show ¬ decide (x = WI 0) = true from fun z => h0 (of_decide_eq_true z))]
  by_cases h1 : x = (26982 : Int64)
  · rw [if_pos h1, st, if_pos (show decide (x = WI 1) = true from decide_eq_true h1)]; rfl
  rw [if_neg h1, st, if_neg (show ¬ decide (x = WI 1) = true from fun z => h1 (of_decide_eq_true z))]
  by_cases h2 : x = (1701606245 : Int64)
  · rw [if_pos h2, st, if_pos (show decide (x = WI 2) = true from decide_eq_true h2)]; rfl
  rw [if_neg h2, st, if_neg (show ¬ decide (x = WI 2) = true from fun z => h2 (of_decide_eq_true z))]
  by_cases h3 : x = (512852847717 : Int64)
  · rw [if_pos h3, st, if_pos (show decide (x = WI 3) = true from decide_eq_true h3)]; rfl
  rw [if_neg h3, st, if_neg (show ¬ decide (x = WI 3) = true from fun z => h3 (of_decide_eq_true z))]
  by_cases h4 : x = (1952541541 : Int64)
  · rw [if_pos h4, st, if_pos (show decide (x = WI 4) = true from decide_eq_true h4)]; rfl
  rw [if_neg h4, st, if_neg (show ¬ decide (x = WI 4) = true from fun z => h4 (of_decide_eq_true z))]
  by_cases h5 : x = (29807 : Int64)
  · rw [if_pos h5, st, if_pos (show decide (x = WI 5) = true from decide_eq_true h5)]; rfl
  rw [if_neg h5, st, if_neg (show ¬ decide (x = WI 5) = true from fun z => h5 (of_decide_eq_true z))]
  by_cases h6 : x = (7370100 : Int64)
  · rw [if_pos h6, st, if_pos (show decide (x = WI 6) = true from decide_eq_true h6)]; rfl
  rw [if_neg h6, st, if_neg (show ¬ decide (x = WI 6) = true from fun z => h6 (of_decide_eq_true z))]
  by_cases h7 : x = (26990 : Int64)
  · rw [if_pos h7, st, if_pos (show decide (x = WI 7) = true from decide_eq_true h7)]; rfl
  rw [if_neg h7, st, if_neg (show ¬ decide (x = WI 7) = true from fun z => h7 (of_decide_eq_true z))]
  by_cases h8 : x = (499968536439 : Int64)
  · rw [if_pos h8, st, if_pos (show decide (x = WI 8) = true from decide_eq_true h8)]; rfl
  rw [if_neg h8, st, if_neg (show ¬ decide (x = WI 8) = true from fun z => h8 (of_decide_eq_true z))]
  by_cases h9 : x = (1936027236 : Int64)
  · rw [if_pos h9, st, if_pos (show decide (x = WI 9) = true from decide_eq_true h9)]; rfl
  rw [if_neg h9, st, if_neg (show ¬ decide (x = WI 9) = true from fun z => h9 (of_decide_eq_true z))]
  by_cases h10 : x = (1835103083 : Int64)
  · rw [if_pos h10, st, if_pos (show decide (x = WI 10) = true from decide_eq_true h10)]; rfl
  rw [if_neg h10, st, if_neg (show ¬ decide (x = WI 10) = true from fun z => h10 (of_decide_eq_true z))]
  by_cases h11 : x = (1751216740 : Int64)
  · rw [if_pos h11, st, if_pos (show decide (x = WI 11) = true from decide_eq_true h11)]; rfl
  rw [if_neg h11, st, if_neg (show ¬ decide (x = WI 11) = true from fun z => h11 (of_decide_eq_true z))]
  by_cases h12 : x = (1869636974 : Int64)
  · rw [if_pos h12, st, if_pos (show decide (x = WI 12) = true from decide_eq_true h12)]; rfl
  rw [if_neg h12, st, if_neg (show ¬ decide (x = WI 12) = true from fun z => h12 (of_decide_eq_true z))]
  by_cases h13 : x = (7631481 : Int64)
  · rw [if_pos h13, st, if_pos (show decide (x = WI 13) = true from decide_eq_true h13)]; rfl
  rw [if_neg h13, st, if_neg (show ¬ decide (x = WI 13) = true from fun z => h13 (of_decide_eq_true z))]
  by_cases h14 : x = (426836779880 : Int64)
  · rw [if_pos h14, st, if_pos (show decide (x = WI 14) = true from decide_eq_true h14)]; rfl
  rw [if_neg h14, st, if_neg (show ¬ decide (x = WI 14) = true from fun z => h14 (of_decide_eq_true z))]
  by_cases h15 : x = (439855772532 : Int64)
  · rw [if_pos h15, st, if_pos (show decide (x = WI 15) = true from decide_eq_true h15)]; rfl
  rw [if_neg h15, st, if_neg (show ¬ decide (x = WI 15) = true from fun z => h15 (of_decide_eq_true z))]
  by_cases h16 : x = (7697253 : Int64)
  · rw [if_pos h16, st, if_pos (show decide (x = WI 16) = true from decide_eq_true h16)]; rfl
  rw [if_neg h16, st, if_neg (show ¬ decide (x = WI 16) = true from fun z => h16 (of_decide_eq_true z))]
  by_cases h17 : x = (1818325876 : Int64)
  · rw [if_pos h17, st, if_pos (show decide (x = WI 17) = true from decide_eq_true h17)]; rfl
  rw [if_neg h17, st, if_neg (show ¬ decide (x = WI 17) = true from fun z => h17 (of_decide_eq_true z))]
  by_cases h18 : x = (131294808271214 : Int64)
  · rw [if_pos h18, st, if_pos (show decide (x = WI 18) = true from decide_eq_true h18)]; rfl
  rw [if_neg h18, st, if_neg (show ¬ decide (x = WI 18) = true from fun z => h18 (of_decide_eq_true z))]
  rfl

def wdp (w i : Nat) : Nat := (WL.getD w []).getD i 32
theorem sB0 : ∀ w, w < 19 → ∀ i, i < 6 → sB 0 (w * 6 + i) = nI (wdp w i) ∧ wdp w i < 256 := by decide +kernel
def eqv (pd : Nat → Nat) (w : Nat) : Nat → Nat → Bool
  | 0, _ => true
  | m + 1, i => decide (wdp w i = pd i) && eqv pd w m (i + 1)
def pdF (s : St) (f t : Nat) (i : Nat) : Nat := if f + i < t then bB s (f + i) else 32
theorem k_sp {s : St} {f t w : Nat} (hf : f ≤ 800) (ht : t ≤ 800) (hw : w < 19) (hb : ∀ i, i < t → bB s i < 256 ∧ s.1 128 0 i = nI (bB s i)) : ∀ m i N, i + m = 6 → m < N → k_isSpelled_3 N (nI (w * 6)) (nI f) (nI t) (nI i) s = some (bI (eqv (pdF s f t) w m i), s) := by
  intro m
  induction m with
  | zero =>
    intro i N hi hN
    obtain ⟨N, rfl⟩ : ∃ q, N = q + 1 := ⟨N - 1, by omega⟩
    rw [k_isSpelled_3.eq_2, if_pos (show (6 : Int32) ≤ nI i from nI_le (a := 6) (by omega) (by omega))]; rfl
  | succ m ih =>
    intro i N hi hN
    obtain ⟨N, rfl⟩ : ∃ q, N = q + 1 := ⟨N - 1, by omega⟩
    obtain ⟨e1, e2⟩ := sB0 w hw i (by omega)
    have hs := sN0
    have hi2 := ih (i + 1) N (by omega) (by omega)
    have R : ∀ y, y < 256 → pdF s f t i = y → k_isSpelled_29 (k_isSpelled_3 N) (nI (w * 6)) (nI f) (nI t) (nI i) (nI y) s = some (bI (eqv (pdF s f t) w (m + 1) i), s) := fun y hy ey => by
      unfold k_isSpelled_29 eqv
      rw [nI_add, gI (by omega) (by omega), nI_clamp (by omega), e1, ey, nI_1]
      by_cases h : wdp w i = y
      · rw [if_pos (by rw [h]), decide_eq_true h, Bool.true_and]; exact hi2
      · rw [if_neg (fun z => h ((nI_eq (by omega) (by omega)).mp z)), decide_eq_false h, Bool.false_and]; rfl
    by_cases hl : f + i < t
    · rw [k_isSpelled_3.eq_2, if_neg (show ¬ (6 : Int32) ≤ nI i from nI_ge (b := 6) (by omega) (by decide)), nI_add, if_neg (nI_ge hl (by omega)), gI (by omega) (by decide), nI_clamp (by omega), (hb _ hl).2]
      exact R _ (hb _ hl).1 (by unfold pdF; rw [if_pos hl])
    · rw [k_isSpelled_3.eq_2, if_neg (show ¬ (6 : Int32) ≤ nI i from nI_ge (b := 6) (by omega) (by decide)), nI_add, if_pos (nI_le (by omega) (by omega))]
      exact R 32 (by decide) (by unfold pdF; rw [if_neg hl])
theorem k_w12 {s : St} {f t : Nat} (hf : f ≤ 800) (ht : t ≤ 800) (hb : ∀ i, i < t → bB s i < 256 ∧ s.1 128 0 i = nI (bB s i)) : ∀ m w N, w + m = 19 → m < N → k_wordKind_12 N (nI f) (nI t) (nI w) s = some (if fnd (fun w => eqv (pdF s f t) w 6 0) m w = 19 then 1 else nI (5 + fnd (fun w => eqv (pdF s f t) w 6 0) m w), s) := by
  intro m
  induction m with
  | zero =>
    intro w N hw hN
    obtain ⟨N, rfl⟩ : ∃ q, N = q + 1 := ⟨N - 1, by omega⟩
    have : w = 19 := by omega
    subst this
    rw [k_wordKind_12.eq_2, if_pos (show (19 : Int32) ≤ nI 19 by decide)]; rfl
  | succ m ih =>
    intro w N hw hN
    obtain ⟨N, rfl⟩ : ∃ q, N = q + 1 := ⟨N - 1, by omega⟩
    have st : fnd (fun w => eqv (pdF s f t) w 6 0) (m + 1) w = if eqv (pdF s f t) w 6 0 = true then w else fnd (fun w => eqv (pdF s f t) w 6 0) m (w + 1) := rfl
    rw [k_wordKind_12.eq_2, if_neg (show ¬ (19 : Int32) ≤ nI w from nI_ge (b := 19) (by omega) (by decide)), show nI w * 6 = nI (w * 6) from by rw [show (6 : Int32) = nI 6 from rfl, pk_mul]]
    unfold k_isSpelled
    rw [show k_isSpelled_3 20 (nI (w * 6)) (nI f) (nI t) 0 s = _ from k_sp hf ht (by omega) hb 6 0 20 (by omega) (by omega), cal2_s, st]
    cases h : eqv (pdF s f t) w 6 0
    · rw [show bI false = 0 from rfl, if_pos rfl, nI_1, if_neg (show ¬ false = true by decide)]
      exact ih (w + 1) N (by omega) (by omega)
    · rw [show bI true = 1 from rfl, if_neg (by decide), if_pos rfl, if_neg (by omega), show (5 : Int32) + nI w = nI (5 + w) from nI_add 5 w]
/-- digits of base 256 packed, the last lowest -/
def pkD (d : Nat → Nat) : Nat → Nat
  | 0 => 0
  | n + 1 => 256 * pkD d n + d n
theorem pkD_lt {d : Nat → Nat} : ∀ n, (∀ i, i < n → d i < 256) → pkD d n < 256 ^ n
  | 0, _ => by unfold pkD; decide
  | n + 1, h => by
    have := pkD_lt (d := d) n (fun i hi => h i (by omega))
    have h2 := h n (by omega)
    unfold pkD; rw [Nat.pow_succ]; omega
theorem pkD_inj {d d' : Nat → Nat} : ∀ n n', (∀ i, i < n → 1 ≤ d i ∧ d i < 256) → (∀ i, i < n' → 1 ≤ d' i ∧ d' i < 256) → pkD d n = pkD d' n' → n = n' ∧ ∀ i, i < n → d i = d' i
  | 0, 0, _, _, _ => ⟨rfl, fun i hi => by omega⟩
  | 0, n' + 1, _, h', e => by
    have := h' n' (by omega)
    unfold pkD at e; omega
  | n + 1, 0, h, _, e => by
    have := h n (by omega)
    unfold pkD at e; omega
  | n + 1, n' + 1, h, h', e => by
    have a := h n (by omega)
    have b := h' n' (by omega)
    have e : 256 * pkD d n + d n = 256 * pkD d' n' + d' n' := e
    obtain ⟨r1, r2⟩ := pkD_inj n n' (fun i hi => h i (by omega)) (fun i hi => h' i (by omega)) (by omega)
    subst r1
    refine ⟨rfl, fun i hi => ?_⟩
    by_cases z : i = n
    · subst z; omega
    · exact r2 i (by omega)
theorem pkD_to {d d' : Nat → Nat} : ∀ n, (∀ i, i < n → d i = d' i) → pkD d n = pkD d' n
  | 0, _ => rfl
  | n + 1, h => by unfold pkD; rw [h n (by omega), pkD_to n (fun i hi => h i (by omega))]
def wln (w : Nat) : Nat := (WL.getD w []).length
theorem WI_pk : ∀ w, w < 19 → WI w = Int64.ofNat (pkD (wdp w) (wln w)) := by decide +kernel
theorem wd_c : ∀ w, w < 19 → (2 ≤ wln w ∧ wln w ≤ 6) ∧ ∀ i, i < 6 → (i < wln w → 97 ≤ wdp w i ∧ wdp w i ≤ 122) ∧ (wln w ≤ i → wdp w i = 32) := by decide +kernel
theorem eqv_iff {pd : Nat → Nat} {w : Nat} : ∀ m i, eqv pd w m i = true ↔ ∀ j, i ≤ j → j < i + m → wdp w j = pd j
  | 0, i => ⟨fun _ j h1 h2 => by omega, fun _ => rfl⟩
  | m + 1, i => by
    unfold eqv
    rw [Bool.and_eq_true, decide_eq_true_iff, eqv_iff m (i + 1)]
    constructor
    · rintro ⟨h1, h2⟩ j j1 j2
      by_cases z : j = i
      · rw [z]; exact h1
      · exact h2 j (by omega) (by omega)
    · intro h
      exact ⟨h i (by omega) (by omega), fun j j1 j2 => h j (by omega) (by omega)⟩
theorem word_iff {s : St} {f n w : Nat} (hn2 : 2 ≤ n) (hn : n ≤ 6) (hb : ∀ i, i < n → 97 ≤ bB s (f + i) ∧ bB s (f + i) ≤ 122) (hw : w < 19) : eqv (pdF s f (f + n)) w 6 0 = decide (Int64.ofNat (pkD (fun i => bB s (f + i)) n) = WI w) := by
  obtain ⟨⟨l1, l2⟩, lc⟩ := wd_c w hw
  have pd1 : ∀ i, i < n → pdF s f (f + n) i = bB s (f + i) := fun i hi => by unfold pdF; rw [if_pos (by omega)]
  have pd2 : ∀ i, n ≤ i → pdF s f (f + n) i = 32 := fun i hi => by unfold pdF; rw [if_neg (by omega)]
  have lt1 : pkD (fun i => bB s (f + i)) n < 2 ^ 62 := by
    have := pkD_lt (d := fun i => bB s (f + i)) n (fun i hi => by have := hb i hi; omega)
    have h2 : 256 ^ n ≤ 256 ^ 6 := Nat.pow_le_pow_right (by decide) hn
    omega
  have lt2 : pkD (wdp w) (wln w) < 2 ^ 62 := by
    have := pkD_lt (d := wdp w) (wln w) (fun i hi => by have := (lc i (by omega)).1 hi; omega)
    have h2 : 256 ^ wln w ≤ 256 ^ 6 := Nat.pow_le_pow_right (by decide) l2
    omega
  rw [Bool.eq_iff_iff, eqv_iff, decide_eq_true_iff, WI_pk w hw]
  constructor
  · intro h
    have en : n = wln w := by
      rcases Nat.lt_trichotomy n (wln w) with z | z | z
      · have a := h n (by omega) (by omega)
        rw [pd2 n (Nat.le_refl _)] at a
        have := (lc n (by omega)).1 z; omega
      · exact z
      · have a := h (wln w) (by omega) (by omega)
        rw [pd1 _ z] at a
        have b := (lc (wln w) (by omega)).2 (Nat.le_refl _)
        have := hb _ z; omega
    rw [← en]
    congr 1
    exact pkD_to n (fun i hi => by rw [h i (by omega) (by omega), pd1 i hi])
  · intro h j _ hj
    obtain ⟨en, ed⟩ := pkD_inj n (wln w) (fun i hi => by have := hb i hi; omega) (fun i hi => by have := (lc i (by omega)).1 hi; omega) (i64_inj lt1 lt2 h)
    by_cases z : j < n
    · rw [pd1 j z]; exact (ed j z).symm
    · rw [pd2 j (by omega)]; exact (lc j (by omega)).2 (by omega)
theorem fnd_le {P : Nat → Bool} : ∀ m w, fnd P m w ≤ w + m
  | 0, w => by unfold fnd; omega
  | m + 1, w => by
    unfold fnd
    have := fnd_le (P := P) m (w + 1)
    split <;> omega
theorem fnd_to {P Q : Nat → Bool} : ∀ m w, (∀ i, w ≤ i → i < w + m → P i = Q i) → fnd P m w = fnd Q m w
  | 0, w, _ => rfl
  | m + 1, w, h => by
    unfold fnd
    rw [h w (by omega) (by omega), fnd_to m (w + 1) (fun i h1 h2 => h i (by omega) (by omega))]
/-- a word on both sides -/
theorem word_ok {s u : St} {f n : Nat} (hf : f + n ≤ 800) (hn2 : 2 ≤ n) (hn : n ≤ 6) (hb : ∀ i, i < n → 97 ≤ bB s (f + i) ∧ bB s (f + i) ≤ 122) (ht : ∀ i, i < f + n → bB s i < 256 ∧ s.1 128 0 i = nI (bB s i)) :
    (∃ w, w < 19 ∧ k_wordKind (nI f) (nI (f + n)) s = some (nI (5 + w), s) ∧ r_wordOf (Int64.ofNat (pkD (fun i => bB s (f + i)) n)) u = some (nI w, u)) ∨ (k_wordKind (nI f) (nI (f + n)) s = some (1, s) ∧ r_wordOf (Int64.ofNat (pkD (fun i => bB s (f + i)) n)) u = some (-1, u)) := by
  have e : fnd (fun w => eqv (pdF s f (f + n)) w 6 0) 19 0 = fnd (fun w => decide (Int64.ofNat (pkD (fun i => bB s (f + i)) n) = WI w)) 19 0 := fnd_to 19 0 (fun i _ hi => word_iff hn2 hn hb (by omega))
  have hk : k_wordKind (nI f) (nI (f + n)) s = some (if fnd (fun w => eqv (pdF s f (f + n)) w 6 0) 19 0 = 19 then 1 else nI (5 + fnd (fun w => eqv (pdF s f (f + n)) w 6 0) 19 0), s) := by
    unfold k_wordKind
    rw [nI_sub (by omega), show f + n - f = n by omega, if_pos (show nI n ≤ 6 from nI_le (b := 6) hn (by decide))]
    exact k_w12 (by omega) hf ht 19 0 30 (by omega) (by omega)
  have hl := fnd_le (P := fun w => eqv (pdF s f (f + n)) w 6 0) 19 0
  rw [hk, r_wO, ← e]
  unfold gg
  by_cases h : fnd (fun w => eqv (pdF s f (f + n)) w 6 0) 19 0 = 19
  · rw [if_pos h, if_pos h]; exact Or.inr ⟨rfl, rfl⟩
  · rw [if_neg h, if_neg h]; exact Or.inl ⟨_, by omega, rfl, rfl⟩
