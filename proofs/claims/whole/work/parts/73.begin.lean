/-! texts on both sides: what is known of a statement, and its beginning -/
def SC (s u : St) (p fC eA a : Nat) (K : Int32) : Prop := (K ∈ ([2, 9, 18] : List Int32) → ∃ b, b < 10 ∧ s.1 69 p a = nI b ∧ u.1 221 0 (40 * p + a) = nI (16 + b)) ∧ (K ∈ ([9, 11] : List Int32) → ∃ b, b < 8 ∧ s.1 70 p a = nI b ∧ u.1 222 0 (40 * p + a) = nI b) ∧ (K = 14 → ∃ b, b < 6 ∧ s.1 70 p a = nI b ∧ u.1 223 0 (40 * p + a) = nI b) ∧ (K = 23 → ∃ b, b < 1000000000 ∧ s.1 70 p a = nI b ∧ u.1 223 0 (40 * p + a) = nI b) ∧ (K ∈ ([2, 5, 6, 8, 11, 13, 14] : List Int32) → ∃ f m e, XpQ s u p a f m e ∧ f + m ≤ fC ∧ e + m < eA ∧ u.1 218 0 (40 * p + a) = nI (200 * p + e))
theorem SC.lt {s u : St} {p fC eA a : Nat} {K : Int32} (h : SC s u p fC eA a K) : K ∈ ([2, 9, 18] : List Int32) → ∃ b, b < 10 ∧ s.1 69 p a = nI b ∧ u.1 221 0 (40 * p + a) = nI (16 + b) := h.1
theorem SC.bx {s u : St} {p fC eA a : Nat} {K : Int32} (h : SC s u p fC eA a K) : K ∈ ([9, 11] : List Int32) → ∃ b, b < 8 ∧ s.1 70 p a = nI b ∧ u.1 222 0 (40 * p + a) = nI b := h.2.1
theorem SC.sn {s u : St} {p fC eA a : Nat} {K : Int32} (h : SC s u p fC eA a K) : K = 14 → ∃ b, b < 6 ∧ s.1 70 p a = nI b ∧ u.1 223 0 (40 * p + a) = nI b := h.2.2.1
theorem SC.wn {s u : St} {p fC eA a : Nat} {K : Int32} (h : SC s u p fC eA a K) : K = 23 → ∃ b, b < 1000000000 ∧ s.1 70 p a = nI b ∧ u.1 223 0 (40 * p + a) = nI b := h.2.2.2.1
theorem SC.xp {s u : St} {p fC eA a : Nat} {K : Int32} (h : SC s u p fC eA a K) : K ∈ ([2, 5, 6, 8, 11, 13, 14] : List Int32) → ∃ f m e, XpQ s u p a f m e ∧ f + m ≤ fC ∧ e + m < eA ∧ u.1 218 0 (40 * p + a) = nI (200 * p + e) := h.2.2.2.2
def BF (g : Nat → Nat) (s u : St) (p hi a w : Nat) : Prop := (s.1 74 p (3 * a + w) = -2 ∧ u.1 220 0 (3 * (40 * p + a) + w) = 0) ∨ (u.1 220 0 (3 * (40 * p + a) + w) = 1 ∧ g a < 8 ∧ XR (fun _ => g) p hi (s.1 74 p (3 * a + w)) (u.1 219 0 (3 * (40 * p + a) + w)) (g a + 1))
def StX (g : Nat → Nat) (s u : St) (p hi fC eA a : Nat) : Prop := ((u.1 216 0 (40 * p + a), s.1 68 p a) ∈ KM) ∧ (XR (fun _ => g) p hi (s.1 73 p a) (u.1 217 0 (40 * p + a)) (g a)) ∧ (∀ w, w < 3 → BF g s u p hi a w) ∧ (s.1 68 p a ∈ ([8, 15, 16, 17, 18, 20, 23] : List Int32) → u.1 220 0 (3 * (40 * p + a) + 0) = 1) ∧ (s.1 68 p a ∈ ([18, 20] : List Int32) → u.1 220 0 (3 * (40 * p + a) + 1) = 1) ∧ (s.1 68 p a = 20 → u.1 220 0 (3 * (40 * p + a) + 2) = 1) ∧ (SC s u p fC eA a (s.1 68 p a))
theorem StX.kd {g : Nat → Nat} {s u : St} {p hi fC eA a : Nat} (h : StX g s u p hi fC eA a) : (u.1 216 0 (40 * p + a), s.1 68 p a) ∈ KM := h.1
theorem StX.nx {g : Nat → Nat} {s u : St} {p hi fC eA a : Nat} (h : StX g s u p hi fC eA a) : XR (fun _ => g) p hi (s.1 73 p a) (u.1 217 0 (40 * p + a)) (g a) := h.2.1
theorem StX.bd {g : Nat → Nat} {s u : St} {p hi fC eA a : Nat} (h : StX g s u p hi fC eA a) : ∀ w, w < 3 → BF g s u p hi a w := h.2.2.1
theorem StX.b0 {g : Nat → Nat} {s u : St} {p hi fC eA a : Nat} (h : StX g s u p hi fC eA a) : s.1 68 p a ∈ ([8, 15, 16, 17, 18, 20, 23] : List Int32) → u.1 220 0 (3 * (40 * p + a) + 0) = 1 := h.2.2.2.1
theorem StX.b1 {g : Nat → Nat} {s u : St} {p hi fC eA a : Nat} (h : StX g s u p hi fC eA a) : s.1 68 p a ∈ ([18, 20] : List Int32) → u.1 220 0 (3 * (40 * p + a) + 1) = 1 := h.2.2.2.2.1
theorem StX.b2 {g : Nat → Nat} {s u : St} {p hi fC eA a : Nat} (h : StX g s u p hi fC eA a) : s.1 68 p a = 20 → u.1 220 0 (3 * (40 * p + a) + 2) = 1 := h.2.2.2.2.2.1
theorem StX.sc {g : Nat → Nat} {s u : St} {p hi fC eA a : Nat} (h : StX g s u p hi fC eA a) : SC s u p fC eA a (s.1 68 p a) := h.2.2.2.2.2.2
theorem XR_to {g g' : Nat → Nat} {p hi hi' k : Nat} {c r : Int32} (h : XR (fun _ => g) p hi c r k) (hh : hi ≤ hi') (hg : ∀ a, a < hi → g' a = g a) : XR (fun _ => g') p hi' c r k := by
  rcases h with h | ⟨a, a1, a2, a3, a4⟩
  · exact Or.inl h
  · exact Or.inr ⟨a, by omega, a2, a3, (hg a a1).trans a4⟩
theorem StX.st {g : Nat → Nat} {s u : St} {p hi fC eA a : Nat} (hp : p < 12) (h : StX g s u p hi fC eA a) (hf : fC ≤ 120) (he : eA ≤ 200) : StR (fun _ => g) s u p hi a := by
  refine ⟨h.kd, h.nx, h.bd, h.b0, h.b1, h.b2, h.sc.lt, h.sc.bx, h.sc.sn, h.sc.wn, fun q => ?_⟩
  obtain ⟨f, m, e, ⟨x1, x2, x3, x4, x5⟩, y1, y2, y3⟩ := h.sc.xp q
  exact ⟨f, m, 200 * p + e, x1, x2, by omega, y3, ⟨by omega, by omega, by omega⟩, x3, x4, x5⟩
theorem XpQ_to {X Y : Nat → Nat → Prop} {s u s' u' : St} {p n fC eA d o f m e : Nat} (h : XpQ s u p o f m e) (hf : f + m ≤ fC) (he : e + m < eA) (ho : o < n) (C : CB X p n fC s s') (R : RB Y p n eA d u u') (hX : ∀ id, 71 ≤ id → id ≤ 72 → ¬ X id o) : XpQ s' u' p o f m e := by
  obtain ⟨x1, x2, x3, x4, x5⟩ := h
  exact ⟨by rw [C.qs 71 o (by omega) (by omega) ho (hX 71 (by omega) (by omega))]; exact x1, by rw [C.qs 72 o (by omega) (by omega) ho (hX 72 (by omega) (by omega))]; exact x2, fun i hi => CdR_to (x3 i hi) (C.qc 75 _ (Or.inl rfl) (by omega)) (C.qc 76 _ (Or.inr rfl) (by omega)) (R.qa 224 _ (Or.inl rfl) (by omega)) (R.qa 225 _ (Or.inr rfl) (by omega)) (R.q2 _ (by omega)), by rw [R.qa 224 _ (Or.inl rfl) (by omega)]; exact x4, evOK_to _ _ _ (fun i i1 i2 => ⟨C.qc 75 _ (Or.inl rfl) (by omega), C.qc 76 _ (Or.inr rfl) (by omega)⟩) x5⟩
theorem SC.to {X Y : Nat → Nat → Prop} {s u s' u' : St} {p n fC eA fC' eA' d a : Nat} {K : Int32} (h : SC s u p fC eA a K) (ha : a < n) (C : CB X p n fC s s') (R : RB Y p n eA d u u') (hf : fC ≤ fC') (he : eA ≤ eA') (hX : ∀ id, 69 ≤ id → id ≤ 72 → ¬ X id a) (hY : ∀ id, 218 ≤ id → id ≤ 223 → id ≠ 219 → id ≠ 220 → ¬ Y id (40 * p + a)) : SC s' u' p fC' eA' a K := by
  have c : ∀ id, 69 ≤ id → id ≤ 72 → s'.1 id p a = s.1 id p a := fun id i1 i2 => C.qs id a (by omega) (by omega) ha (hX id i1 i2)
  have r : ∀ id, 218 ≤ id → id ≤ 223 → id ≠ 219 → id ≠ 220 → u'.1 id 0 (40 * p + a) = u.1 id 0 (40 * p + a) := fun id i1 i2 i3 i4 => R.qs id _ (by omega) i2 i3 i4 (by omega) (hY id i1 i2 i3 i4)
  refine ⟨fun q => ?_, fun q => ?_, fun q => ?_, fun q => ?_, fun q => ?_⟩
  · rw [c 69 (by omega) (by omega), r 221 (by omega) (by omega) (by omega) (by omega)]; exact h.lt q
  · rw [c 70 (by omega) (by omega), r 222 (by omega) (by omega) (by omega) (by omega)]; exact h.bx q
  · rw [c 70 (by omega) (by omega), r 223 (by omega) (by omega) (by omega) (by omega)]; exact h.sn q
  · rw [c 70 (by omega) (by omega), r 223 (by omega) (by omega) (by omega) (by omega)]; exact h.wn q
  · obtain ⟨f, m, e, x, y1, y2, y3⟩ := h.xp q
    exact ⟨f, m, e, XpQ_to x y1 y2 ha C R (fun id i1 i2 => hX id (by omega) i2), by omega, by omega, by rw [r 218 (by omega) (by omega) (by omega) (by omega)]; exact y3⟩
theorem BF.to {X Y : Nat → Nat → Prop} {g g' : Nat → Nat} {s u s' u' : St} {p n f e d hi hi' a w : Nat} (h : BF g s u p hi a w) (ha : a < n) (hw : w < 3) (hh : hi ≤ hi') (hai : a < hi) (hg : ∀ a, a < hi → g' a = g a) (C : CB X p n f s s') (R : RB Y p n e d u u') (hX : ¬ X 74 (3 * a + w)) (hY : ¬ Y 219 (3 * (40 * p + a) + w) ∧ ¬ Y 220 (3 * (40 * p + a) + w)) : BF g' s' u' p hi' a w := by
  unfold BF at *
  rw [C.q4 (3 * a + w) (Or.inl (by omega)) hX, R.qb 219 _ (Or.inl rfl) (Or.inl (by omega)) hY.1, R.qb 220 _ (Or.inr rfl) (Or.inl (by omega)) hY.2, hg a hai]
  rcases h with h | ⟨h1, h2, h3⟩
  · exact Or.inl h
  · exact Or.inr ⟨h1, h2, XR_to h3 hh hg⟩
theorem StX.to {X Y : Nat → Nat → Prop} {g g' : Nat → Nat} {s u s' u' : St} {p n hi hi' fC eA fC' eA' d a : Nat} (h : StX g s u p hi fC eA a) (ha : a < n) (hai : a < hi) (hh : hi ≤ hi') (hg : ∀ a, a < hi → g' a = g a) (C : CB X p n fC s s') (R : RB Y p n eA d u u') (hf : fC ≤ fC') (he : eA ≤ eA') (hX : ∀ id, 68 ≤ id → id ≤ 73 → ¬ X id a) (hX4 : ∀ w, w < 3 → ¬ X 74 (3 * a + w)) (hY : ∀ id, 216 ≤ id → id ≤ 223 → id ≠ 219 → id ≠ 220 → ¬ Y id (40 * p + a)) (hY2 : ∀ id w, id = 219 ∨ id = 220 → w < 3 → ¬ Y id (3 * (40 * p + a) + w)) : StX g' s' u' p hi' fC' eA' a := by
  have c : ∀ id, 68 ≤ id → id ≤ 73 → s'.1 id p a = s.1 id p a := fun id i1 i2 => C.qs id a (by omega) (by omega) ha (hX id i1 i2)
  have r : ∀ id, 216 ≤ id → id ≤ 223 → id ≠ 219 → id ≠ 220 → u'.1 id 0 (40 * p + a) = u.1 id 0 (40 * p + a) := fun id i1 i2 i3 i4 => R.qs id _ (by omega) i2 i3 i4 (by omega) (hY id i1 i2 i3 i4)
  have b : ∀ w, w < 3 → u'.1 220 0 (3 * (40 * p + a) + w) = u.1 220 0 (3 * (40 * p + a) + w) := fun w hw => R.qb 220 _ (Or.inr rfl) (Or.inl (by omega)) (hY2 220 w (Or.inr rfl) hw)
  have sc := h.sc.to ha C R hf he (fun id i1 i2 => hX id (by omega) (by omega)) (fun id i1 i2 i3 i4 => hY id (by omega) i2 i3 i4)
  have k := c 68 (by omega) (by omega)
  refine ⟨?_, ?_, fun w hw => (h.bd w hw).to ha hw hh hai hg C R (hX4 w hw) ⟨hY2 219 w (Or.inl rfl) hw, hY2 220 w (Or.inr rfl) hw⟩, ?_, ?_, ?_, by rw [k]; exact sc⟩
  · rw [k, r 216 (by omega) (by omega) (by omega) (by omega)]; exact h.kd
  · rw [c 73 (by omega) (by omega), r 217 (by omega) (by omega) (by omega) (by omega), hg a hai]; exact XR_to h.nx hh hg
  · rw [k, b 0 (by omega)]; exact h.b0
  · rw [k, b 1 (by omega)]; exact h.b1
  · rw [k, b 2 (by omega)]; exact h.b2
/-! a new statement -/
def adS (s : St) (p n : Nat) (K : Int32) : St := si (si (si (si (si (si s 68 p n K) 73 p n (-1)) 74 p (3 * n) (-2)) 74 p (3 * n + 1) (-2)) 74 p (3 * n + 2) (-2)) 64 p 0 (nI (n + 1))
theorem k_aS {s : St} {p n : Nat} {K : Int32} (hn : n < 40) (h : s.1 64 p 0 = nI n) : k_addStatement p K s = some (nI n, adS s p n K) := by
  unfold k_addStatement adS
  rw [bnd_d, h, gI hn (by decide), nI_clamp (by omega), gI hn (by decide)]
  rw [k_addStatement_21.eq_2, if_neg (by decide), show (3 : Int32) * nI n + 0 = nI (3 * n + 0) from m3 n 0, gI (by omega) (by decide), nI_clamp (by omega)]
  rw [k_addStatement_21.eq_2, if_neg (by decide), show (3 : Int32) * nI n + (0 + 1) = nI (3 * n + 1) from m3 n 1, gI (by omega) (by decide), nI_clamp (by omega)]
  rw [k_addStatement_21.eq_2, if_neg (by decide), show (3 : Int32) * nI n + (0 + 1 + 1) = nI (3 * n + 2) from m3 n 2, gI (by omega) (by decide), nI_clamp (by omega)]
  rw [k_addStatement_21.eq_2, if_pos (by decide), bnd_d, si_o (by decide), si_o (by decide), si_o (by decide), si_o (by decide), si_o (by decide), h, nI_1, bnd_d]
  rfl
def nwU (u : St) (p n : Nat) : St := si (si (si (si (si (si (si (si (si (si u 211 0 p (nI (n + 1))) 217 0 (40 * p + n) (-1)) 218 0 (40 * p + n) (-1)) 221 0 (40 * p + n) (-1)) 219 0 (3 * (40 * p + n)) (-1)) 220 0 (3 * (40 * p + n)) 0) 219 0 (3 * (40 * p + n) + 1) (-1)) 220 0 (3 * (40 * p + n) + 1) 0) 219 0 (3 * (40 * p + n) + 2) (-1)) 220 0 (3 * (40 * p + n) + 2) 0
def lkU (u : St) (p d o w : Nat) (la : Option Nat) (x : Int32) : St := match la with
  | some a => si u 217 0 (40 * p + a) x
  | none => if d = 0 then si u 214 0 p x else si u 219 0 (3 * (40 * p + o) + w) x
def OWN (p d n o w : Nat) (u : St) : Prop := (d = 0 ∧ u.1 233 0 0 = -1) ∨ (1 ≤ d ∧ o < n ∧ w < 3 ∧ u.1 233 0 d = nI (40 * p + o) ∧ u.1 234 0 d = nI w)
def LAS (p d n : Nat) (la : Option Nat) (u : St) : Prop := (la = none ∧ u.1 235 0 d = -1) ∨ ∃ a, la = some a ∧ a < n ∧ u.1 235 0 d = nI (40 * p + a)
def Yl (p d o w : Nat) (la : Option Nat) : Nat → Nat → Prop := fun id i => (id = 235 ∧ i = d) ∨ (∃ a, la = some a ∧ id = 217 ∧ i = 40 * p + a) ∨ (la = none ∧ d = 0 ∧ id = 214 ∧ i = p) ∨ (la = none ∧ d ≠ 0 ∧ id = 219 ∧ i = 3 * (40 * p + o) + w)
def LKV (p d o w : Nat) (la : Option Nat) (x : Int32) (u : St) : Prop := (∀ a, la = some a → u.1 217 0 (40 * p + a) = x) ∧ (la = none → d = 0 → u.1 214 0 p = x) ∧ (la = none → d ≠ 0 → u.1 219 0 (3 * (40 * p + o) + w) = x)
theorem r_nS {u : St} {p n d o w : Nat} {la : Option Nat} (hp : p < 12) (hn : n < 40) (hd : d ≤ 8) (h7 : u.1 227 0 0 = nI p) (h1 : u.1 211 0 p = nI n) (h6 : u.1 236 0 0 = nI d) (ho : OWN p d n o w u) (hl : LAS p d n la u) : r_newStatement u = some (nI (40 * p + n), si (lkU (nwU u p n) p d o w la (nI (40 * p + n))) 235 0 d (nI (40 * p + n))) := by
  have no : ∀ id, ¬ (id = 211 ∨ (217 ≤ id ∧ id ≤ 221)) → (nwU u p n).1 id = u.1 id := fun id q => by
    unfold nwU
    rw [si_id (by omega), si_id (by omega), si_id (by omega), si_id (by omega), si_id (by omega), si_id (by omega), si_id (by omega), si_id (by omega), si_id (by omega), si_id (by omega)]
  have lo : ∀ x id, ¬ (id = 217 ∨ id = 214 ∨ id = 219) → (lkU (nwU u p n) p d o w la x).1 id = (nwU u p n).1 id := fun x id q => by
    unfold lkU
    split
    · exact si_id (by omega)
    · split
      · exact si_id (by omega)
      · exact si_id (by omega)
  have h157 : r_newStatement_157 (nI (40 * p + n)) (lkU (nwU u p n) p d o w la (nI (40 * p + n))) = some (nI (40 * p + n), si (lkU (nwU u p n) p d o w la (nI (40 * p + n))) 235 0 d (nI (40 * p + n))) := by
    unfold r_newStatement_157
    rw [bnd_d, lo _ 236 (by omega), no 236 (by omega), h6, gI (by omega) (by decide), nI_clamp (by omega)]
  unfold r_newStatement
  rw [bnd_d, h7, bnd_d, gI hp (by decide), nI_clamp (by omega), h1, bnd_d, gI hp (by decide), nI_clamp (by omega), h1, gI hp (by decide), m40, nI_1, gI (by omega) (by decide), nI_clamp (by omega), gI (by omega) (by decide), gI (by omega) (by decide)]
  rw [r_newStatement_54.eq_2, if_neg (by decide), show (3 : Int32) * nI (40 * p + n) + 0 = nI (3 * (40 * p + n) + 0) from m3 _ 0, gI (by omega) (by decide), nI_clamp (by omega), grd_t ⟨ibN (by omega) (by decide), zo0⟩]
  rw [r_newStatement_54.eq_2, if_neg (by decide), show (3 : Int32) * nI (40 * p + n) + (0 + 1) = nI (3 * (40 * p + n) + 1) from m3 _ 1, gI (by omega) (by decide), nI_clamp (by omega), grd_t ⟨ibN (by omega) (by decide), zo0⟩]
  rw [r_newStatement_54.eq_2, if_neg (by decide), show (3 : Int32) * nI (40 * p + n) + (0 + 1 + 1) = nI (3 * (40 * p + n) + 2) from m3 _ 2, gI (by omega) (by decide), nI_clamp (by omega), grd_t ⟨ibN (by omega) (by decide), zo0⟩]
  rw [r_newStatement_54.eq_2, if_pos (by decide)]
  show (bnd ((nwU u p n).1 236 0 0) fun v10 => grd (ib v10 10) ((nwU u p n).1 235 0 v10.toNatClampNeg) fun v11 => bnd ((nwU u p n).1 236 0 0) fun v12 => grd (ib v12 10) ((nwU u p n).1 233 0 v12.toNatClampNeg) fun v13 => if v11 < 0 then (if 0 ≤ v13 then (bnd ((nwU u p n).1 236 0 0) fun v14 => grd (ib v14 10) ((nwU u p n).1 234 0 v14.toNatClampNeg) fun v15 => grd (ib (((3 : Int32) * v13) + v15) 1440) (si (nwU u p n) 219 0 (((3 : Int32) * v13) + v15).toNatClampNeg (nI (40 * p + n))) fun s16 => r_newStatement_157 (nI (40 * p + n)) s16) else (bnd ((nwU u p n).1 227 0 0) fun v19 => grd (ib v19 12) (si (nwU u p n) 214 0 v19.toNatClampNeg (nI (40 * p + n))) fun s20 => r_newStatement_157 (nI (40 * p + n)) s20)) else (grd (ib v11 480) (si (nwU u p n) 217 0 v11.toNatClampNeg (nI (40 * p + n))) fun s21 => r_newStatement_157 (nI (40 * p + n)) s21)) = _
  simp only [bnd_d]
  rw [no 236 (by omega), no 235 (by omega), no 233 (by omega), no 234 (by omega), no 227 (by omega), h6, h7, gI (by omega) (by decide), nI_clamp (by omega), gI (by omega) (by decide)]
  rcases hl with ⟨rfl, l1⟩ | ⟨a, rfl, a1, l1⟩
  · rw [l1, if_pos (by decide)]
    rcases ho with ⟨rfl, o1⟩ | ⟨d1, o1, w1, o2, o3⟩
    · rw [o1, if_neg (by decide), gI hp (by decide), nI_clamp (by omega)]
      exact h157
    · rw [o2, if_pos (nI_pos' (by omega)), gI (by omega) (by decide), o3, m3, gI (by omega) (by decide), nI_clamp (by omega)]
      have : lkU (nwU u p n) p d o w none (nI (40 * p + n)) = si (nwU u p n) 219 0 (3 * (40 * p + o) + w) (nI (40 * p + n)) := by
        show (if d = 0 then _ else _) = _
        rw [if_neg (by omega)]
      rw [this] at h157 ⊢
      exact h157
  · rw [l1, if_neg (nI_pos (by omega)), gI (by omega) (by decide), nI_clamp (by omega)]
    exact h157
