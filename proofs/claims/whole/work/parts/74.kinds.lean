/-! texts on both sides: a statement begins -/
def rdD (x3 : Int32) (v12 : Int32) (s10 : St) : Option (St) := if v12 = 0 then (r_readStatement_246 x3 s10) else if v12 = 1 then (r_readStatement_254 x3 s10) else if v12 = 3 then (r_readStatement_254 x3 s10) else if v12 = 4 then (cal (r_takeBox x3 s10) fun s25 => bnd (s25.1 208 0 0) fun v27 => if v27 = 0 then (cal (r_takeWord (5 : Int32) s25) fun s35 => r_readStatement_309 x3 s35) else (r_readStatement_309 x3 s25)) else if v12 = 6 then (cal2 (r_exp  s10) fun v38 s37 => grd (ib x3 480) (si s37 218 0 x3.toNatClampNeg v38) fun s39 => bnd (s39.1 208 0 0) fun v40 => if v40 = 0 then (cal (r_takeWord (7 : Int32) s39) fun s46 => r_readStatement_362 x3 s46) else (r_readStatement_362 x3 s39)) else if v12 = 8 then (r_readStatement_246 x3 s10) else if v12 = 9 then (cal2 (r_exp  s10) fun v49 s48 => grd (ib x3 480) (si s48 218 0 x3.toNatClampNeg v49) fun s50 => bnd (s50.1 208 0 0) fun v51 => if v51 = 0 then (cal (r_takeWord (5 : Int32) s50) fun s57 => r_readStatement_405 x3 s57) else (r_readStatement_405 x3 s50)) else if v12 = 18 then (cal (r_takeNumber x3 (999999999 : Int64) s10) fun s59 => cal (r_openBody x3 (0 : Int32) s59) fun s61 => some s61) else if v12 = 30 then (cal (r_take (61 : Int32) s10) fun s63 => cal (r_readEnd x3 s63) fun s65 => some s65) else (r_readStatement_446 x3 s10)
def kdL (fS : Fx3) (fT : Fx1) (fB : Fx3) (fM : Fx2) (v9 : Int32) (s8 : St) : Option (Int32 × St) := (cal2 (k_isLocal v9 s8) fun v77 s76 => if v77 = 0 then (k_statement_86 fS fT fB fM s76) else (cal2 (k_is (61 : Int32) s76) fun v79 s78 => if v79 = 0 then (k_statement_86 fS fT fB fM s78) else (cal2 (k_isExpOf v9 s78) fun v81 s80 => if v81 = 0 then (k_statement_86 fS fT fB fM s80) else (cal2 (k_is (59 : Int32) s80) fun v83 s82 => if v83 = 0 then (k_statement_86 fS fT fB fM s82) else (some ((1 : Int32), s82))))))
def kdD (fS : Fx3) (fT : Fx1) (fB : Fx3) (fM : Fx2) (a0 : Int32) (v2 : Int32) (v9 : Int32) (s11 : St) : Option (Int32 × St) := if v2 = 5 then (k_statement_188 fS fT fB fM v9 s11) else if v2 = 6 then (cal2 (k_isCondition v9 s11) fun v17 s16 => if v17 = 0 then (k_statement_242 fS fT fB fM s16) else (cal2 (fB v9 (0 : Int32) a0 s16) fun v19 s18 => if v19 = 0 then (k_statement_242 fS fT fB fM s18) else (cal2 (fM v9 a0 s18) fun v21 s20 => if v21 = 0 then (k_statement_242 fS fT fB fM s20) else (some ((1 : Int32), s20))))) else if v2 = 8 then (cal2 (k_isCondition v9 s11) fun v23 s22 => if v23 = 0 then (k_statement_266 fS fT fB fM s22) else (cal2 (fB v9 (0 : Int32) a0 s22) fun v25 s24 => if v25 = 0 then (k_statement_266 fS fT fB fM s24) else (some ((1 : Int32), s24)))) else if v2 = 9 then (cal2 (k_isNumberOf v9 (3 : Int32) (8 : Int32) s11) fun v27 s26 => if v27 = 0 then (k_statement_309 fS fT fB fM s26) else (cal2 (k_is (10 : Int32) s26) fun v29 s28 => if v29 = 0 then (k_statement_309 fS fT fB fM s28) else (cal2 (k_isLocal v9 s28) fun v31 s30 => if v31 = 0 then (k_statement_309 fS fT fB fM s30) else (cal2 (k_is (59 : Int32) s30) fun v33 s32 => if v33 = 0 then (k_statement_309 fS fT fB fM s32) else (some ((1 : Int32), s32)))))) else if v2 = 11 then (cal2 (k_isExpOf v9 s11) fun v35 s34 => if v35 = 0 then (k_statement_352 fS fT fB fM s34) else (cal2 (k_is (12 : Int32) s34) fun v37 s36 => if v37 = 0 then (k_statement_352 fS fT fB fM s36) else (cal2 (k_isNumberOf v9 (3 : Int32) (8 : Int32) s36) fun v39 s38 => if v39 = 0 then (k_statement_352 fS fT fB fM s38) else (cal2 (k_is (59 : Int32) s38) fun v41 s40 => if v41 = 0 then (k_statement_352 fS fT fB fM s40) else (some ((1 : Int32), s40)))))) else if v2 = 13 then (k_statement_188 fS fT fB fM v9 s11) else if v2 = 14 then (cal2 (k_isExpOf v9 s11) fun v43 s42 => if v43 = 0 then (k_statement_395 fS fT fB fM s42) else (cal2 (k_is (10 : Int32) s42) fun v45 s44 => if v45 = 0 then (k_statement_395 fS fT fB fM s44) else (cal2 (k_isNumberOf v9 (4 : Int32) (6 : Int32) s44) fun v47 s46 => if v47 = 0 then (k_statement_395 fS fT fB fM s46) else (cal2 (k_is (59 : Int32) s46) fun v49 s48 => if v49 = 0 then (k_statement_395 fS fT fB fM s48) else (some ((1 : Int32), s48)))))) else if v2 = 18 then (cal2 (fB v9 (0 : Int32) a0 s11) fun v51 s50 => if v51 = 0 then (k_statement_438 fS fT fB fM s50) else (cal2 (k_is (19 : Int32) s50) fun v53 s52 => if v53 = 0 then (k_statement_438 fS fT fB fM s52) else (cal2 (k_isLocal v9 s52) fun v55 s54 => if v55 = 0 then (k_statement_438 fS fT fB fM s54) else (cal2 (fB v9 (1 : Int32) a0 s54) fun v57 s56 => if v57 = 0 then (k_statement_438 fS fT fB fM s56) else (some ((1 : Int32), s56)))))) else if v2 = 20 then (cal2 (fB v9 (0 : Int32) a0 s11) fun v59 s58 => if v59 = 0 then (k_statement_492 fS fT fB fM s58) else (cal2 (k_is (21 : Int32) s58) fun v61 s60 => if v61 = 0 then (k_statement_492 fS fT fB fM s60) else (cal2 (fB v9 (1 : Int32) a0 s60) fun v63 s62 => if v63 = 0 then (k_statement_492 fS fT fB fM s62) else (cal2 (k_is (22 : Int32) s62) fun v65 s64 => if v65 = 0 then (k_statement_492 fS fT fB fM s64) else (cal2 (fB v9 (2 : Int32) a0 s64) fun v67 s66 => if v67 = 0 then (k_statement_492 fS fT fB fM s66) else (some ((1 : Int32), s66))))))) else if v2 = 23 then (cal2 (k_isNumberOf v9 (4 : Int32) (1000000000 : Int32) s11) fun v69 s68 => if v69 = 0 then (k_statement_528 fS fT fB fM s68) else (cal2 (fB v9 (0 : Int32) a0 s68) fun v71 s70 => if v71 = 0 then (k_statement_528 fS fT fB fM s70) else (cal2 (fM v9 a0 s70) fun v73 s72 => if v73 = 0 then (k_statement_528 fS fT fB fM s72) else (some ((1 : Int32), s72))))) else (k_statement_530 fS fT fB fM a0 v9 s11)
theorem beg_w {w : Nat} (hw : w < 19) (s u : St) : (r_begins (nI w) u = some (1, u) ∧ k_beginsStatement (nI (5 + w)) s = some (1, s) ∧ (nI w, nI (5 + w)) ∈ KM) ∨ (r_begins (nI w) u = some (0, u) ∧ k_beginsStatement (nI (5 + w)) s = some (0, s)) := by
  have : w = 0 ∨ w = 1 ∨ w = 2 ∨ w = 3 ∨ w = 4 ∨ w = 5 ∨ w = 6 ∨ w = 7 ∨ w = 8 ∨ w = 9 ∨ w = 10 ∨ w = 11 ∨ w = 12 ∨ w = 13 ∨ w = 14 ∨ w = 15 ∨ w = 16 ∨ w = 17 ∨ w = 18 := by omega
  rcases this with rfl | rfl | rfl | rfl | rfl | rfl | rfl | rfl | rfl | rfl | rfl | rfl | rfl | rfl | rfl | rfl | rfl | rfl | rfl <;> first | exact Or.inl ⟨rfl, rfl, by decide⟩ | exact Or.inr ⟨rfl, rfl⟩
theorem tv_beg {K V P : Int32} {u : St} (s : St) (h : TkV K V P u) : (K = 2 ∧ k_beginsStatement K s = some (1, s)) ∨ (¬ K = 2 ∧ ∃ R, (R, K) ∈ KM ∧ u.1 203 0 0 - 10 = R ∧ r_begins R u = some (1, u) ∧ k_beginsStatement K s = some (1, s)) ∨ (¬ K = 2 ∧ r_begins (u.1 203 0 0 - 10) u = some (0, u) ∧ k_beginsStatement K s = some (0, s)) := by
  rcases h.2 with ⟨rfl, b⟩ | ⟨rfl, b | ⟨b, -⟩⟩ | ⟨rfl, _, _, _, b, _⟩ | ⟨rfl, _, _, _, b, _⟩ | ⟨rfl, _, _, _, b, _⟩ | ⟨w, w1, rfl, b⟩ | ⟨g, g1, rfl, b, d⟩
  · rw [b]; exact Or.inr (Or.inr ⟨by decide, rfl, rfl⟩)
  · rw [b]; exact Or.inr (Or.inr ⟨by decide, rfl, rfl⟩)
  · rw [b]; exact Or.inr (Or.inr ⟨by decide, rfl, rfl⟩)
  · exact Or.inl ⟨rfl, rfl⟩
  · rw [b]; exact Or.inr (Or.inr ⟨by decide, rfl, rfl⟩)
  · rw [b]; exact Or.inr (Or.inr ⟨by decide, rfl, rfl⟩)
  · have n2 : ¬ nI (5 + w) = 2 := fun q => by have := (nI_eq (b := 2) (by omega) (by decide)).mp q; omega
    rw [b, show nI (10 + w) - 10 = nI w by rw [show (10 : Int32) = nI 10 from rfl, nI_sub (by omega), Nat.add_sub_cancel_left]]
    rcases beg_w w1 s u with ⟨q1, q2, q3⟩ | ⟨q1, q2⟩
    · exact Or.inr (Or.inl ⟨n2, _, q3, rfl, q1, q2⟩)
    · exact Or.inr (Or.inr ⟨n2, q1, q2⟩)
  · have l := isG_lt g1
    have n2 : ¬ nI g = 2 := fun q => by have := (nI_eq (b := 2) (by omega) (by decide)).mp q; omega
    rw [b]
    refine Or.inr (Or.inr ⟨n2, rfl, ?_⟩)
    have no : ∀ q : Nat, q < 24 → ¬ nI g = nI q := fun q hq e => by have := (nI_eq (by omega) (by omega)).mp e; omega
    unfold k_beginsStatement
    rw [if_neg (show ¬ nI g = 2 from no 2 (by omega)), if_neg (show ¬ nI g = 5 from no 5 (by omega)), if_neg (show ¬ nI g = 6 from no 6 (by omega)), if_neg (show ¬ nI g = 8 from no 8 (by omega)), if_neg (show ¬ nI g = 9 from no 9 (by omega)), if_neg (show ¬ nI g = 11 from no 11 (by omega)), if_neg (show ¬ nI g = 13 from no 13 (by omega)), if_neg (show ¬ nI g = 14 from no 14 (by omega)), if_neg (show ¬ nI g = 15 from no 15 (by omega)), if_neg (show ¬ nI g = 16 from no 16 (by omega)), if_neg (show ¬ nI g = 17 from no 17 (by omega)), if_neg (show ¬ nI g = 18 from no 18 (by omega)), if_neg (show ¬ nI g = 20 from no 20 (by omega)), if_neg (show ¬ nI g = 23 from no 23 (by omega))]
theorem adS_cb {X : Nat → Nat → Prop} {s : St} {p n f : Nat} {K : Int32} (hn : n < 40) : CB X p n f s (adS s p n K) := by
  unfold adS
  refine CB.si (CB.si (CB.si (CB.si (CB.si (CB.si (CB.refl s) ?_ trivial) ?_ ?_) ?_ ?_) ?_ ?_) ?_ ?_) ?_ trivial
  · exact Or.inr (Or.inl ⟨by omega, by omega, Or.inl (Nat.le_refl _)⟩)
  · exact Or.inr (Or.inl ⟨by omega, by omega, Or.inl (Nat.le_refl _)⟩)
  · exact (Or.inl (by decide) : okx (-1))
  · exact Or.inr (Or.inr ⟨rfl, Or.inl ⟨by omega, by omega⟩⟩)
  · exact (Or.inl (by decide) : okx (-2))
  · exact Or.inr (Or.inr ⟨rfl, Or.inl ⟨by omega, by omega⟩⟩)
  · exact (Or.inl (by decide) : okx (-2))
  · exact Or.inr (Or.inr ⟨rfl, Or.inl ⟨by omega, by omega⟩⟩)
  · exact (Or.inl (by decide) : okx (-2))
  · exact Or.inl (by omega)
theorem nw_id {u : St} {p n id : Nat} (q : ¬ (id = 211 ∨ (217 ≤ id ∧ id ≤ 221))) : (nwU u p n).1 id = u.1 id := by
  unfold nwU
  rw [si_id (by omega), si_id (by omega), si_id (by omega), si_id (by omega), si_id (by omega), si_id (by omega), si_id (by omega), si_id (by omega), si_id (by omega), si_id (by omega)]
theorem nw_rb {X : Nat → Nat → Prop} {u : St} {p n e d : Nat} (hn : n < 40) : RB X p n e d u (nwU u p n) := by
  unfold nwU
  have a : ∀ v id x, id = 217 ∨ id = 218 ∨ id = 221 → RB X p n e d u v → RB X p n e d u (si v id 0 (40 * p + n) x) := fun v id x hi h => h.si (Or.inr (Or.inr (Or.inr (Or.inl ⟨by omega, by omega, by omega, by omega, Or.inl ⟨by omega, by omega⟩⟩))))
  have b : ∀ v id x j, id = 219 ∨ id = 220 → j < 3 → RB X p n e d u v → RB X p n e d u (si v id 0 (3 * (40 * p + n) + j) x) := fun v id x j hi hj h => h.si (Or.inr (Or.inr (Or.inr (Or.inr (Or.inl ⟨hi, Or.inl ⟨by omega, by omega⟩⟩)))))
  exact b _ 220 _ 2 (by omega) (by omega) (b _ 219 _ 2 (by omega) (by omega) (b _ 220 _ 1 (by omega) (by omega) (b _ 219 _ 1 (by omega) (by omega) (b _ 220 _ 0 (by omega) (by omega) (b _ 219 _ 0 (by omega) (by omega) (a _ 221 _ (by omega) (a _ 218 _ (by omega) (a _ 217 _ (by omega) ((RB.refl u).si (Or.inr (Or.inl ⟨by omega, by omega, by omega, rfl⟩)))))))))))
theorem nw_v {u : St} {p n : Nat} : (nwU u p n).1 211 0 p = nI (n + 1) ∧ (nwU u p n).1 217 0 (40 * p + n) = -1 ∧ ∀ j, j < 3 → (nwU u p n).1 219 0 (3 * (40 * p + n) + j) = -1 ∧ (nwU u p n).1 220 0 (3 * (40 * p + n) + j) = 0 := by
  unfold nwU
  refine ⟨?_, ?_, fun j hj => ?_⟩
  · rw [si_o (by decide), si_o (by decide), si_o (by decide), si_o (by decide), si_o (by decide), si_o (by decide), si_o (by decide), si_o (by decide), si_o (by decide), si_eq]
  · rw [si_o (by decide), si_o (by decide), si_o (by decide), si_o (by decide), si_o (by decide), si_o (by decide), si_o (by decide), si_o (by decide), si_eq]
  · have : j = 0 ∨ j = 1 ∨ j = 2 := by omega
    rcases this with rfl | rfl | rfl
    · exact ⟨by rw [si_o (by decide), si_q (by omega), si_o (by decide), si_q (by omega), si_o (by decide)]; exact si_eq, by rw [si_q (by omega), si_o (by decide), si_q (by omega), si_o (by decide)]; exact si_eq⟩
    · exact ⟨by rw [si_o (by decide), si_q (by omega), si_o (by decide), si_eq], by rw [si_q (by omega), si_o (by decide), si_eq]⟩
    · exact ⟨by rw [si_o (by decide), si_eq], by rw [si_eq]⟩
theorem lk_id {u : St} {p d o w id : Nat} {la : Option Nat} {x : Int32} (q : ¬ (id = 217 ∨ id = 214 ∨ id = 219)) : (lkU u p d o w la x).1 id = u.1 id := by
  unfold lkU
  split
  · exact si_id (by omega)
  · split
    · exact si_id (by omega)
    · exact si_id (by omega)
theorem lk_2 {u : St} {p d o w : Nat} {la : Option Nat} {x : Int32} : (lkU u p d o w la x).2 = u.2 := by
  unfold lkU
  split
  · rfl
  · split <;> rfl
theorem lk_rb {u v : St} {p n e d o w : Nat} {la : Option Nat} {x : Int32} (h : RB (Yl p d o w la) p n e d u v) : RB (Yl p d o w la) p n e d u (lkU v p d o w la x) := by
  unfold lkU
  split
  · exact h.si (Or.inr (Or.inr (Or.inr (Or.inl ⟨by omega, by omega, by omega, by omega, Or.inr (Or.inr (Or.inl ⟨_, rfl, rfl, rfl⟩))⟩))))
  · split
    · rename_i hd
      exact h.si (Or.inr (Or.inr (Or.inl ⟨rfl, rfl, Or.inr (Or.inr (Or.inl ⟨rfl, hd, rfl, rfl⟩))⟩)))
    · rename_i hd
      exact h.si (Or.inr (Or.inr (Or.inr (Or.inr (Or.inl ⟨Or.inl rfl, Or.inr (Or.inr (Or.inr (Or.inr ⟨rfl, hd, rfl, rfl⟩)))⟩)))))
theorem lk_v {u : St} {p d o w : Nat} {la : Option Nat} {x : Int32} : LKV p d o w la x (lkU u p d o w la x) := by
  refine ⟨fun a h => ?_, fun h hd => ?_, fun h hd => ?_⟩
  · subst h; exact si_eq
  · subst h; show (if d = 0 then _ else _ : St).1 214 0 p = x; rw [if_pos hd]; exact si_eq
  · subst h; show (if d = 0 then _ else _ : St).1 219 0 _ = x; rw [if_neg hd]; exact si_eq
theorem lk_q {u : St} {p n d o w : Nat} {la : Option Nat} {x : Int32} (hl : ∀ a, la = some a → a < n) (ho : d ≠ 0 → o < n ∧ w < 3) : (lkU u p d o w la x).1 217 0 (40 * p + n) = u.1 217 0 (40 * p + n) ∧ ∀ j, (lkU u p d o w la x).1 219 0 (3 * (40 * p + n) + j) = u.1 219 0 (3 * (40 * p + n) + j) := by
  cases la with
  | some a =>
    have := hl a rfl
    exact ⟨si_q (by omega), fun j => si_o (by decide)⟩
  | none =>
    show (if d = 0 then _ else _ : St).1 217 0 _ = _ ∧ ∀ j, (if d = 0 then _ else _ : St).1 219 0 _ = _
    by_cases q : d = 0
    · rw [if_pos q]; exact ⟨si_o (by decide), fun j => si_o (by decide)⟩
    · have := ho q
      rw [if_neg q]; exact ⟨si_o (by decide), fun j => si_q (by omega)⟩
/-- both sides have begun a statement: u2 behind its first token -/
def BG (sT : St) (z cnt : Nat) (E : Nat → Nat) (p : Nat) (s u : St) (k n un f e d o w : Nat) (la : Option Nat) (R K : Int32) (u2 : St) : Prop := (n < 40) ∧ (¬ KK sT k = 0) ∧ (K = KK sT k) ∧ ((R, K) ∈ KM) ∧ (BS sT z cnt E p (si (adS s p n K) 50 0 0 (nI (k + 1))) u2 (k + 1) (n + 1) un f e d) ∧ (RB (Yl p d o w la) p n e d u u2) ∧ (u2.1 216 0 (40 * p + n) = R) ∧ (u2.1 217 0 (40 * p + n) = -1) ∧ (∀ j, j < 3 → u2.1 219 0 (3 * (40 * p + n) + j) = -1 ∧ u2.1 220 0 (3 * (40 * p + n) + j) = 0) ∧ (K = 2 → u2.1 221 0 (40 * p + n) = u.1 205 0 0) ∧ (LKV p d o w la (nI (40 * p + n)) u2) ∧ (u2.1 235 0 d = nI (40 * p + n)) ∧ (r_readStatement u = rdD (nI (40 * p + n)) R u2)
theorem BG.hn {sT : St} {z cnt : Nat} {E : Nat → Nat} {p : Nat} {s u : St} {k n un f e d o w : Nat} {la : Option Nat} {R K : Int32} {u2 : St} (h : BG sT z cnt E p s u k n un f e d o w la R K u2) : n < 40 := h.1
theorem BG.k0 {sT : St} {z cnt : Nat} {E : Nat → Nat} {p : Nat} {s u : St} {k n un f e d o w : Nat} {la : Option Nat} {R K : Int32} {u2 : St} (h : BG sT z cnt E p s u k n un f e d o w la R K u2) : ¬ KK sT k = 0 := h.2.1
theorem BG.kk {sT : St} {z cnt : Nat} {E : Nat → Nat} {p : Nat} {s u : St} {k n un f e d o w : Nat} {la : Option Nat} {R K : Int32} {u2 : St} (h : BG sT z cnt E p s u k n un f e d o w la R K u2) : K = KK sT k := h.2.2.1
theorem BG.km {sT : St} {z cnt : Nat} {E : Nat → Nat} {p : Nat} {s u : St} {k n un f e d o w : Nat} {la : Option Nat} {R K : Int32} {u2 : St} (h : BG sT z cnt E p s u k n un f e d o w la R K u2) : (R, K) ∈ KM := h.2.2.2.1
theorem BG.bs {sT : St} {z cnt : Nat} {E : Nat → Nat} {p : Nat} {s u : St} {k n un f e d o w : Nat} {la : Option Nat} {R K : Int32} {u2 : St} (h : BG sT z cnt E p s u k n un f e d o w la R K u2) : BS sT z cnt E p (si (adS s p n K) 50 0 0 (nI (k + 1))) u2 (k + 1) (n + 1) un f e d := h.2.2.2.2.1
theorem BG.rb {sT : St} {z cnt : Nat} {E : Nat → Nat} {p : Nat} {s u : St} {k n un f e d o w : Nat} {la : Option Nat} {R K : Int32} {u2 : St} (h : BG sT z cnt E p s u k n un f e d o w la R K u2) : RB (Yl p d o w la) p n e d u u2 := h.2.2.2.2.2.1
theorem BG.v6 {sT : St} {z cnt : Nat} {E : Nat → Nat} {p : Nat} {s u : St} {k n un f e d o w : Nat} {la : Option Nat} {R K : Int32} {u2 : St} (h : BG sT z cnt E p s u k n un f e d o w la R K u2) : u2.1 216 0 (40 * p + n) = R := h.2.2.2.2.2.2.1
theorem BG.v7 {sT : St} {z cnt : Nat} {E : Nat → Nat} {p : Nat} {s u : St} {k n un f e d o w : Nat} {la : Option Nat} {R K : Int32} {u2 : St} (h : BG sT z cnt E p s u k n un f e d o w la R K u2) : u2.1 217 0 (40 * p + n) = -1 := h.2.2.2.2.2.2.2.1
theorem BG.vb {sT : St} {z cnt : Nat} {E : Nat → Nat} {p : Nat} {s u : St} {k n un f e d o w : Nat} {la : Option Nat} {R K : Int32} {u2 : St} (h : BG sT z cnt E p s u k n un f e d o w la R K u2) : ∀ j, j < 3 → u2.1 219 0 (3 * (40 * p + n) + j) = -1 ∧ u2.1 220 0 (3 * (40 * p + n) + j) = 0 := h.2.2.2.2.2.2.2.2.1
theorem BG.vl {sT : St} {z cnt : Nat} {E : Nat → Nat} {p : Nat} {s u : St} {k n un f e d o w : Nat} {la : Option Nat} {R K : Int32} {u2 : St} (h : BG sT z cnt E p s u k n un f e d o w la R K u2) : K = 2 → u2.1 221 0 (40 * p + n) = u.1 205 0 0 := h.2.2.2.2.2.2.2.2.2.1
theorem BG.lk {sT : St} {z cnt : Nat} {E : Nat → Nat} {p : Nat} {s u : St} {k n un f e d o w : Nat} {la : Option Nat} {R K : Int32} {u2 : St} (h : BG sT z cnt E p s u k n un f e d o w la R K u2) : LKV p d o w la (nI (40 * p + n)) u2 := h.2.2.2.2.2.2.2.2.2.2.1
theorem BG.v5 {sT : St} {z cnt : Nat} {E : Nat → Nat} {p : Nat} {s u : St} {k n un f e d o w : Nat} {la : Option Nat} {R K : Int32} {u2 : St} (h : BG sT z cnt E p s u k n un f e d o w la R K u2) : u2.1 235 0 d = nI (40 * p + n) := h.2.2.2.2.2.2.2.2.2.2.2.1
theorem BG.rr {sT : St} {z cnt : Nat} {E : Nat → Nat} {p : Nat} {s u : St} {k n un f e d o w : Nat} {la : Option Nat} {R K : Int32} {u2 : St} (h : BG sT z cnt E p s u k n un f e d o w la R K u2) : r_readStatement u = rdD (nI (40 * p + n)) R u2 := h.2.2.2.2.2.2.2.2.2.2.2.2
theorem st_beg {sT s u : St} {z cnt p k n un f e d o w : Nat} {E : Nat → Nat} {la : Option Nat} (fS : Fx3) (fT : Fx1) (fB : Fx3) (fM : Fx2) (X : CX sT z cnt E) (hp : p < 12) (h : BS sT z cnt E p s u k n un f e d) (ho : OWN p d n o w u) (hl : LAS p d n la u) :
    (k_statement fS fT fB fM (nI d) s = some (0, s) ∧ r_readStatement u = some (misU u)) ∨
    ∃ R K u2, BG sT z cnt E p s u k n un f e d o w la R K u2 ∧ k_statement fS fT fB fM (nI d) s = if K = 2 then kdL fS fT fB fM (nI n) (adS s p n K) else kdD fS fT fB fM (nI d) K (nI n) (si (adS s p n K) 50 0 0 (nI (k + 1))) := by
  have c8 := X.c8; have kl := h.at.kl
  have n4 := h.n4
  have hcls : k_statement fS fT fB fM (nI d) s = if 40 ≤ n then some (0, s) else (cal2 (k_beginsStatement (KK sT k) s) fun v6 s5 => if v6 = 0 then (some ((0 : Int32), s5)) else (grd (ib (s5.1 49 0 0) 13) (s5.1 49 0 0).toNatClampNeg fun p7 => cal2 (k_addStatement p7 (KK sT k) s5) fun v9 s8 => if KK sT k = (2 : Int32) then kdL fS fT fB fM v9 s8 else (bnd (s8.1 50 0 0) fun v10 => bnd (si s8 50 0 0 (v10 + (1 : Int32))) fun s11 => kdD fS fT fB fM (nI d) (KK sT k) v9 s11))) := by
    unfold k_statement kdL kdD
    rw [bnd_d, h.at.at5, gI (by omega) (by decide), nI_clamp (by omega), h.at.t6, h.pp, gI (by omega) (by decide), nI_clamp (by omega), bnd_d, h.n1]
    by_cases q : 40 ≤ n
    · rw [if_pos (show (40 : Int32) ≤ nI n from nI_le (a := 40) q (by omega)), if_pos q]
    · rw [if_neg (show ¬ (40 : Int32) ≤ nI n from nI_ge (b := 40) (by omega) (by decide)), if_neg q]; rfl
  have r38 : r_readStatement_38 u = some (misU u) := by unfold r_readStatement_38; rw [r_mis h.bd, cal_s]
  have r24 : ∀ x1 x2, r_readStatement_24 x1 x2 u = if n = 40 then some (misU u) else (cal2 (r_newStatement u) fun v7 s6 => if x1 = 0 then (r_readStatement_63 x1 v7 x2 v7 s6) else (r_readStatement_63 x1 v7 (30 : Int32) v7 s6)) := fun x1 x2 => by
    unfold r_readStatement_24
    rw [bnd_d, h.rd, gI hp (by decide), nI_clamp (by omega), h.n2]
    by_cases q : n = 40
    · rw [if_pos (show nI n = 40 by rw [q]; rfl), if_pos q]; exact r38
    · rw [if_neg (show ¬ nI n = 40 from fun e => q ((nI_eq (b := 40) (by omega) (by decide)).mp e)), if_neg q]
  -- a statement begins here
  have go : ∀ R K L, n < 40 → K = KK sT k → (R, K) ∈ KM → ¬ K = 0 → (K = 2 → L = u.1 205 0 0) → (r_readStatement u = cal (r_next (si (si (si (lkU (nwU u p n) p d o w la (nI (40 * p + n))) 235 0 d (nI (40 * p + n))) 216 0 (40 * p + n) R) 221 0 (40 * p + n) L)) (fun s10 => grd (ib (nI (40 * p + n)) 480) (s10.1 216 0 (nI (40 * p + n)).toNatClampNeg) fun v12 => rdD (nI (40 * p + n)) v12 s10)) → ∃ u2, BG sT z cnt E p s u k n un f e d o w la R K u2 := fun R K L hn kk km k0 hL hr => by
    generalize hW : si (si (si (lkU (nwU u p n) p d o w la (nI (40 * p + n))) 235 0 d (nI (40 * p + n))) 216 0 (40 * p + n) R) 221 0 (40 * p + n) L = W at hr
    have hd8 := h.d8
    have Wo : ∀ id, ¬ (id = 211 ∨ id = 214 ∨ (216 ≤ id ∧ id ≤ 221) ∨ id = 235) → W.1 id = u.1 id := fun id q => by rw [← hW, si_id (by omega), si_id (by omega), si_id (by omega), lk_id (by omega), nw_id (by omega)]
    have W2 : W.2 = u.2 := by rw [← hW]; show (lkU _ _ _ _ _ _ _).2 = _; rw [lk_2]; rfl
    have W211 : W.1 211 0 p = nI (n + 1) := by rw [← hW, si_o (by decide), si_o (by decide), si_o (by decide), lk_id (by decide)]; exact nw_v.1
    have aS : ∀ id, ¬ (id = 64 ∨ id = 68 ∨ id = 73 ∨ id = 74) → (adS s p n K).1 id = s.1 id := fun id q => by unfold adS; rw [si_id (by omega), si_id (by omega), si_id (by omega), si_id (by omega), si_id (by omega), si_id (by omega)]
    have hb : BS sT z cnt E p (adS s p n K) W k (n + 1) un f e d := by
      refine ⟨h.at.to (by rw [aS 50 (by decide)]) (fun id a b => aS id (by omega)) (fun id a b => Wo id (by omega)) (by rw [W2]), by rw [aS 49 (by decide)]; exact h.pp, by rw [Wo 227 (by omega)]; exact h.rd, ?_, W211, by omega, by rw [aS 65 (by decide)]; exact h.u1, by rw [Wo 212 (by omega)]; exact h.u2, h.u6, by rw [aS 66 (by decide), Wo 213 (by omega)]; exact h.dp, by rw [Wo 208 (by omega)]; exact h.bd, by rw [aS 67 (by decide)]; exact h.cc, h.ff, by rw [Wo 215 (by omega)]; exact h.ac, h.ee, by rw [Wo 236 (by omega)]; exact h.wi, h.d8⟩
      unfold adS; exact si_eq
    obtain ⟨u2, q1, q2, q3⟩ := hb.nx X (by rw [← kk]; exact k0)
    have lq := lk_q (u := nwU u p n) (p := p) (n := n) (d := d) (o := o) (w := w) (la := la) (x := nI (40 * p + n)) (fun a ha => by rcases hl with ⟨l1, _⟩ | ⟨b, l1, l2, _⟩; (· rw [ha] at l1; cases l1); (· rw [ha] at l1; cases l1; exact l2)) (fun hd => by rcases ho with ⟨q, _⟩ | ⟨_, q1, q2, _⟩; (· exact absurd q hd); (· exact ⟨q1, q2⟩))
    have Wid : ∀ id, ¬ (id = 216 ∨ id = 221 ∨ id = 235) → W.1 id = (lkU (nwU u p n) p d o w la (nI (40 * p + n))).1 id := fun id q => by rw [← hW, si_id (by omega), si_id (by omega), si_id (by omega)]
    have h216 : u2.1 216 0 (40 * p + n) = R := by rw [q2.1 216 (by omega), ← hW, si_o (by decide), si_eq]
    refine ⟨u2, hn, by rw [← kk]; exact k0, kk, km, q3, ?_, h216, ?_, fun j hj => ⟨?_, ?_⟩, fun q => ?_, ?_, ?_, ?_⟩
    · refine RB.fx ?_ q2
      rw [← hW]
      refine RB.si (RB.si (RB.si (lk_rb (nw_rb hn)) (Or.inr (Or.inr (Or.inr (Or.inr (Or.inr (Or.inr (Or.inl ⟨by omega, by omega, Or.inr (Or.inl ⟨rfl, rfl⟩)⟩)))))))) (Or.inr (Or.inr (Or.inr (Or.inl ⟨by omega, by omega, by omega, by omega, Or.inl ⟨by omega, by omega⟩⟩))))) (Or.inr (Or.inr (Or.inr (Or.inl ⟨by omega, by omega, by omega, by omega, Or.inl ⟨by omega, by omega⟩⟩))))
    · rw [q2.1 217 (by omega), Wid 217 (by omega), lq.1]; exact nw_v.2.1
    · rw [q2.1 219 (by omega), Wid 219 (by omega), lq.2]; exact (nw_v.2.2 j hj).1
    · rw [q2.1 220 (by omega), Wid 220 (by omega), lk_id (by decide)]; exact (nw_v.2.2 j hj).2
    · rw [q2.1 221 (by omega), ← hW, si_eq]; exact hL q
    · have lv := lk_v (u := nwU u p n) (p := p) (d := d) (o := o) (w := w) (la := la) (x := nI (40 * p + n))
      unfold LKV at *
      rw [q2.1 217 (by omega), q2.1 214 (by omega), q2.1 219 (by omega), Wid 217 (by omega), Wid 214 (by omega), Wid 219 (by omega)]; exact lv
    · rw [q2.1 235 (by omega), ← hW, si_o (by decide), si_o (by decide), si_eq]
    · rw [hr, q1, cal_s, gI (by omega) (by decide), nI_clamp (by omega), h216]
  have r63 : ∀ x1 R u', n < 40 → u' = si (lkU (nwU u p n) p d o w la (nI (40 * p + n))) 235 0 d (nI (40 * p + n)) → r_readStatement_63 x1 (nI (40 * p + n)) R (nI (40 * p + n)) u' = cal (r_next (si (si u' 216 0 (40 * p + n) R) 221 0 (40 * p + n) (if x1 = 0 then -1 else u.1 205 0 0))) (fun s10 => grd (ib (nI (40 * p + n)) 480) (s10.1 216 0 (nI (40 * p + n)).toNatClampNeg) fun v12 => rdD (nI (40 * p + n)) v12 s10) := fun x1 R u' hn e => by
    unfold r_readStatement_63 r_readStatement_81 rdD
    rw [gI (by omega) (by decide), nI_clamp (by omega)]
    by_cases q : x1 = 0
    · rw [if_pos q, if_pos q, gI (by omega) (by decide)]
    · rw [if_neg q, if_neg q, bnd_d, gI (by omega) (by decide), si_o (by decide), e, si_o (by decide), lk_id (by decide), nw_id (by decide)]
  have hrs : r_readStatement u = if KK sT k = 2 then r_readStatement_24 1 (u.1 203 0 0 - 10) u else (cal2 (r_begins (u.1 203 0 0 - (10 : Int32)) u) fun v73 s72 => if v73 = 0 then (r_readStatement_38 s72) else (r_readStatement_24 0 (u.1 203 0 0 - (10 : Int32)) s72)) := by
    unfold r_readStatement
    rw [tv_loc h.at.tv, cal2_s, bnd_d]
    by_cases q : KK sT k = 2
    · rw [if_pos (show sT.1 96 0 k = 2 from q), if_neg (by decide), if_pos q]
    · rw [if_neg (show ¬ sT.1 96 0 k = 2 from q), if_pos rfl, if_neg q]
  have nS : n < 40 → r_newStatement u = some (nI (40 * p + n), si (lkU (nwU u p n) p d o w la (nI (40 * p + n))) 235 0 d (nI (40 * p + n))) := fun hn => r_nS hp hn h.d8 h.rd h.n2 h.wi ho hl
  have no1 : ¬ (1 : Int32) = 0 := by decide
  rcases tv_beg s h.at.tv with ⟨K2, b2⟩ | ⟨K2, R, km, rb, b1, b2⟩ | ⟨K2, b1, b2⟩
  · have K2 : KK sT k = 2 := K2
    have b2 : k_beginsStatement (KK sT k) s = some (1, s) := b2
    by_cases q : n = 40
    · exact Or.inl ⟨by rw [hcls, if_pos (show 40 ≤ n by omega)], by rw [hrs, if_pos K2, r24, if_pos q]⟩
    · have hn : n < 40 := by omega
      obtain ⟨u2, g⟩ := go 30 2 (u.1 205 0 0) hn K2.symm (by decide) (by decide) (fun _ => rfl) (by rw [hrs, if_pos K2, r24, if_neg q, nS hn, cal2_s, if_neg no1, r63 1 30 _ hn rfl, if_neg no1])
      refine Or.inr ⟨30, 2, u2, g, ?_⟩
      rw [hcls, if_neg (show ¬ 40 ≤ n by omega), b2, cal2_s, if_neg no1, h.pp, gI (by omega) (by decide), nI_clamp (by omega), k_aS hn h.n1, cal2_s, if_pos K2, if_pos rfl, K2]
  · have K2 : ¬ KK sT k = 2 := K2
    have b2 : k_beginsStatement (KK sT k) s = some (1, s) := b2
    by_cases q : n = 40
    · exact Or.inl ⟨by rw [hcls, if_pos (show 40 ≤ n by omega)], by rw [hrs, if_neg K2, rb, b1, cal2_s, if_neg no1, r24, if_pos q]⟩
    · have hn : n < 40 := by omega
      have km : (R, KK sT k) ∈ KM := km
      obtain ⟨u2, g⟩ := go R (KK sT k) (-1) hn rfl km (fun z => by rw [z] at km; revert km; unfold KM; simp) (fun z => absurd z K2) (by rw [hrs, if_neg K2, rb, b1, cal2_s, if_neg no1, r24, if_neg q, nS hn, cal2_s, if_pos rfl, r63 0 R _ hn rfl, if_pos rfl])
      refine Or.inr ⟨R, KK sT k, u2, g, ?_⟩
      have a5 : (adS s p n (KK sT k)).1 50 0 0 = nI k := by unfold adS; rw [si_o (by decide), si_o (by decide), si_o (by decide), si_o (by decide), si_o (by decide), si_o (by decide)]; exact h.at.at5
      rw [hcls, if_neg (show ¬ 40 ≤ n by omega), b2, cal2_s, if_neg no1, h.pp, gI (by omega) (by decide), nI_clamp (by omega), k_aS hn h.n1, cal2_s, if_neg K2, bnd_d, a5, bnd_d, nI_1, if_neg K2]
  · have K2 : ¬ KK sT k = 2 := K2
    have b2 : k_beginsStatement (KK sT k) s = some (0, s) := b2
    refine Or.inl ⟨?_, by rw [hrs, if_neg K2, b1, cal2_s, if_pos rfl, r38]⟩
    rw [hcls, b2, cal2_s, if_pos rfl]
    split <;> rfl
