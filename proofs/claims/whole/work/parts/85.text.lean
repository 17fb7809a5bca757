/-! texts: the call -/
def TXc (pc : Nat) (s s' : St) : Prop := (∀ id, ¬ (id = 49 ∨ id = 50 ∨ (64 ≤ id ∧ id ≤ 76) ∨ (96 ≤ id ∧ id ≤ 99) ∨ id = 129 ∨ id = 132 ∨ id = 133) → s'.1 id = s.1 id) ∧ (s'.2 = s.2) ∧ (∀ id o i, 64 ≤ id → id ≤ 76 → o ≠ pc → s'.1 id o i = s.1 id o i)
theorem TXc.o1 {pc : Nat} {s s' : St} (h : TXc pc s s') : ∀ id, ¬ (id = 49 ∨ id = 50 ∨ (64 ≤ id ∧ id ≤ 76) ∨ (96 ≤ id ∧ id ≤ 99) ∨ id = 129 ∨ id = 132 ∨ id = 133) → s'.1 id = s.1 id := h.1
theorem TXc.o2 {pc : Nat} {s s' : St} (h : TXc pc s s') : s'.2 = s.2 := h.2.1
theorem TXc.qp {pc : Nat} {s s' : St} (h : TXc pc s s') : ∀ id o i, 64 ≤ id → id ≤ 76 → o ≠ pc → s'.1 id o i = s.1 id o i := h.2.2
def TXu (pc : Nat) (u u' : St) : Prop := (∀ id, ¬ (201 ≤ id ∧ id ≤ 236) → u'.1 id = u.1 id) ∧ (∀ id, ¬ (id = 206 ∨ id = 226) → u'.2 id = u.2 id) ∧ (∀ id q, 211 ≤ id → id ≤ 215 → q ≠ pc → u'.1 id 0 q = u.1 id 0 q) ∧ (∀ id i, 216 ≤ id → id ≤ 223 → id ≠ 219 → id ≠ 220 → i < 40 * pc ∨ 40 * pc + 40 ≤ i → u'.1 id 0 i = u.1 id 0 i) ∧ (∀ id i, id = 219 ∨ id = 220 → i < 3 * (40 * pc) ∨ 3 * (40 * pc + 40) ≤ i → u'.1 id 0 i = u.1 id 0 i) ∧ (∀ id i, id = 224 ∨ id = 225 → (i < 200 * pc ∨ 200 * pc + 200 ≤ i) → u'.1 id 0 i = u.1 id 0 i) ∧ (∀ i, (i < 200 * pc ∨ 200 * pc + 200 ≤ i) → u'.2 226 0 i = u.2 226 0 i)
theorem TXu.o1 {pc : Nat} {u u' : St} (h : TXu pc u u') : ∀ id, ¬ (201 ≤ id ∧ id ≤ 236) → u'.1 id = u.1 id := h.1
theorem TXu.o2 {pc : Nat} {u u' : St} (h : TXu pc u u') : ∀ id, ¬ (id = 206 ∨ id = 226) → u'.2 id = u.2 id := h.2.1
theorem TXu.q5 {pc : Nat} {u u' : St} (h : TXu pc u u') : ∀ id q, 211 ≤ id → id ≤ 215 → q ≠ pc → u'.1 id 0 q = u.1 id 0 q := h.2.2.1
theorem TXu.qs {pc : Nat} {u u' : St} (h : TXu pc u u') : ∀ id i, 216 ≤ id → id ≤ 223 → id ≠ 219 → id ≠ 220 → i < 40 * pc ∨ 40 * pc + 40 ≤ i → u'.1 id 0 i = u.1 id 0 i := h.2.2.2.1
theorem TXu.qb {pc : Nat} {u u' : St} (h : TXu pc u u') : ∀ id i, id = 219 ∨ id = 220 → i < 3 * (40 * pc) ∨ 3 * (40 * pc + 40) ≤ i → u'.1 id 0 i = u.1 id 0 i := h.2.2.2.2.1
theorem TXu.qa {pc : Nat} {u u' : St} (h : TXu pc u u') : ∀ id i, id = 224 ∨ id = 225 → (i < 200 * pc ∨ 200 * pc + 200 ≤ i) → u'.1 id 0 i = u.1 id 0 i := h.2.2.2.2.2.1
theorem TXu.q2 {pc : Nat} {u u' : St} (h : TXu pc u u') : ∀ i, (i < 200 * pc ∨ 200 * pc + 200 ≤ i) → u'.2 226 0 i = u.2 226 0 i := h.2.2.2.2.2.2
theorem TXc.w {pc : Nat} {s s' : St} (h : TXc pc s s') : TYc pc s s' := ⟨fun id _ z => h.o1 id z, fun id _ => by rw [h.o2], h.qp⟩
theorem TXu.w {pc : Nat} {u u' : St} (h : TXu pc u u') : TYu pc u u' := ⟨fun id _ z => h.o1 id z, fun id _ z => h.o2 id z, h.q5, h.qs, h.qb, h.qa, h.q2⟩
theorem TXc.refl {pc : Nat} (s : St) : TXc pc s s := ⟨fun _ _ => rfl, rfl, fun _ _ _ _ _ _ => rfl⟩
theorem TXu.refl {pc : Nat} (u : St) : TXu pc u u := ⟨fun _ _ => rfl, fun _ _ => rfl, fun _ _ _ _ _ => rfl, fun _ _ _ _ _ _ _ => rfl, fun _ _ _ _ => rfl, fun _ _ _ _ => rfl, fun _ _ => rfl⟩
theorem TXc.trans {pc : Nat} {s t v : St} (h : TXc pc s t) (k : TXc pc t v) : TXc pc s v := ⟨fun id z => (k.o1 id z).trans (h.o1 id z), k.o2.trans h.o2, fun id o i a b c => (k.qp id o i a b c).trans (h.qp id o i a b c)⟩
theorem TXu.trans {pc : Nat} {u v w : St} (h : TXu pc u v) (k : TXu pc v w) : TXu pc u w :=
  ⟨fun id z => (k.o1 id z).trans (h.o1 id z), fun id z => (k.o2 id z).trans (h.o2 id z), fun a b c d e => (k.q5 a b c d e).trans (h.q5 a b c d e), fun a b c d e f g => (k.qs a b c d e f g).trans (h.qs a b c d e f g), fun a b c d => (k.qb a b c d).trans (h.qb a b c d), fun a b c d => (k.qa a b c d).trans (h.qa a b c d), fun a b => (k.q2 a b).trans (h.q2 a b)⟩
theorem TXc_si {pc : Nat} {s t : St} {id o i : Nat} {x : Int32} (h : TXc pc s t) (hi : id = 49 ∨ id = 50 ∨ (64 ≤ id ∧ id ≤ 76 ∧ o = pc) ∨ (96 ≤ id ∧ id ≤ 99) ∨ id = 129 ∨ id = 132 ∨ id = 133) : TXc pc s (si t id o i x) :=
  h.trans ⟨fun a z => si_id (by omega), rfl, fun a b c z1 z2 z3 => si_ne (fun z => by omega)⟩
theorem TXu_si {pc : Nat} {u v : St} {id i : Nat} {x : Int32} (h : TXu pc u v) (hi : (201 ≤ id ∧ id ≤ 210) ∨ (211 ≤ id ∧ id ≤ 215 ∧ i = pc) ∨ (227 ≤ id ∧ id ≤ 236)) : TXu pc u (si v id 0 i x) :=
  h.trans ⟨fun a z => si_id (by omega), fun _ _ => rfl, fun a q z1 z2 z3 => si_ne (fun z => by omega), fun a b z1 z2 z3 z4 z5 => si_o (by omega), fun a b z1 z2 => si_o (by omega), fun a b z1 z2 => si_o (by omega), fun _ _ => rfl⟩
theorem CB.tx {X : Nat → Nat → Prop} {p n f : Nat} {s t : St} (h : CB X p n f s t) : TXc p s t := ⟨fun id z => h.o1 id (by omega), h.o2, h.qp⟩
theorem FX.tx {pc : Nat} {u v : St} (f : FX u v) : TXu pc u v := ⟨fun id z => f.1 id (by omega), fun id z => f.2 id (by omega), fun a b c d e => by rw [f.1 a (by omega)], fun a b c d e f' g => by rw [f.1 a (by omega)], fun a b c d => by rw [f.1 a (by omega)], fun a b c d => by rw [f.1 a (by omega)], fun a b => by rw [f.2 226 (by decide)]⟩
theorem RB.tx {p e d : Nat} {u v : St} (h : RB (Ys p 0 0 0) p 0 e d u v) : TXu p u v := by
  refine ⟨fun id z => h.o1 id (by omega), h.o2, h.q5, fun a b c d e f g => h.qs a b c d e f (by omega) (fun t => ?_), fun a b c d => h.qb a b c (by omega) (fun t => ?_), fun a b c d => h.qa a b c (by omega), fun a b => h.q2 a (by omega)⟩
  · rcases t with t | t | t <;> omega
  · rcases t with t | t | t <;> omega
theorem S_text {sd : Nat → Nat → Nat} {pc n k : Nat} {s u : St} (L : RL sd pc n k s u) : ∃ v s' u' sd' pc', k_text s = some (v, s') ∧ r_text u = some (v, u') ∧ RL sd' pc' n k s' u' ∧ Rf s s' ∧ Cl u u' := by
  obtain ⟨z, z8, hz1, hz2, hz3⟩ := L.tp
  obtain ⟨a1, a2, a3, a4⟩ := L.wr.wc.pp
  by_cases h12 : pc = 12
  · refine ⟨-1, s, u, sd, pc, ?_, ?_, L, Rf.refl s, Cl.refl u⟩
    · unfold k_text; rw [bnd_d, a2, h12, if_neg (by decide)]
    · unfold r_text; rw [bnd_d, a3, h12, if_pos (by decide)]
  have hp : pc < 12 := by omega
  have hTU : TU s u z := TU_of z8 ⟨hz1, hz2, hz3⟩
  obtain ⟨sT, cnt, E, hsc, LX⟩ := lex_all z8 (show tapeOK s z from fun i hi => ⟨(hTU.2.2 i hi).1, (hTU.2.2 i hi).2.1⟩)
  have hT : ∀ id, ¬ (96 ≤ id ∧ id ≤ 99) → sT.1 id = s.1 id := fun id q => by rw [LX.sc.o1 id q, si_id (by omega)]
  have hT2 : sT.2 = s.2 := by rw [LX.sc.o2]; rfl
  have X : CX sT z cnt E := ⟨z8, LX.le, LX.lt, fun k hk => LX.nx k (Nat.zero_le _) hk, LX.en, fun k hk => LX.ne k (Nat.zero_le _) hk⟩
  have c8 := X.c8; have c0 := X.c0
  -- the class, before it reads
  generalize hs6 : si (si (si (si (si (si (si sT 64 pc 0 0) 65 pc 0 0) 66 pc 0 0) 67 pc 0 0) 74 pc 120 (-1)) 49 0 0 (nI pc)) 50 0 0 0 = s6
  have o6 : ∀ id, ¬ (id = 49 ∨ id = 50 ∨ (64 ≤ id ∧ id ≤ 67) ∨ id = 74) → s6.1 id = sT.1 id := fun id q => by rw [← hs6, si_id (by omega), si_id (by omega), si_id (by omega), si_id (by omega), si_id (by omega), si_id (by omega), si_id (by omega)]
  have GT1 : GV sT := fun id o e => by
    by_cases q : 96 ≤ id ∧ id ≤ 99
    · rcases (by omega : id = 96 ∨ id = 97 ∨ id = 98 ∨ id = 99) with rfl | rfl | rfl | rfl <;> trivial
    · rw [hT id q]; exact L.wr.wc.gv id o e
  have G6 : GV s6 := by rw [← hs6]; exact GV_si (GV_si (GV_si (GV_si (GV_si (GV_si (GV_si GT1 trivial) trivial) trivial) trivial) (Or.inl (by decide) : okx (-1))) trivial) trivial
  have C6 : TXc pc s s6 := by
    have t0 : TXc pc s sT := ⟨fun id q => hT id (by omega), hT2, fun id o i z1 z2 z3 => by rw [hT id (by omega)]⟩
    rw [← hs6]; exact TXc_si (TXc_si (TXc_si (TXc_si (TXc_si (TXc_si (TXc_si t0 (by omega)) (by omega)) (by omega)) (by omega)) (by omega)) (by omega)) (by omega)
  have hpar : k_parse pc (nI z) s = cal2 ((SF 50).1 (120 : Int32) (0 : Int32) (0 : Int32) s6) fun v8 s7 => if v8 = 0 then (bnd (s7.1 50 0 0) fun v9 => grd (ib v9 801) (s7.1 98 0 v9.toNatClampNeg) fun v10 => some (v10, s7)) else (some ((-1 : Int32), s7)) := by
    unfold k_parse k_reset
    rw [hsc, cal_s]
    simp only [bnd_d]
    rw [show grd (ib (120 : Int32) 121) (si (si (si (si (si sT 64 pc 0 0) 65 pc 0 0) 66 pc 0 0) 67 pc 0 0) 74 pc (120 : Int32).toNatClampNeg (-1)) (fun s5 => some s5) = some (si (si (si (si (si sT 64 pc 0 0) 65 pc 0 0) 66 pc 0 0) 67 pc 0 0) 74 pc 120 (-1)) from gI (n := 120) (by decide) (by decide), cal_s, hs6]
  -- the reference, before it reads
  generalize hW : si (si (si (si (si (si (si (si (si (si (si (si (si u 209 0 0 (-1)) 227 0 0 (nI pc)) 211 0 pc 0) 212 0 pc 0) 213 0 pc 0) 215 0 pc 0) 202 0 0 0) 208 0 0 0) 236 0 0 0) 233 0 0 (-1)) 234 0 0 0) 235 0 0 (-1)) 214 0 pc (-1) = W
  have oW : ∀ id, ¬ ((202 ≤ id ∧ id ≤ 215) ∨ (227 ≤ id ∧ id ≤ 236)) → W.1 id = u.1 id := fun id q => by rw [← hW, si_id (by omega), si_id (by omega), si_id (by omega), si_id (by omega), si_id (by omega), si_id (by omega), si_id (by omega), si_id (by omega), si_id (by omega), si_id (by omega), si_id (by omega), si_id (by omega), si_id (by omega)]
  have oW1 : W.1 210 = u.1 210 := by rw [← hW, si_id (by omega), si_id (by omega), si_id (by omega), si_id (by omega), si_id (by omega), si_id (by omega), si_id (by omega), si_id (by omega), si_id (by omega), si_id (by omega), si_id (by omega), si_id (by omega), si_id (by omega)]
  have W2 : W.2 = u.2 := by rw [← hW]; rfl
  have CW : TXu pc u W := by
    rw [← hW]; exact TXu_si (TXu_si (TXu_si (TXu_si (TXu_si (TXu_si (TXu_si (TXu_si (TXu_si (TXu_si (TXu_si (TXu_si (TXu_si (TXu.refl u) (by omega)) (by omega)) (by omega)) (by omega)) (by omega)) (by omega)) (by omega)) (by omega)) (by omega)) (by omega)) (by omega)) (by omega)) (by omega)
  have W9 : W.1 209 0 0 = -1 := by rw [← hW, si_o (by decide), si_o (by decide), si_o (by decide), si_o (by decide), si_o (by decide), si_o (by decide), si_o (by decide), si_o (by decide), si_o (by decide), si_o (by decide), si_o (by decide), si_o (by decide), si_eq]
  have W27 : W.1 227 0 0 = nI pc := by rw [← hW, si_o (by decide), si_o (by decide), si_o (by decide), si_o (by decide), si_o (by decide), si_o (by decide), si_o (by decide), si_o (by decide), si_o (by decide), si_o (by decide), si_o (by decide), si_eq]
  have W11 : W.1 211 0 pc = 0 := by rw [← hW, si_o (by decide), si_o (by decide), si_o (by decide), si_o (by decide), si_o (by decide), si_o (by decide), si_o (by decide), si_o (by decide), si_o (by decide), si_o (by decide), si_eq]
  have W12 : W.1 212 0 pc = 0 := by rw [← hW, si_o (by decide), si_o (by decide), si_o (by decide), si_o (by decide), si_o (by decide), si_o (by decide), si_o (by decide), si_o (by decide), si_o (by decide), si_eq]
  have W13 : W.1 213 0 pc = 0 := by rw [← hW, si_o (by decide), si_o (by decide), si_o (by decide), si_o (by decide), si_o (by decide), si_o (by decide), si_o (by decide), si_o (by decide), si_eq]
  have W15 : W.1 215 0 pc = 0 := by rw [← hW, si_o (by decide), si_o (by decide), si_o (by decide), si_o (by decide), si_o (by decide), si_o (by decide), si_o (by decide), si_eq]
  have W02 : W.1 202 0 0 = 0 := by rw [← hW, si_o (by decide), si_o (by decide), si_o (by decide), si_o (by decide), si_o (by decide), si_o (by decide), si_eq]
  have W08 : W.1 208 0 0 = 0 := by rw [← hW, si_o (by decide), si_o (by decide), si_o (by decide), si_o (by decide), si_o (by decide), si_eq]
  have W36 : W.1 236 0 0 = 0 := by rw [← hW, si_o (by decide), si_o (by decide), si_o (by decide), si_o (by decide), si_eq]
  have W33 : W.1 233 0 0 = -1 := by rw [← hW, si_o (by decide), si_o (by decide), si_o (by decide), si_eq]
  have W35 : W.1 235 0 0 = -1 := by rw [← hW, si_o (by decide), si_eq]
  have W14 : W.1 214 0 pc = -1 := by rw [← hW, si_eq]
  have TW : TU sT W z := ⟨z8, by rw [oW 201 (by omega)]; exact hTU.2.1, fun i hi => by
    have := hTU.2.2 i hi
    unfold bB at *
    rw [hT 128 (by omega), oW 200 (by omega)]; exact this⟩
  obtain ⟨u7, n1, n2, n3, n4⟩ := X.nx 0 c0 W 900 TW (by rw [W02, LX.e0]; rfl) (by rw [LX.e0]; omega)
  have H : BS sT z cnt E pc s6 u7 0 0 0 0 0 0 := by
    refine ⟨⟨c0, ?_, by rw [o6 96 (by omega)], by rw [o6 97 (by omega)], by rw [o6 98 (by omega)], TW.fx n2, n3, n4⟩, ?_, by rw [n2.1 227 (by omega)]; exact W27, ?_, by rw [n2.1 211 (by omega)]; exact W11, by omega, ?_, by rw [n2.1 212 (by omega)]; exact W12, by omega, ⟨0, by omega, ?_, by rw [n2.1 213 (by omega)]; exact W13⟩, by rw [n2.1 208 (by omega)]; exact W08, ?_, by omega, by rw [n2.1 215 (by omega)]; exact W15, by omega, by rw [n2.1 236 (by omega)]; exact W36, by omega⟩
    · rw [← hs6, si_eq]; rfl
    · rw [← hs6, si_o (by decide), si_eq]
    · rw [← hs6, si_o (by decide), si_o (by decide), si_o (by decide), si_o (by decide), si_o (by decide), si_o (by decide), si_eq]; rfl
    · rw [← hs6, si_o (by decide), si_o (by decide), si_o (by decide), si_o (by decide), si_o (by decide), si_eq]; rfl
    · rw [← hs6, si_o (by decide), si_o (by decide), si_o (by decide), si_o (by decide), si_eq]; rfl
    · rw [← hs6, si_o (by decide), si_o (by decide), si_o (by decide), si_eq]; rfl
  have hrt : r_readText (si (si (si (si (si (si (si (si u 209 0 0 (-1)) 227 0 0 (nI pc)) 211 0 pc 0) 212 0 pc 0) 213 0 pc 0) 215 0 pc 0) 202 0 0 0) 208 0 0 0) = r_readText_40 900 u7 := by
    have W27' : ∀ v : St, v = si (si (si (si (si (si (si (si u 209 0 0 (-1)) 227 0 0 (nI pc)) 211 0 pc 0) 212 0 pc 0) 213 0 pc 0) 215 0 pc 0) 202 0 0 0) 208 0 0 0 → v.1 227 0 0 = nI pc := fun v e => by rw [e, si_o (by decide), si_o (by decide), si_o (by decide), si_o (by decide), si_o (by decide), si_o (by decide), si_eq]
    unfold r_readText r_next
    simp only [bnd_d]
    rw [show ∀ (x : St) (f : St → Option St), grd (ib (0 : Int32) 10) x f = f x from fun x f => gI (n := 0) (by decide) (by decide), show ∀ (x : St) (f : St → Option St), grd (ib (0 : Int32) 10) x f = f x from fun x f => gI (n := 0) (by decide) (by decide), show ∀ (x : St) (f : St → Option St), grd (ib (0 : Int32) 10) x f = f x from fun x f => gI (n := 0) (by decide) (by decide), si_o (by decide), si_o (by decide), si_o (by decide), si_o (by decide), W27' _ rfl, gI hp (by decide), nI_clamp (by omega)]
    show cal (r_next_0 900 (si (si (si (si (si (si (si (si (si (si (si (si (si u 209 0 0 (-1)) 227 0 0 (nI pc)) 211 0 pc 0) 212 0 pc 0) 213 0 pc 0) 215 0 pc 0) 202 0 0 0) 208 0 0 0) 236 0 0 0) 233 0 0 (-1)) 234 0 0 0) 235 0 0 (-1)) 214 0 pc (-1))) _ = _
    rw [hW, n1, cal_s]
  have hrx : r_text u = cal (r_readText_40 900 u7) fun s15 => bnd (si s15 201 0 0 (0 : Int32)) fun s17 => bnd (s17.1 208 0 0) fun v18 => if v18 = 0 then (bnd (s17.1 210 0 0) fun v19 => bnd (si s17 210 0 0 (v19 + (1 : Int32))) fun s20 => bnd (s20.1 210 0 0) fun v21 => some ((v21 - (1 : Int32)), s20)) else (some ((-2 : Int32), s17)) := by
    unfold r_text
    rw [bnd_d, a3, if_neg (show ¬ nI pc = 12 from fun q => h12 ((nI_eq (b := 12) (by omega) (by decide)).mp q)), ← hrt]
    simp only [bnd_d]
    rw [show (si u 209 0 0 (-1)).1 210 0 0 = nI pc by rw [si_o (by decide)]; exact a3, si_eq, gI hp (by decide), nI_clamp (by omega), si_o (by decide), si_eq, gI hp (by decide), si_o (by decide), si_o (by decide), si_eq, gI hp (by decide), si_o (by decide), si_o (by decide), si_o (by decide), si_eq, gI hp (by decide), nI_clamp (by omega)]
  have kS : ∀ s9, k_parse pc (nI z) s = some (-1, s9) → s9.1 132 0 0 = nI pc → k_text s = some (nI pc, si (si (si s9 133 0 0 (-1)) 129 0 0 0) 132 0 0 (nI (pc + 1))) := fun s9 e1 e2 => by
    unfold k_text
    simp only [bnd_d]
    rw [a2, if_pos (show nI pc < 12 from nI_lt (b := 12) hp (by decide)), hz1, gI hp (by decide), nI_clamp (by omega), e1, cal2_s, si_o (by decide), si_eq, if_pos rfl, si_eq, si_o (by decide), si_o (by decide), e2, nI_1, nI_s1 (by omega)]
    rfl
  have kF : ∀ w s9, k_parse pc (nI z) s = some (w, s9) → ¬ w = -1 → k_text s = some (-2, si (si s9 133 0 0 w) 129 0 0 0) := fun w s9 e1 e2 => by
    unfold k_text
    simp only [bnd_d]
    rw [a2, if_pos (show nI pc < 12 from nI_lt (b := 12) hp (by decide)), hz1, gI hp (by decide), nI_clamp (by omega), e1, cal2_s, si_o (by decide), si_eq, if_neg e2]
  obtain ⟨v, s7, f1, f2, f3⟩ := (gAllS X hp 50).1 0 0 0 s6 u7 0 0 0 0 0 (fun _ => 0) H (Or.inl ⟨rfl, by rw [n2.1 233 (by omega)]; exact W33⟩) (by rw [n2.1 235 (by omega)]; exact W35) (by show (if (0 : Nat) = 0 then u7.1 214 0 pc else _) = _; rw [if_pos rfl, n2.1 214 (by omega)]; exact W14) (by omega)
  have f1' : (SF 50).1 (120 : Int32) (0 : Int32) (0 : Int32) s6 = some (v, s7) := f1
  have C7 : TXc pc s s7 := C6.trans f2.tx
  have G7 : GV s7 := f2.gv G6
  have t132 : s7.1 132 0 0 = nI pc := by rw [f2.o1 132 (by omega), o6 132 (by omega), hT 132 (by omega)]; exact a2
  have c801 := LX.le
  obtain ⟨ck, ck1, ck2⟩ := L.ck
  rcases f3 with ⟨rfl, u8, k', n', un', f', e', g', m, b1, b2, b3, b4, b5, B, b6, b7, b8, b9, b10, b11⟩ | ⟨rfl, k', u8, m, b1, b2, b3, b4, b5, b6, b7, b8⟩
  · have hpr : k_parse pc (nI z) s = some (-1, s7) := by rw [hpar, f1', cal2_s, if_neg (by decide)]
    have r40 : r_readText_40 900 u7 = some u8 := by
      have kl := B.at.kl
      have t := b11 (900 - m - 1 + 1)
      rw [show 900 - m - 1 + 1 + m = 900 by omega] at t
      rw [t, r_readText_40.eq_2, bnd_d, B.bd, if_pos rfl, bnd_d, (tv_0 B.at.tv).mpr b6, if_pos rfl, bnd_d, B.wi]
      rfl
    have R8 : TXu pc u u8 := (CW.trans n2.tx).trans b7.tx
    have u210 : u8.1 210 0 0 = nI pc := by rw [b7.o1 210 (by omega), n2.1 210 (by omega), oW1]; exact a3
    generalize hs9 : si (si (si s7 133 0 0 (-1)) 129 0 0 0) 132 0 0 (nI (pc + 1)) = s9
    generalize hu9 : si (si u8 201 0 0 0) 210 0 0 (nI (pc + 1)) = u9
    have C9 : TXc pc s s9 := by rw [← hs9]; exact TXc_si (TXc_si (TXc_si C7 (by omega)) (by omega)) (by omega)
    have R9 : TXu pc u u9 := by rw [← hu9]; exact TXu_si (TXu_si R8 (by omega)) (by omega)
    have G9 : GV s9 := by rw [← hs9]; exact GV_si (GV_si (GV_si G7 trivial) trivial) trivial
    have hn : nS s7 pc = n' := by unfold nS; rw [B.n1, nI_clamp (by have := B.n4; omega)]
    have u6 := B.u6; have ff := B.ff; have ee := B.ee
    have hPR : PR (fun _ => g') s7 u8 pc := by
      obtain ⟨D, D8, D1, D2⟩ := B.dp
      refine ⟨by rw [hn]; exact ⟨B.n1, B.n4⟩, by rw [B.n1]; exact B.n2, by rw [B.u1]; exact B.u2, by rw [D1]; exact D2, fun a ha => ?_, ?_⟩
      · rw [hn] at ha ⊢
        exact (b9 a (Nat.zero_le _) ha).st hp (by omega) (by omega)
      · rw [hn]; exact b10
    have hPR9 : PR (fun q a => if q = pc then g' a else sd q a) s9 u9 pc := by
      refine hPR.loc (pc := pc + 1) (TXc.w ?_) (TXu.w ?_) (by omega) (fun a => if_pos rfl)
      · rw [← hs9]; exact TXc_si (TXc_si (TXc_si (TXc.refl _) (by omega)) (by omega)) (by omega)
      · rw [← hu9]; exact TXu_si (TXu_si (TXu.refl _) (by omega)) (by omega)
    refine ⟨nI pc, s9, u9, fun q a => if q = pc then g' a else sd q a, pc + 1, by rw [← hs9]; exact kS s7 hpr t132, ?_, ⟨L.wr.txt C9.w R9.w G9 (by omega) (fun p a h => if_neg (by omega)) (by omega) (by rw [← hs9, si_eq]) (by rw [← hu9, si_eq]) (fun p h1 h2 => ?_), ⟨ck, ck1, by rw [C9.o1 16 (by omega)]; exact ck2⟩, L.nk, ⟨0, by omega, ?_, ?_, fun i hi => by omega⟩, ?_⟩, fun id hi => ⟨C9.o1 id (by omega), by rw [C9.o2]⟩, fun id hi => ⟨R9.o1 id (by omega), R9.o2 id (by omega)⟩⟩
    · rw [hrx, r40, cal_s]
      simp only [bnd_d]
      rw [si_o (by decide), B.bd, if_pos rfl, si_eq, si_o (by decide), u210, nI_1, hu9, nI_s1 (by omega)]
      rfl
    · obtain rfl : p = pc := by omega
      exact hPR9
    · rw [← hs9, si_o (by decide), si_eq]; rfl
    · rw [← hu9, si_o (by decide), si_eq]; rfl
    · rw [← hs9, ← hu9, si_o (by decide), si_o (by decide), si_eq, si_o (by decide), si_o (by decide), (b7.q9 B.bd).2, n2.1 209 (by omega), W9]
  · obtain ⟨q, q1, q2⟩ := LX.pl k' (Nat.zero_le _) b2
    have h98 : s7.1 98 0 k' = nI q := by rw [f2.o1 98 (by omega), o6 98 (by omega)]; exact q2
    have hpr : k_parse pc (nI z) s = some (nI q, s7) := by
      rw [hpar, f1', cal2_s, if_pos rfl, bnd_d, b3, gI (by omega) (by decide), nI_clamp (by omega), h98]
    have r40 : r_readText_40 900 u7 = some u8 := by
      have t := b8 (900 - m)
      rw [show 900 - m + m = 900 by omega] at t
      exact t
    have R8 : TXu pc u u8 := (CW.trans n2.tx).trans b6.tx
    generalize hs9 : si (si s7 133 0 0 (nI q)) 129 0 0 0 = s9
    generalize hu9 : si u8 201 0 0 0 = u9
    have C9 : TXc pc s s9 := by rw [← hs9]; exact TXc_si (TXc_si C7 (by omega)) (by omega)
    have R9 : TXu pc u u9 := by rw [← hu9]; exact TXu_si R8 (by omega)
    have G9 : GV s9 := by rw [← hs9]; exact GV_si (GV_si G7 trivial) trivial
    have u210 : u8.1 210 0 0 = nI pc := by rw [b6.o1 210 (by omega), n2.1 210 (by omega), oW1]; exact a3
    refine ⟨-2, s9, u9, sd, pc, by rw [← hs9]; exact kF (nI q) s7 hpr (nI_n1 (by omega)), ?_, ⟨L.wr.txt C9.w R9.w G9 (by omega) (fun p a h => rfl) a1 (by rw [← hs9, si_o (by decide), si_o (by decide)]; exact t132) (by rw [← hu9, si_o (by decide)]; exact u210) (fun p h1 h2 => by omega), ⟨ck, ck1, by rw [C9.o1 16 (by omega)]; exact ck2⟩, L.nk, ⟨0, by omega, ?_, ?_, fun i hi => by omega⟩, ?_⟩, fun id hi => ⟨C9.o1 id (by omega), by rw [C9.o2]⟩, fun id hi => ⟨R9.o1 id (by omega), R9.o2 id (by omega)⟩⟩
    · rw [hrx, r40, cal_s]
      simp only [bnd_d]
      rw [si_o (by decide), b4, if_neg (by decide), hu9]
    · rw [← hs9, si_eq]; rfl
    · rw [← hu9, si_eq]; rfl
    · rw [← hs9, ← hu9, si_o (by decide), si_eq, si_o (by decide), b5, q2]
/-! what RL looks at -/
theorem val_hi {id e : Nat} {v : Int32} (h : 200 ≤ id) : val id e v := by
  unfold val
  rw [if_neg (by omega), if_neg (by omega), if_neg (by omega), if_neg (by omega), if_neg (by omega), if_neg (by omega), if_neg (by omega), if_neg (by omega), if_neg (by omega), if_neg (by omega), if_neg (by omega), if_neg (by omega), if_neg (by omega), if_neg (by omega), if_neg (by omega), if_neg (by omega), if_neg (by omega), if_neg (by omega), if_neg (by omega)]
  trivial
theorem RL.cg {sd : Nat → Nat → Nat} {pc n k : Nat} {s u s' u' : St} (L : RL sd pc n k s u) (hs : Cl s s') (hu : Rf u u') : RL sd pc n k s' u' := by
  obtain ⟨a1, a2, a3, a4⟩ := L.wr.wc.pp
  have C : TYc pc s s' := ⟨fun id z _ => (hs id z).1, fun id z => (hs id z).2, fun id o i z1 z2 _ => by rw [(hs id (by omega)).1]⟩
  have R : TYu pc u u' := ⟨fun id z _ => (hu id z).1, fun id z _ => (hu id z).2, fun id q z1 z2 _ => by rw [(hu id (by omega)).1], fun id i z1 z2 _ _ _ => by rw [(hu id (by omega)).1], fun id i z1 _ => by rw [(hu id (by omega)).1], fun id i z1 _ => by rw [(hu id (by omega)).1], fun i _ => by rw [(hu 226 (by omega)).2]⟩
  have G : GV s' := fun id o e => by
    by_cases z : id < 200
    · rw [(hs id z).1]; exact L.wr.wc.gv id o e
    · exact val_hi (by omega)
  obtain ⟨c, c1, c2⟩ := L.ck
  refine ⟨L.wr.txt C R G (Nat.le_refl _) (fun _ _ _ => rfl) a1 (by rw [(hs 132 (by omega)).1]; exact a2) (by rw [(hu 210 (by omega)).1]; exact a3) (fun p h1 h2 => by omega), ⟨c, c1, by rw [(hs 16 (by omega)).1]; exact c2⟩, L.nk, ?_, by rw [(hs 133 (by omega)).1, (hu 209 (by omega)).1]; exact L.pl⟩
  have := L.tp
  unfold TP at *
  rw [(hs 129 (by omega)).1, (hs 128 (by omega)).1, (hu 201 (by omega)).1, (hu 200 (by omega)).1]; exact this
