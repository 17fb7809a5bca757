/-! THE CLAIM OUT OF ONE WALK OF THE LAW'S BODY. Your part is whole_start (and what it stands on); all else here is the same for every law, but numbers. -/
def R_law : String := "MaskedThrowsLaw"
def lw_P (b : Addr) (xs : List Int32) (args : Array Value) (s : State) : Prop := args = #[.ref b] ∧ s.IntsAt b xs ∧ xs.length ≤ 3072 ∧ (Jvm.Cond.and given_1 narrow_1).before args s = true
def lw_Q (_ : Array Value) (s : State) (o : Outcome) (t : State) : Prop := o = .returned (some (.int 1)) ∧ Framed s o t [] 600000 7302250
def lw_Z (below : List Frame) (a : Array Value) (s : State) : State → Prop := fun t => ∃ o, t.status = .running ∧ Ended t below o ∧ lw_Q a s o t
/-- the law's own end, with 1 on the stack, nothing written that was there before, its room as the claim has it -/
theorem lw_ret {p : Program} {l : Launch} {e : Env} {s : State} {m : MethodId} {below : List Frame} {meth : Method} {c : Code} {b : Nat} (hx : p.tables.exec = Jvm.exec) (hb : c.code = code) (hr : meth.sig.returnType = ret) (hlocks : meth.locks = false) {pc : Nat} {H : Heap} {ls : Array Slot} (hdg : decode code pc = .ok (.ireturn, 1)) : W p l e room_1 s m #[Value.ref b] below meth c H [] 600000 7302250 (lw_Z below #[Value.ref b] s) (F0 m pc ls [.int 1]) := by
  intro T hT X
  obtain ⟨fs, hret, hrun, hended, hW, hframe⟩ := X.leave (v := some (.int 1)) (hlocks := hlocks) (fun h => by rw [hr] at h; cases h)
  have hmeth' : T.vm.method? m = some meth := X.method'
  refine ⟨T.setFrames fs, ?_, .returned (some (.int 1)), hrun, hended, rfl, ⟨_, rfl⟩, hW, hframe⟩
  jvm_step X.here [X.here.top, hx, hb, hdg, hmeth', hr, ret, narrow_b1]
  (try refine ⟨rfl, ?_⟩); (try refine ⟨rfl, ?_⟩)
  first | (intro acts; rw [hret _ acts rfl rfl rfl]) | rw [hret _ _ rfl rfl rfl]
  exact Steps.refl _
/-- what holds at the law's entry: the machine, the code, the tables' words (any of lw_tbl by 'hts w (by decide +kernel)'), the script of L ints xs at the cell b, what the Statement gives of the start (any of its parts by flat_of_before) -/
def lw_At (p : Program) (s : State) (m : MethodId) (meth : Method) (c : Code) (b L : Nat) (xs : Nat → Int32) : Prop :=
  p.tables.exec = Jvm.exec ∧ c.code = code ∧ meth.sig.returnType = ret ∧ c.maxLocals = 4 ∧ s.vm.findClass R_law = some m.cls ∧ (∀ w ∈ lw_tbl, w.before #[Value.ref b] s = true) ∧ va_X b L xs s s.heap ∧ b < s.heap.size ∧ meth.locks = false ∧ (Jvm.Cond.and given_1 narrow_1).before #[Value.ref b] s = true
-- ===== MY PART =====
def Zl : Zt := fun E args s below t => args = #[Value.ref (ea E 0)] ∧ eS E = s.heap.size → lw_Z below args s t
set_option maxRecDepth 100000 in
theorem law_end {k n : Nat} {lv : List (Nat × Value)} {M : Me} {top : Nat} (hk : k ≤ 600000 ∧ n ≤ 7302250) : Wp room_1 197 Zl k n 861 lv [.int 1] M top := by
  intro l E p e s m args below meth c C H locs hl hH ls hv
  by_cases h : args = #[Value.ref (ea E 0)] ∧ eS E = s.heap.size
  · obtain ⟨h1, h2⟩ := h
    subst h1
    refine va_forget (fun q hq => by rw [← h2]; exact hl q hq) ?_
    refine W.widen hk.1 hk.2 ?_
    intro T hT X
    obtain ⟨t, a, b⟩ := lw_ret (pc := 861) (ls := ls) C.2.1 C.2.2.1 C.2.2.2.1 C.2.2.2.2.2.2.2.1 d197_861 T hT X
    exact ⟨t, a, fun _ => b⟩
  · intro T hT X
    exact ⟨_, Steps.refl _, fun z => absurd z h⟩
set_option maxRecDepth 100000 in
theorem law_start {M : Me} {xs : Nat → Int32} {L : Nat} (hL : L ≤ 3072) : Wp room_1 197 (Zs xs L Zl) 0 0 0 [(0, .ref 0)] [] M 3 := by
  refine x_new (pc := 0) (ci := 8) (fs := [.null, .int 0, .null, .null, .int 0, .int 0, .null]) d197_0 kl10_7 it_8 id_8 (by decide) rfl ⟨Nat.le_of_ble_eq_true rfl, Nat.le_of_ble_eq_true rfl⟩ ?_
  refine x_dup (pc := 3) d197_3 rfl ?_
  refine x_callI (pc := 4) (y := 0) (As := []) (mc := 276) (ms := 14931) d197_4 ml10_9 mc_0 mI0 (by decide +kernel) (by decide +kernel) rfl (by decide) (c_0 (va_up_self _ _ _)) ⟨Nat.le_of_ble_eq_true rfl, Nat.le_of_ble_eq_true rfl⟩ ⟨Nat.le_of_ble_eq_true rfl, Nat.le_of_ble_eq_true rfl⟩ ?_
  rintro r M1 t1 ⟨rfl, rfl, rfl⟩
  refine x_mem (M' := T0) (fun q h1 h2 => Or.inl (mx_t (by omega))) ?_
  show Wp _ _ _ _ _ 7 _ _ _ _
  refine x_astore_n (pc := 7) d197_7 (by decide) ?_
  refine x_new (pc := 8) (ci := 9) (fs := [.null, .int 0, .int 0, .int 0, .int 0, .int 0, .long 0, .int 0, .int 0, .int 0, .int 0, .null, .null, .null, .null, .null, .null, .null, .null, .null, .null, .null, .null, .null, .null, .null, .null, .int 0, .null, .int 0, .int 0, .null, .int 0, .null, .null, .null, .int 0, .int 0, .null, .null, .null, .null, .null, .null, .null, .null, .null, .null, .null, .null, .null, .null, .null, .null, .null, .null, .null, .null, .null, .null, .int 0, .null, .null, .int 0, .null, .null, .null, .null, .null]) d197_8 kl10_10 it_9 id_9 (by decide) rfl ⟨Nat.le_of_ble_eq_true rfl, Nat.le_of_ble_eq_true rfl⟩ ?_
  refine x_dup (pc := 11) d197_11 rfl ?_
  refine x_callI (pc := 12) (y := 123) (As := []) (mc := 51) (ms := 17143) d197_12 ml10_12 mc_123 mI123 (by decide +kernel) (by decide +kernel) rfl (by decide) (c_123 (va_up_self _ _ _)) ⟨Nat.le_of_ble_eq_true rfl, Nat.le_of_ble_eq_true rfl⟩ ⟨Nat.le_of_ble_eq_true rfl, Nat.le_of_ble_eq_true rfl⟩ ?_
  rintro r M1 t1 ⟨rfl, rfl, rfl⟩
  refine cn_abs (W := T0) (fun q _ _ => rfl) ?_
  show Wp _ _ _ _ _ 15 _ _ _ _
  refine x_astore_n (pc := 15) d197_15 (by decide) ?_
  refine x_iconst (pc := 16) (v := (0)) d197_16 (by decide) ?_
  refine x_istore_n (pc := 17) d197_17 (by decide) ?_
  refine law_loop (Z := Zl) (by omega) ⟨by decide, by decide⟩ ⟨Nat.le_of_ble_eq_true rfl, Nat.le_of_ble_eq_true rfl⟩ (fun i X => ?_) (L / 6 + 1) 0 0 s00 (by omega) (by omega) IV_0 (by omega)
  refine x_iconst (pc := 860) (v := (1)) d197_860 (by decide) ?_
  exact x_w (law_end ⟨Nat.le_of_ble_eq_true rfl, Nat.le_of_ble_eq_true rfl⟩)
theorem it_all {ci : Nat} (h : ci < 10) : Cond.instantiable (clS ci) (clN ci) ∈ gw := by
  match ci, h with
  | 0, _ => exact it_0
  | 1, _ => exact it_1
  | 2, _ => exact it_2
  | 3, _ => exact it_3
  | 4, _ => exact it_4
  | 5, _ => exact it_5
  | 6, _ => exact it_6
  | 7, _ => exact it_7
  | 8, _ => exact it_8
  | 9, _ => exact it_9
def tmS (i : Nat) : Term := .string "MaskedThrows$Tokens" (if i = 0 then 54 else 62)
def flS : List Cond := flatC (Cond.and given_1 narrow_1)
set_option maxRecDepth 100000 in
theorem tS1 : ∀ i, i < 2 → Cond.exactly (tmS i) "java/lang/String" ∈ flS ∧ Cond.eq (.field (tmS i) "java/lang/String" "coder" "B") (.int 0) ∈ flS ∧ Cond.arrayOf (.field (tmS i) "java/lang/String" "value" "[B") .byte ∈ flS ∧ Cond.eq (.length (.field (tmS i) "java/lang/String" "value" "[B")) (.int (Int32.ofNat (sLen.getD i 0))) ∈ flS := by decide +kernel
set_option maxRecDepth 100000 in
theorem tS2 : ∀ i, i < 2 → ∀ j, j < sLen.getD i 0 → Cond.eq (.elem (.field (tmS i) "java/lang/String" "value" "[B") (.int (Int32.ofNat j))) (.int ((sByt.getD i []).getD j 0)) ∈ flS := by decide +kernel
set_option maxRecDepth 100000 in
theorem tS3 : ∀ i, i < 2 → ∀ j, j < 2 → i ≠ j → (Cond.not (Cond.eq (tmS i) (tmS j)) ∈ flS ∨ Cond.not (Cond.eq (tmS j) (tmS i)) ∈ flS) := by decide +kernel
set_option maxHeartbeats 4000000 in
set_option maxRecDepth 100000 in
theorem whole_start {p : Program} {e : Env} {s : State} {m : MethodId} {below : List Frame} {meth : Method} {c : Code} (l : Launch) {b L : Nat} {xs : Nat → Int32} (hL : L ≤ 3072) (C0 : lw_At p s m meth c b L xs) : W p l e room_1 s m #[Value.ref b] below meth c s.heap [] 0 0 (lw_Z below #[Value.ref b] s) (entryFrame m ([Value.ref b] : List Value).toArray 4) := by
  obtain ⟨hx, hb, hr, hml, hown, hts0, hX, hbl, hlocks, hgv⟩ := id C0
  have hts : ∀ w ∈ gw, w.before #[Value.ref b] s = true := fun w hw => hts0 w (List.mem_filter.mp hw).1
  have hfl : ∀ w ∈ flS, w.before #[Value.ref b] s = true := flat_of_before _ hgv
  have hA : ∀ a : Nat, a < s.heap.size → ¬ (fun q : Nat => s.heap.size ≤ q) a := fun a h => Nat.not_le.mpr h
  have hk0 : ∀ ci : Nat, ∃ q : ClassId × (Nat → Nat), ci < 10 → u_Kn s (clS ci) (clT ci) (clN ci) q.1 q.2 := fun ci => by
    by_cases hci : ci < 10
    · obtain ⟨cC, iS, h⟩ := u_known (C := clS ci) (T := clT ci) (N := clN ci) (n := clN ci) hts (cl_ws hci) (hts _ (it_all hci))
      exact ⟨(cC, iS), fun _ => h⟩
    · exact ⟨(m.cls, fun _ => 0), fun h => absurd h hci⟩
  obtain ⟨fK, hfK⟩ := Classical.axiomOfChoice hk0
  have pr : ∀ ty : FieldType, (Cond.arrayClass ty).before #[Value.ref b] s = true → ∃ cA : ClassId, ArrOfT s cA ty ∧ s.vm.findClass ("[" ++ ty.toString) = some cA := fun ty h => by
    obtain ⟨cA, kA, comp, h1, h2, h3⟩ := Cond.arrayClass_spec h
    exact ⟨cA, fun n z => ⟨fun k h => (by cases h), kA, h2, comp, h3⟩, h1⟩
  have ob : ∀ C : String, (Cond.arrayOver (.object C)).before #[Value.ref b] s = true → ∃ cA : ClassId, ArrOfT s cA (.object C) ∧ va_RA s cA (.object C) := fun C h => by
    obtain ⟨comp, cA, kA, h1, h2, h3, h4, h5⟩ := Cond.arrayOver_spec h
    exact ⟨cA, fun n z => ⟨fun k h => (by cases h), kA, h3, comp, h4⟩, kA, comp, h3, h4, h1, h5⟩
  have o4 := ob "MaskedThrows$Program" (hts0 _ (List.mem_append_right _ (List.mem_of_getElem? (i := 64) (by decide +kernel))))
  have o5 := ob "MaskedThrows$Fiber" (hts0 _ (List.mem_append_right _ (List.mem_of_getElem? (i := 179) (by decide +kernel))))
  have o6 := ob "MaskedThrows$Body" (hts0 _ (List.mem_append_right _ (List.mem_of_getElem? (i := 213) (by decide +kernel))))
  have ha0 : ∀ t : Nat, ∃ cA : ClassId, t < 7 → ArrOfT s cA (tyO t) ∧ va_RA s cA (tyO t) := fun t => by
    by_cases ht : t < 7
    · rcases (by omega : t = 0 ∨ t = 1 ∨ t = 2 ∨ t = 3 ∨ t = 4 ∨ t = 5 ∨ t = 6) with rfl | rfl | rfl | rfl | rfl | rfl | rfl
      · obtain ⟨cA, h⟩ := pr .int (hts _ aw0); exact ⟨cA, fun _ => h⟩
      · obtain ⟨cA, h⟩ := pr .long (hts _ aw1); exact ⟨cA, fun _ => h⟩
      · obtain ⟨cA, h⟩ := pr .boolean (hts _ aw2); exact ⟨cA, fun _ => h⟩
      · obtain ⟨cA, h⟩ := pr .byte (hts _ aw3); exact ⟨cA, fun _ => h⟩
      · obtain ⟨cA, h⟩ := o4; exact ⟨cA, fun _ => h⟩
      · obtain ⟨cA, h⟩ := o5; exact ⟨cA, fun _ => h⟩
      · obtain ⟨cA, h⟩ := o6; exact ⟨cA, fun _ => h⟩
    · exact ⟨m.cls, fun h => absurd h ht⟩
  obtain ⟨fA, hfA⟩ := Classical.axiomOfChoice ha0
  obtain ⟨adK, adV, hS, hSt⟩ := vk_Sof (args := #[Value.ref b]) (s := s) (N := 2) (tm := tmS) (len := sLen) (byt := sByt) (A := fun q : Nat => s.heap.size ≤ q) (by decide) (fun i hi => hfl _ (tS1 i hi).1) (fun i hi => hfl _ (tS1 i hi).2.1) (fun i hi => hfl _ (tS1 i hi).2.2.1) (fun i hi => hfl _ (tS1 i hi).2.2.2) (fun i hi j hj => hfl _ (tS2 i hi j hj)) (fun i j hi hj hij => (tS3 i hi j hj hij).elim (fun h => Or.inl (hfl _ h)) (fun h => Or.inr (hfl _ h))) hA
  generalize hEq : (((fun q => (fK q).1, fun q => (fK q).2), fA, fun i => if i = 0 then b else if i < 3 then adK (i - 1) else s.heap.size + i - 3, s.heap.size, s.heap, L, xs) : En) = E
  have e0 : ea E 0 = b := by rw [← hEq]; rfl
  have e1 : ∀ i, i < 2 → ea E (i + 1) = adK i := fun i hi => by
    rw [← hEq]
    show (if i + 1 = 0 then b else if i + 1 < 3 then adK (i + 1 - 1) else _) = _
    rw [if_neg (by omega), if_pos (by omega), Nat.add_sub_cancel]
  have e3 : ∀ i, 3 ≤ i → ea E i + 3 = s.heap.size + i := fun i hi => by
    rw [← hEq]
    show (if i = 0 then b else if i < 3 then adK (i - 1) else s.heap.size + i - 3) + 3 = _
    rw [if_neg (by omega), if_neg (by omega)]; omega
  have eSz : eS E = s.heap.size := by rw [← hEq]; rfl
  have eGz : eG E = s.heap := by rw [← hEq]; rfl
  have eLz : eL E = L := by rw [← hEq]; rfl
  have eXz : eX E = xs := by rw [← hEq]; rfl
  have eDz : eD E = (fun q => (fK q).1, fun q => (fK q).2) := by rw [← hEq]; rfl
  have eAz : eA E = fA := by rw [← hEq]; rfl
  have eNz : eNew E = fun q : Nat => s.heap.size ≤ q := by unfold eNew; rw [eSz]
  have hE : eOK E := by
    refine ⟨fun i hi => by rw [eSz]; exact e3 i hi, fun i hi => ?_, by rw [eGz, eSz]⟩
    rw [eSz]
    by_cases h0 : i = 0
    · rw [h0, e0]; exact hbl
    · obtain ⟨k, rfl⟩ : ∃ k, i = k + 1 := ⟨i - 1, by omega⟩
      rw [e1 k (by omega)]
      obtain ⟨cell, h1, -⟩ := (hS.1 k (by omega)).1
      exact (Array.getElem?_eq_some_iff.mp h1).1
  have hF : eF E s := by
    refine ⟨⟨fun q r hq => ?_, fun k r hk => ?_⟩, fun w hw => ?_, ⟨vk_R.of (hts0 _ (List.mem_append_right _ (List.mem_of_getElem? (i := 399) (by decide +kernel)))) ?_, vk_R.of (hts0 _ (List.mem_append_right _ (List.mem_of_getElem? (i := 454) (by decide +kernel)))) ?_⟩, ⟨adV, ?_⟩, ?_, ?_, ⟨va_AO.of (hts0 _ (List.mem_append_right _ (List.mem_of_getElem? (i := 64) (by decide +kernel)))), va_AO.of (hts0 _ (List.mem_append_right _ (List.mem_of_getElem? (i := 179) (by decide +kernel)))), va_AO.of (hts0 _ (List.mem_append_right _ (List.mem_of_getElem? (i := 213) (by decide +kernel))))⟩, ?_⟩
    · have hc : q < 10 := (List.getElem?_eq_some_iff.mp hq).1
      rw [cl_get hc] at hq
      cases hq
      rw [eDz]
      exact hfK q hc
    · have hc : k < 7 := (List.getElem?_eq_some_iff.mp hk).1
      rw [tyl_get E hc] at hk
      cases hk
      rw [eAz]
      exact hfA k hc
    · have hn := (List.mem_filter.mp hw).2
      have hb9 := hts0 w (List.mem_append_right _ (List.mem_filter.mp hw).1)
      cases w <;> first | exact va_Nw.of rfl hb9 | cases hn
    · rw [e1 0 (by decide)]; exact hSt 0 (by decide)
    · rw [e1 1 (by decide)]; exact hSt 1 (by decide)
    · rw [eNz, eGz]
      exact ⟨fun i hi => by have h9 := hS.1 i hi; rw [← e1 i hi] at h9; exact h9, fun i j hi hj h => hS.2 i j hi hj ((e1 i hi).symm.trans (h.trans (e1 j hj)))⟩
    · rw [eNz, eGz]
      exact va_Zof (args := #[Value.ref b]) (hts0 _ (List.mem_append_right _ (List.mem_of_getElem? (i := 409) (by decide +kernel)))) (hts0 _ (List.mem_append_right _ (List.mem_of_getElem? (i := 11) (by decide +kernel)))) (va_eqt (hfl _ (by decide +kernel))) hA
    · rw [e0, eLz, eXz, eGz]; exact hX
    · rw [eNz, eGz]
      exact va_Zqof (args := #[Value.ref b]) (hts0 _ (List.mem_append_right _ (List.mem_of_getElem? (i := 417) (by decide +kernel)))) (hts0 _ (List.mem_append_right _ (List.mem_of_getElem? (i := 13) (by decide +kernel)))) (hfl _ (by decide +kernel)) hA
  have hC : Cx E 197 p s m #[Value.ref b] meth c := ⟨hE, hx, hb, hr, hml, hown, hts, hlocks, fun h => absurd h (by decide +kernel), hF, by rw [eSz]; exact Nat.le_refl _⟩
  have hP : hp E (fun _ => .inr (99, [])) 3 s.heap := ⟨fun k q h => by simp [wl] at h, ⟨Nat.le_refl _, by rw [eSz]⟩, fun q _ => by rw [eGz]⟩
  have hl := lv_entry ([.ref b]) (n := 4) (Nat.le_of_ble_eq_true rfl)
  rw [lg_entry_eq]
  generalize (lg_sl ([.ref b]) ++ List.replicate (4 - (lg_sl ([.ref b])).length) Slot.unset).toArray = ls at hl ⊢
  have hl2 : lv_has ls (mL 197) ([(0, .ref 0)].map (tvp (ea E))) := by
    show lv_has ls 4 [(0, .ref (ea E 0))]
    rw [e0]; exact hl
  have hW := law_start (xs := xs) (L := L) hL l E p e s m #[Value.ref b] below meth c hC s.heap [] (fun q hq => by cases hq) hP ls hl2
  intro T hT X
  obtain ⟨t, a1, a2⟩ := hW T hT X
  exact ⟨t, a1, a2 ⟨eXz, eLz⟩ ⟨by rw [e0], eSz⟩⟩
-- ===== YOUR PART ENDS =====
set_option maxHeartbeats 4000000 in
theorem lw_walk (l : Launch) (b : Addr) (xs : List Int32) : MetFree l x (headSpec (Jvm.Cond.code x code maxLocals ret :: tables_1) room_1) (lw_P b xs) (fun _ _ _ _ _ => True) lw_Q := by
  refine MetFree.of_bodyS (code := code) (maxLocals := maxLocals) (ret := ret) (by decide) ?_ ?_
  · intro args s m h hn
    obtain ⟨meth, c, h1, h2, h3, h4, h5, h6, -, -⟩ := Cond.code_spec hn (atoms_spec (ws := Jvm.Cond.code x code maxLocals ret :: tables_1) h _ List.mem_cons_self)
    exact ⟨meth, c, h1, h2, h3, h4, h5, h6⟩
  · intro p e s m args below meth c s₁ B hml0 hP _
    obtain ⟨rfl, hx, hbd, hgv⟩ := hP
    obtain ⟨scr, harrAt, hlist, hof, hsmall⟩ := hx
    obtain ⟨hcb, hkn, -, -⟩ := State.arrayAt?_spec harrAt
    have hown : s.vm.findClass R_law = some m.cls := findClass_of_methodNamed B.named
    have hts0 : ∀ c ∈ (Jvm.Cond.code x code maxLocals ret :: tables_1), c.before #[Value.ref b] s = true := atoms_spec (ws := Jvm.Cond.code x code maxLocals ret :: tables_1) B.pre
    have hts : ∀ w ∈ lw_tbl, w.before #[Value.ref b] s = true := k2_hts_sels lw_privs (fun w hw => hts0 w (List.mem_cons_of_mem _ hw)) lw_privs_ok
    have hml : c.maxLocals = 4 := B.maxLocals_eq (hts0 _ List.mem_cons_self)
    have X₀ : Stand p l e room_1 s m #[Value.ref b] below meth c s₁ [] 0 0 := Stand.of_body B
    have hh0 : s₁.heap = s.heap := by rw [B.state]; rfl
    have hsz : scr.slots.size = xs.length := by rw [← Array.length_toList, hlist, List.length_map]
    have hval : ∀ j : Nat, j < xs.length → scr.slots[j]? = some (.int (xs.getD j 0)) := fun j hj => by
      rw [← Array.getElem?_toList, hlist]
      simp [hj]
    have hbl : b < s.heap.size := (Array.getElem?_eq_some_iff.mp hcb).1
    have hX : va_X b xs.length (fun j => xs.getD j 0) s s.heap := ⟨scr, hcb, hof, hkn, hsz, hval⟩
    have K : W p l e room_1 s m #[Value.ref b] below meth c s₁.heap [] 0 0 (lw_Z below #[Value.ref b] s) (entryFrame m ([Value.ref b] : List Value).toArray 4) := by
      rw [hh0]
      exact whole_start l hbd ⟨B.exec, B.bytes, B.returns, hml, hown, hts, hX, hbl, B.notSynchronized, hgv⟩
    obtain ⟨t, a1, o, b1, b2, b3⟩ := K s₁ rfl X₀
    exact ⟨t, o, a1, b1, b2, b3⟩
theorem lw_pre_spec {args : Array Value} {s : State} (h : (Jvm.Cond.and given_1 narrow_1).before args s = true) (hr : rest_1_c.before args s = true) : ∃ (b : Addr) (xs : List Int32), lw_P b xs args s := by
  have hs := flat_of_before _ h
  have hq := flat_of_before _ hr
  have hc : (Cond.count 1).before args s = true := hs _ (by decide +kernel)
  have harr : (Cond.arrayOf (.arg 0) .int).before args s = true := hs _ (by decide +kernel)
  have hle : (Cond.le (.length (.arg 0)) (.int 3072)).before args s = true := hs _ (by decide +kernel)
  have hlen : (Cond.isInt (.length (.arg 0))).before args s = true := hq _ (by decide +kernel)
  have hall : (Cond.all (.arg 0) (.isInt (.elem (.arg 0) (.index 0)))).before args s = true := hq _ (by decide +kernel)
  obtain ⟨b, xs, hb, hx⟩ := State.ints_of_pre rfl harr hlen hall
  have hsm : xs.length < 2 ^ 31 := hx.choose_spec.2.2.2
  have hev : (Term.length (.arg 0)).eval args s none [] s = some (.int xs.length.toInt32) := hx.length_eval hb
  have hv := Cond.le_ints hev (show (Term.int 3072).eval args s none [] s = some (.int 3072) from rfl)
  have hd : xs.length.toInt32 ≤ 3072 := by
    simpa [Cond.before, Cond.holds, hv] using hle
  have hN : xs.length ≤ 3072 := (Int32.ofNat_le_ofNat hsm (by decide)).mp (show Int32.ofNat xs.length ≤ Int32.ofNat 3072 from hd)
  exact ⟨b, xs, Cond.one_arg hc (show args[0]? = some (.ref b) from hb), hx, hN, h⟩
theorem lw_comes (l : Launch) : Comes l x (Jvm.Cond.code x code maxLocals ret :: tables_1) room_1 (fun tb e args s => Calls_1 tb e args s ∧ rest_1 tb e args s ∧ Pre_1 tb e args s)
    (fun _ _ args s o t => lw_Q args s o t) := by
  intro p e ha hc hk s m args below hf hfit hheap happ hpre
  obtain ⟨b, xs, hP⟩ := lw_pre_spec hpre.2.2 hpre.2.1
  obtain ⟨k, o, h1, h2, h3, hQ⟩ := lw_walk l b xs p e ha hc hk s m args below hf ((Spec.applies_iff_loose hf).mp happ).1 hP trivial
  exact ⟨k, o, h1, h2, h3, hQ⟩
theorem lw_frame {s t : State} {o : Outcome} {args : Array Value} (h : Framed s o t [] 600000 7302250) :
    Framed s o t (fieldLocs frame_1_writes args s ++ arrayLocs frame_1_arrays args s ++ staticLocs frame_1_statics s) 600000 7302250 := h
theorem lw_limb (L : Cond) (hL : ∀ (args : Array Value) (s t : State), L.after args s (.returned (some (.int 1))) t = true) :
    ArmFor flags0 classFile x code maxLocals ret World_1 tables_1 room_1 Calls_1 rest_1 Pre_1
      (fun tb e a s o t => postC L tb e a s o t ∧ Framed s o t (fieldLocs frame_1_writes a s ++ arrayLocs frame_1_arrays a s ++ staticLocs frame_1_statics s) 600000 7302250) := by
  intro l _ _ _ p e ha hc hk s m args below hf hfit hheap happ hpre
  obtain ⟨k, o, h1, h2, h3, rfl, hF⟩ := lw_comes l p e ha hc hk s m args below hf hfit hheap happ hpre
  exact ⟨k, _, h1, h2, h3, hL args s _, lw_frame hF⟩
theorem i_vc : Claimed_1_1 ∧ Claimed_1_2 := ⟨lw_limb limb_1_1 (fun args s t => by simp [limb_1_1, Cond.after, Cond.holds, Cond.value]), lw_limb limb_1_2 (fun args s t => Cond.after_iff.mpr (by
  first | (rw [show limb_1_2 = Cond.eq .result (.int 1) from rfl, Cond.eq_ints (x := 1) (y := 1) rfl rfl]; simp; done) | (simp [limb_1_2, Cond.value, Term.eval]; done)))⟩
