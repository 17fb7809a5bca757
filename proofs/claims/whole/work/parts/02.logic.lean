/-! a light logic over the kit's W: memory is a function from logical addresses (0 the script, 1 and 2 the two texts, 3 .. what was made, in order) -/
abbrev Ce : Type := (Nat × vp_A) ⊕ (Nat × List Value)
abbrev Me : Type := Nat → Ce
def tv (ad : Nat → Nat) : Value → Value
  | .ref i => .ref (ad i)
  | v => v
def tA (ad : Nat → Nat) : vp_A → vp_A
  | (n, .inl f) => (n, .inl f)
  | (n, .inr (.inl f)) => (n, .inr (.inl f))
  | (n, .inr (.inr (.inl f))) => (n, .inr (.inr (.inl f)))
  | (n, .inr (.inr (.inr (.inl f)))) => (n, .inr (.inr (.inr (.inl f))))
  | (n, .inr (.inr (.inr (.inr f)))) => (n, .inr (.inr (.inr (.inr (fun j => (f j).map ad)))))
def tc (dA : Nat → ClassId) (ad : Nat → Nat) : Ce → va_E
  | .inl (t, a) => .inl (dA t, tA ad a)
  | .inr (ci, fs) => .inr (ci, fs.map (tv ad))
/-- where the machine's things lie: classes and slots, array classes, addresses, the first new address, the heap at the start, the script -/
abbrev En : Type := va_G × (Nat → ClassId) × (Nat → Nat) × Nat × Heap × Nat × (Nat → Int32)
def eD (E : En) : va_G := E.1
def eA (E : En) : Nat → ClassId := E.2.1
def ea (E : En) : Nat → Nat := E.2.2.1
def eS (E : En) : Nat := E.2.2.2.1
def eG (E : En) : Heap := E.2.2.2.2.1
def eL (E : En) : Nat := E.2.2.2.2.2.1
def eX (E : En) : Nat → Int32 := E.2.2.2.2.2.2
def eOK (E : En) : Prop := (∀ i, 3 ≤ i → ea E i + 3 = eS E + i) ∧ (∀ i, i < 3 → ea E i < eS E) ∧ (eG E).size = eS E
def tyl (E : En) : List (ClassId × FieldType) := [(eA E 0, .int), (eA E 1, .long), (eA E 2, .boolean), (eA E 3, .byte), (eA E 4, .object "MaskedThrows$Program"), (eA E 5, .object "MaskedThrows$Fiber"), (eA E 6, .object "MaskedThrows$Body")]
def tyO (t : Nat) : FieldType := match t with
  | 0 => .int
  | 1 => .long
  | 2 => .boolean
  | 3 => .byte
  | 4 => .object "MaskedThrows$Program"
  | 5 => .object "MaskedThrows$Fiber"
  | _ => .object "MaskedThrows$Body"
theorem tyl_get (E : En) {t : Nat} (h : t < 7) : (tyl E)[t]? = some (eA E t, tyO t) := by
  match t, h with
  | 0, _ => rfl
  | 1, _ => rfl
  | 2, _ => rfl
  | 3, _ => rfl
  | 4, _ => rfl
  | 5, _ => rfl
  | 6, _ => rfl
def nsw : List Cond := tables_1.filter (fun w => match w with | .methodLinkNest .. => true | _ => false)
def eNew (E : En) (q : Nat) : Prop := eS E ≤ q
def sLen : List Nat := [114, 11]
def sTx (i : Nat) : String := if i = 0 then "note  if    else  while take  to    put   in    throw send  mask  hard  open  try   catch first use   last  within" else "=;(){}<#+-*"
def sByt : List (List Int32) := [(sTx 0).toList.map (fun ch => Int32.ofNat ch.toNat), (sTx 1).toList.map (fun ch => Int32.ofNat ch.toNat)]
/-- what stays true of the tables, the texts, the script -/
def eF (E : En) (U : State) : Prop := va_K (eD E) classes (tyl E) U ∧ (∀ w ∈ nsw, va_Nw w U) ∧
  (vk_R "MaskedThrows$Tokens" 54 (sTx 0) (ea E 1) U ∧ vk_R "MaskedThrows$Tokens" 62 (sTx 1) (ea E 2) U) ∧
  (∃ adV : Nat → Nat, vk_S 2 sLen sByt (fun i => ea E (i + 1)) adV (eNew E) U (eG E)) ∧ va_Z "java/lang/String" "COMPACT_STRINGS" "Z" (.int 1) (eNew E) U (eG E) ∧
  va_X (ea E 0) (eL E) (eX E) U (eG E) ∧ (va_AO "MaskedThrows$Program" U ∧ va_AO "MaskedThrows$Fiber" U ∧ va_AO "MaskedThrows$Body" U) ∧ va_Zq "jdk/internal/util/Preconditions" "SIOOBE_FORMATTER" "Ljava/util/function/BiFunction;" (eNew E) U (eG E)
theorem eF_warm {E : En} {s U : State} (hW : s.WarmedH U.vm) (h : eF E s) : eF E U := by
  obtain ⟨h1, h2, ⟨h3, h4⟩, ⟨adV, h5⟩, h6, h7, ⟨h8, h9, h10⟩, h11⟩ := h
  refine ⟨va_K.moved hW.alike h1, fun w hw => ?_, ⟨vk_R.warm hW h3, vk_R.warm hW h4⟩, ⟨adV, vk_S.moved hW.alike h5⟩, va_Z.moved hW.alike h6, va_X.moved hW.alike h7, ⟨va_AO.moved hW.alike h8, va_AO.moved hW.alike h9, va_AO.moved hW.alike h10⟩, va_Zq.moved hW.alike h11⟩
  have hn := (List.mem_filter.mp hw).2
  cases w <;> first | exact va_Nw.warmM hW (h2 _ hw) | cases hn
theorem eF_same {E : En} {s U : State} (hv : U.vm = s.vm) (h : eF E s) : eF E U := by
  have hA : s.vm.Alike U.vm := by rw [hv]; exact Vm.Alike.refl _
  obtain ⟨h1, h2, ⟨h3, h4⟩, ⟨adV, h5⟩, h6, h7, ⟨h8, h9, h10⟩, h11⟩ := h
  refine ⟨va_K.moved hA h1, fun w hw => ?_, ⟨vk_R.same hv h3, vk_R.same hv h4⟩, ⟨adV, vk_S.moved hA h5⟩, va_Z.moved hA h6, va_X.moved hA h7, ⟨va_AO.moved hA h8, va_AO.moved hA h9, va_AO.moved hA h10⟩, va_Zq.moved hA h11⟩
  have hn := (List.mem_filter.mp hw).2
  cases w <;> first | exact va_Nw.same rfl hv.symm (h2 _ hw) | cases hn
/-- the cells that were made, as the kit's list -/
def wl (E : En) (M : Me) (top : Nat) : va_W := (List.range (top - 3)).map (fun i => (ea E (i + 3), tc (eA E) (ea E) (M (i + 3))))
theorem wl_get {E : En} {M : Me} {top a : Nat} (h1 : 3 ≤ a) (h2 : a < top) : (wl E M top)[a - 3]? = some (ea E a, tc (eA E) (ea E) (M a)) := by
  have : a - 3 < top - 3 := by omega
  simp [wl, List.getElem?_map, List.getElem?_range this, Nat.sub_add_cancel h1]
theorem wl_at {E : En} {M : Me} {top k : Nat} {q : Nat × va_E} (h : (wl E M top)[k]? = some q) : k + 3 < top ∧ q = (ea E (k + 3), tc (eA E) (ea E) (M (k + 3))) := by
  unfold wl at h
  rw [List.getElem?_map] at h
  by_cases hk : k < top - 3
  · rw [List.getElem?_range hk] at h
    exact ⟨by omega, (Option.some.inj h).symm⟩
  · rw [List.getElem?_eq_none (by simpa using hk)] at h
    cases h
theorem wl_D {E : En} (hE : eOK E) (M : Me) (top : Nat) : va_D (eNew E) (wl E M top) := by
  refine ⟨fun i j p q hi hj hpq => ?_, fun k q hk => ?_⟩
  · obtain ⟨-, rfl⟩ := wl_at hi
    obtain ⟨-, rfl⟩ := wl_at hj
    have h1 := hE.1 (i + 3) (by omega)
    have h2 := hE.1 (j + 3) (by omega)
    dsimp only at hpq
    omega
  · obtain ⟨-, rfl⟩ := wl_at hk
    have h1 := hE.1 (k + 3) (by omega)
    show eS E ≤ ea E (k + 3)
    omega
theorem wl_set {E : En} {M : Me} {top a : Nat} (h1 : 3 ≤ a) {c : Ce} {e : va_E} (he : e = tc (eA E) (ea E) c) : (wl E M top).set (a - 3) (ea E a, e) = wl E (va_up M a c) top := by
  subst he
  apply List.ext_getElem?
  intro k
  by_cases hk : k = a - 3
  · subst hk
    by_cases hl : a < top
    · rw [wl_get h1 hl, List.getElem?_set_self (by simp [wl]; omega), va_up_self]
    · rw [List.getElem?_eq_none (by simp [wl]; omega), List.getElem?_eq_none (by simp [wl]; omega)]
  · rw [List.getElem?_set_ne (fun h => hk h.symm)]
    by_cases hl : k + 3 < top
    · have e1 := wl_get (E := E) (M := M) (a := k + 3) (by omega) hl
      have e2 := wl_get (E := E) (M := va_up M a c) (a := k + 3) (by omega) hl
      rw [Nat.add_sub_cancel] at e1 e2
      rw [e1, e2, va_up_ne _ _ (by omega)]
    · rw [List.getElem?_eq_none (by simp [wl]; omega), List.getElem?_eq_none (by simp [wl]; omega)]
def hp (E : En) (M : Me) (top : Nat) (H : Heap) : Prop := va_P (eD E) classes (wl E M top) H ∧ (3 ≤ top ∧ H.size + 3 = eS E + top) ∧ ∀ q, q < eS E → H[q]? = (eG E)[q]?
theorem hp_S {E : En} (hE : eOK E) {M : Me} {top : Nat} {H : Heap} (h : hp E M top H) {locs : List Loc} (hl : ∀ q ∈ locs, eS E ≤ q.base) : va_S (eNew E) (eG E) H locs :=
  ⟨by rw [hE.2.2]; have := h.2.1; omega, fun q h1 _ => h.2.2 q (by rw [← hE.2.2]; exact h1), hl⟩
/-- out of a row that writes -/
theorem hp_set {E : En} (hE : eOK E) {M : Me} {top a : Nat} {H H1 : Heap} {locs locs1 : List Loc} {e : va_E} {c : Ce} (h1 : 3 ≤ a) (h2 : a < top) (h : hp E M top H) (he : e = tc (eA E) (ea E) c) (hP : va_P (eD E) classes ((wl E M top).set (a - 3) (ea E a, e)) H1) (hS : va_S (eNew E) (eG E) H1 locs1) (hz : H1.size = H.size) : hp E (va_up M a c) top H1 ∧ ∀ q ∈ locs1, eS E ≤ q.base := by
  rw [wl_set h1 he] at hP
  exact ⟨⟨hP, ⟨h.2.1.1, by rw [hz]; exact h.2.1.2⟩, fun q hq => hS.2.1 q (by rw [hE.2.2]; exact hq) (fun z => by have z1 : eS E ≤ q := z; omega)⟩, hS.2.2⟩
theorem tv_cat (ad : Nat → Nat) (v : Value) : (tv ad v).category = v.category := by cases v <;> rfl
def tvp (ad : Nat → Nat) (q : Nat × Value) : Nat × Value := (q.1, tv ad q.2)
def gl (lv : List (Nat × Value)) (i : Nat) : Option Value := match lv with
  | [] => none
  | q :: l => if q.1 = i then some q.2 else gl l i
theorem gl_mem {lv : List (Nat × Value)} {i : Nat} {v : Value} (h : gl lv i = some v) : (i, v) ∈ lv := by
  induction lv with
  | nil => cases h
  | cons q l ih =>
    unfold gl at h
    by_cases hq : q.1 = i
    · rw [if_pos hq] at h
      have : q = (i, v) := Prod.ext hq (Option.some.inj h)
      rw [this]; exact List.mem_cons_self
    · rw [if_neg hq] at h
      exact List.mem_cons_of_mem _ (ih h)
theorem lh_at {ad : Nat → Nat} {ls : Array Slot} {nL : Nat} {lv : List (Nat × Value)} (h : lv_has ls nL (lv.map (tvp ad))) {i : Nat} {v : Value} (hk : gl lv i = some v) : ls[i]? = some (.val (tv ad v)) :=
  h.2.2 (i, tv ad v) (List.mem_map.mpr ⟨(i, v), gl_mem hk, rfl⟩)
/-- a store of one word, of two words -/
def st1 (lv : List (Nat × Value)) (i : Nat) (v : Value) : List (Nat × Value) := (i, v) :: lv.filter (fun q => !(q.1 == i) && !(q.1 + 1 == i && q.2.category == 2))
def st2 (lv : List (Nat × Value)) (i : Nat) (v : Value) : List (Nat × Value) := (i, v) :: lv.filter (fun q => !(q.1 == i) && (!(q.1 == i + 1) && !(q.1 + 1 == i && q.2.category == 2)))
theorem st1_map (ad : Nat → Nat) (lv : List (Nat × Value)) (i : Nat) (v : Value) : (i, tv ad v) :: (lv.map (tvp ad)).filter (fun q => !(q.1 == i) && !(q.1 + 1 == i && q.2.category == 2)) = (st1 lv i v).map (tvp ad) := by
  rw [st1, List.map_cons, List.filter_map]
  congr 2
  apply List.filter_congr
  intro q _
  simp only [Function.comp, tvp, tv_cat]
theorem st2_map (ad : Nat → Nat) (lv : List (Nat × Value)) (i : Nat) (v : Value) : (i, tv ad v) :: (lv.map (tvp ad)).filter (fun q => !(q.1 == i) && (!(q.1 == i + 1) && !(q.1 + 1 == i && q.2.category == 2))) = (st2 lv i v).map (tvp ad) := by
  rw [st2, List.map_cons, List.filter_map]
  congr 2
  apply List.filter_congr
  intro q _
  simp only [Function.comp, tvp, tv_cat]
def Cx (E : En) (j : Nat) (p : Program) (s : State) (m : MethodId) (args : Array Value) (meth : Method) (c : Code) : Prop :=
  eOK E ∧ p.tables.exec = Jvm.exec ∧ c.code = mB j ∧ meth.sig.returnType = mR j ∧ c.maxLocals = mL j ∧ s.vm.findClass (mY j).cls = some m.cls ∧ (∀ w ∈ gw, w.before args s = true) ∧ meth.locks = false ∧ ((mY j).name = "<init>" → meth.name = "<init>") ∧ eF E s ∧ eS E ≤ s.heap.size
abbrev Zt : Type := En → Array Value → State → List Frame → State → Prop
/-- at pc of method j, with locals lv, stack st, memory M: the machine comes to Z -/
def Wp (R : Room) (j : Nat) (Z : Zt) (k n pc : Nat) (lv : List (Nat × Value)) (st : List Value) (M : Me) (top : Nat) : Prop :=
  ∀ (l : Launch) (E : En) (p : Program) (e : Env) (s : State) (m : MethodId) (args : Array Value) (below : List Frame) (meth : Method) (c : Code), Cx E j p s m args meth c →
    ∀ (H : Heap) (locs : List Loc), (∀ q ∈ locs, eS E ≤ q.base) → hp E M top H → ∀ ls : Array Slot, lv_has ls (mL j) (lv.map (tvp (ea E))) →
      W p l e R s m args below meth c H locs k n (Z E args s below) (F0 m pc ls (st.map (tv (ea E))))
def cPc (E : En) (av : List Value) (M : Me) (top : Nat) : Array Value → State → Prop := fun v U => v = (av.map (tv (ea E))).toArray ∧ hp E M top U.heap ∧ eF E U
abbrev Po : Type := Option Value → Me → Nat → Prop
def cQc (E : En) (post : Po) : Array Value → State → Outcome → State → Prop := fun _ _ oc t => ∃ (r : Option Value) (M1 : Me) (top1 : Nat), oc = .returned (r.map (tv (ea E))) ∧ post r M1 top1 ∧ hp E M1 top1 t.heap
abbrev rmd (d mc ms : Nat) : Room := { frames := d, cells := mc, slots := ms, locals := 40 * d }
/-- method j with these arguments in memory M: it returns, and post -/
def Ct (d mc ms j : Nat) (av : List Value) (M : Me) (top : Nat) (post : Po) : Prop :=
  ∀ (l : Launch) (E : En), eOK E → Met l (mY j) (mW j) (rmd d mc ms) (cPc E av M top) (cQc E post) mc ms (eNew E)
def mZ (post : Po) (mc ms : Nat) : Zt := fun E args s below => MQ below (cQc E post) args s mc ms (eNew E)
/-- a method's contract, out of its walk -/
theorem ct_of {d mc ms j : Nat} {av : List Value} {M : Me} {top : Nat} {post : Po} (hy : plainName (mY j).cls = true) (hl : (lg_sl av).length ≤ mL j) (h : Wp (rmd d mc ms) j (mZ post mc ms) 0 0 0 (lv_args 0 av) [] M top) : Ct d mc ms j av M top post := by
  intro l E hE
  refine Met.ofW (cc := mB j) (maxL := mL j) (ret := mR j) hy rfl ?_
  intro p e s m args below meth c s₁ B hml hv
  obtain ⟨rfl, hH, hF⟩ := hv
  have hts := atoms_spec (ws := mW j) B.pre
  have hc : Cx E j p s m (av.map (tv (ea E))).toArray meth c := ⟨hE, B.exec, B.bytes, B.returns, hml, findClass_of_methodNamed B.named, fun w hw => hts w (List.mem_cons_of_mem _ hw), B.notSynchronized, fun hn => (name_of_methodNamed B.named B.method).1.trans hn, hF, by have := hH.2.1; omega⟩
  have hcat : ∀ vs : List Value, (lg_sl (vs.map (tv (ea E)))).length = (lg_sl vs).length := by
    intro vs
    induction vs with
    | nil => rfl
    | cons v vs ih =>
      simp only [lg_sl, List.map_cons, List.flatMap_cons, List.length_append] at ih ⊢
      rw [ih, tv_cat]
      by_cases hv : v.category = 2 <;> simp [hv]
  have hlv := lv_entry (av.map (tv (ea E))) (n := mL j) (by rw [hcat]; exact hl)
  rw [lg_entry_eq]
  generalize (lg_sl (av.map (tv (ea E))) ++ List.replicate (mL j - (lg_sl (av.map (tv (ea E)))).length) Slot.unset).toArray = ls at hlv ⊢
  have hma : ∀ (vs : List Value) (i : Nat), lv_args i (vs.map (tv (ea E))) = (lv_args i vs).map (tvp (ea E)) := by
    intro vs
    induction vs with
    | nil => intro i; rfl
    | cons v vs ih =>
      intro i
      simp only [List.map_cons, lv_args, tv_cat, ih, tvp]
  rw [hma] at hlv
  exact h l E p e s m _ below meth c hc s.heap [] (fun q hq => by cases hq) hH ls hlv
