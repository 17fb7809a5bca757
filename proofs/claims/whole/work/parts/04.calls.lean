/-! making things, calls, returns, the script -/
section XC
variable {R : Room} {j : Nat} {Z : Zt} {k n pc : Nat} {lv : List (Nat × Value)} {st : List Value} {M : Me} {top : Nat}
theorem hp_lt {E : En} {top : Nat} {M : Me} {H : Heap} (h : hp E M top H) : 3 ≤ top := h.2.1.1
theorem va_def (ci : Nat) (hci : ci < 10) (ad : Nat → Nat) : ∀ q, q < clN ci → defaultValue (clY ci q) = vp_V (((List.range (clN ci)).map (fun q => defaultValue (clY ci q))).map (tv ad)) q := by
  intro q hq
  have h1 : tv ad (defaultValue (clY ci q)) = defaultValue (clY ci q) := by cases clY ci q <;> rfl
  simp [vp_V, List.getD_eq_getElem?_getD, List.getElem?_map, List.getElem?_range hq, h1]
theorem x_new {ci idx : Nat} {fs : List Value} (hd : decode (mB j) pc = .ok (.new idx, 3)) (hw : Cond.classLink (mY j).cls idx (clS ci) ∈ gw) (hi1 : Cond.instantiable (clS ci) (clN ci) ∈ gw) (hi2 : Cond.initialized (clS ci) ∈ gw) (hci : ci < 10) (hfs : (List.range (clN ci)).map (fun q => defaultValue (clY ci q)) = fs) (hk : k + 1 ≤ R.cells ∧ n + clN ci ≤ R.slots) (kk : Wp R j Z (k + 1) (n + clN ci) (pc + 3) lv (.ref top :: st) (va_up M top (.inr (ci, fs))) (top + 1)) : Wp R j Z k n pc lv st M top := by
  intro l E p e s m args below meth c C H locs hl hH ls hv
  have hts := C.2.2.2.2.2.2.1
  have hK := C.2.2.2.2.2.2.2.2.2.1.1
  have hKn := hK.1 ci _ (cl_get hci)
  refine W.newcK C.2.1 C.2.2.1 C.2.2.2.2.2.1 (hts _ hw) (hts _ hi1) (hts _ hi2) rfl hd hk.1 hk.2 hKn.2.1 rfl fun H1 kC hkC e1 z1 o1 => ?_
  obtain ⟨hH1, ht⟩ := hp_push C.1 hH (c := .inr (ci, fs)) (H1 := H1) ⟨_, cl_get hci, (u_born (clY ci) hts (cl_ws hci) hKn hkC e1 (cl_ty hci)).to (by rw [← hfs]; exact va_def ci hci (ea E))⟩ z1 o1
  rw [← ht]
  exact kk l E p e s m args below meth c C H1 locs hl hH1 ls hv
theorem x_newarr {t N : Nat} {at0 : ArrayType} {i : Int32} {a0 : vp_A} (hd : decode (mB j) pc = .ok (.newarray at0, 2)) (ht : t < 4) (hty : newarray.typeOf at0 = tyO t) (hw : Cond.arrayClass (tyO t) ∈ gw) (ha : ∀ cA : ClassId, vp_cell cA a0 = arrV cA N (fun _ => defaultValue (tyO t))) (hta : ∀ ad : Nat → Nat, tA ad a0 = a0) (hi0 : ¬ i < 0) (hN : i.toNatClampNeg = N) (hb : N * 8 ≤ 536870912) (hk : k + 1 ≤ R.cells ∧ n + N ≤ R.slots) (kk : Wp R j Z (k + 1) (n + N) (pc + 2) lv (.ref top :: st) (va_up M top (.inl (t, a0))) (top + 1)) : Wp R j Z k n pc lv (.int i :: st) M top := by
  intro l E p e s m args below meth c C H locs hl hH ls hv
  have hts := C.2.2.2.2.2.2.1
  have hK := C.2.2.2.2.2.2.2.2.2.1.1
  have hcb : componentBytes (newarray.typeOf at0) ≤ 8 := by cases at0 <;> decide
  have hNb : N * componentBytes (newarray.typeOf at0) ≤ 536870912 := Nat.le_trans (Nat.mul_le_mul_left _ hcb) hb
  refine va_newaK C.2.1 C.2.2.1 (by rw [hty]; exact hts _ hw) rfl hd rfl hi0 hN hNb hk.1 hk.2 rfl fun H1 cA e1 z1 o1 hAr hNm => ?_
  have hcA : cA = eA E t := by
    have h2 := (hK.2 t _ (tyl_get E (by omega))).2
    rw [hty] at hNm
    have h3 : s.vm.findClass ("[" ++ (tyO t).toString) = some (eA E t) := by
      rcases (by omega : t = 0 ∨ t = 1 ∨ t = 2 ∨ t = 3) with rfl | rfl | rfl | rfl <;> exact h2
    exact Option.some.inj (hNm.symm.trans h3)
  subst hcA
  obtain ⟨hH1, ht1⟩ := hp_push C.1 hH (c := .inl (t, a0)) (H1 := H1) (by
    show H1[H.size]? = some (vp_cell (eA E t) (tA (ea E) a0))
    rw [hta, ha, e1, hty]) z1 o1
  rw [← ht1]
  exact kk l E p e s m args below meth c C H1 locs hl hH1 ls hv
theorem x_anew {t ci N idx : Nat} {i : Int32} (hd : decode (mB j) pc = .ok (.anewarray idx, 3)) (hw : Cond.classLink (mY j).cls idx (clS ci) ∈ gw) (ht : 4 ≤ t ∧ t < 7) (htc : tyO t = .object (clS ci)) (hi0 : ¬ i < 0) (hN : i.toNatClampNeg = N) (hb : N * 4 ≤ 536870912) (hk : k + 1 ≤ R.cells ∧ n + N ≤ R.slots) (kk : Wp R j Z (k + 1) (n + N) (pc + 3) lv (.ref top :: st) (va_up M top (.inl (t, N, .inr (.inr (.inr (.inr (fun _ => none))))))) (top + 1)) : Wp R j Z k n pc lv (.int i :: st) M top := by
  intro l E p e s m args below meth c C H locs hl hH ls hv
  have hts := C.2.2.2.2.2.2.1
  have hF := C.2.2.2.2.2.2.2.2.2.1
  have hK := hF.1
  have hAO : va_AO (clS ci) s := by
    obtain ⟨-, -, -, -, -, -, ⟨h1, h2, h3⟩, -⟩ := hF
    rcases (by omega : t = 4 ∨ t = 5 ∨ t = 6) with rfl | rfl | rfl <;> (have h9 := FieldType.object.inj htc; rw [← h9]; assumption)
  subst hN
  refine W.anew C.2.1 C.2.2.1 C.2.2.2.2.2.1 (hts _ hw) (va_AO.use hAO) rfl hd rfl hi0 hb hk.1 hk.2 fun cA kA comp f1 f2 f3 f4 => ?_
  have hcA : cA = eA E t := by
    have h2 := (hK.2 t _ (tyl_get E ht.2)).2
    rw [htc] at h2
    obtain ⟨_, _, _, _, _, h4⟩ := h2
    exact Option.some.inj (f1.symm.trans h4)
  subst hcA
  generalize hH1 : H.push ({ cls := eA E t, slots := Array.replicate i.toNatClampNeg .null, vm := .none } : Cell) = H1
  have z1 : H1.size = H.size + 1 := by rw [← hH1, Array.size_push]
  have e1 : H1[H.size]? = some (arrV (eA E t) i.toNatClampNeg (fun _ => .null)) := by rw [← hH1, Array.getElem?_push_size, ← arrV_new]
  have o1 : ∀ q : Nat, q < H.size → H1[q]? = H[q]? := fun q hq => by rw [← hH1, Array.getElem?_push, if_neg (Nat.ne_of_lt hq)]
  obtain ⟨hH2, ht1⟩ := hp_push C.1 hH (c := .inl (t, i.toNatClampNeg, .inr (.inr (.inr (.inr (fun _ => none)))))) (H1 := H1) (by
    show H1[H.size]? = some (vp_cell (eA E t) (i.toNatClampNeg, .inr (.inr (.inr (.inr (fun _ => none))))))
    rw [vp_cell_q]; exact e1) z1 o1
  rw [← ht1]
  exact kk l E p e s m args below meth c C H1 locs hl hH2 ls hv
theorem x_objInit {idx a : Nat} (hd : decode (mB j) pc = .ok (.invokespecial idx, 3)) (hw : Cond.methodLink (mY j).cls idx objectInit ∈ gw) (hI : Cond.instanceMethod objectInit ∈ gw) (hc : Cond.code objectInit ⟨#[0xb1]⟩ 1 none ∈ gw) (hR : 1 ≤ R.frames) (hL : (st.map fun v => v.category).sum + 12 ≤ R.locals) (kk : Wp R j Z k n (pc + 3) lv st M top) : Wp R j Z k n pc lv (.ref a :: st) M top := by
  intro l E p e s m args below meth c C H locs hl hH ls hv
  have hts := C.2.2.2.2.2.2.1
  refine W.objInit C.2.1 C.2.2.1 C.2.2.2.2.2.1 (hts _ hw) (hts _ hI) (hts _ hc) rfl (by rw [C.2.2.2.2.1]; exact hv.1) rfl hd hR ?_ (kk l E p e s m args below meth c C H locs hl hH ls hv)
  have h1 : ((st.map (tv (ea E))).map fun v => v.category) = st.map fun v => v.category := by
    rw [List.map_map]; exact List.map_congr_left (fun v _ => tv_cat _ v)
  show 2 * 0 + _ + 12 ≤ _
  rw [h1]; omega
/-- what a call needs of method y, beside its link -/
def mOK (y np : Nat) : Prop := y < 197 ∧ Cond.initialized (mY y).cls ∈ gw ∧ (mY y).cls ≠ "java/lang/invoke/MethodHandle" ∧ (mY y).cls ≠ "java/lang/invoke/VarHandle" ∧ (parseMethodDescriptor (mY y).desc).map (fun d => d.parameters.length) = some np
theorem good_list {l1 : List Cond} (h : ∀ w ∈ l1, w ∈ gw) : GoodIn gw l1 := fun w hw => ⟨h w hw, gw_good (h w hw)⟩
theorem mW_in {y : Nat} (h : y < 197) : ∀ w ∈ mW y, w ∈ gw := fun w hw => by
  rcases List.mem_cons.mp hw with rfl | hw
  · exact m_code h
  · exact hw
theorem cPc_blind (E : En) (av : List Value) (M : Me) (top : Nat) : FrameBlind (cPc E av M top) := fun a U g mk h => ⟨h.1, h.2.1, eF_same (s := U) (U := U.calling g mk a) rfl h.2.2⟩
theorem st_cat (ad : Nat → Nat) (l : List Value) : ((l.map (tv ad)).map fun v => v.category) = l.map fun v => v.category := by
  rw [List.map_map]; exact List.map_congr_left (fun v _ => tv_cat _ v)
/-- behind a call -/
theorem x_back {E : En} {l : Launch} {p : Program} {e : Env} {s : State} {m : MethodId} {args : Array Value} {below : List Frame} {meth : Method} {c : Code} {H : Heap} {locs : List Loc} {mc ms : Nat} {ls : Array Slot} {st0 : List Value} {post : Po} {a : Array Value}
    (hr : va_Run p l e R s m args below meth c H locs k n mc ms (F0 m pc ls st0) (st.map (tv (ea E))) (cQc E post a) (eNew E)) (C : Cx E j p s m args meth c) (hl : ∀ q ∈ locs, eS E ≤ q.base) (hv : lv_has ls (mL j) (lv.map (tvp (ea E))))
    (kk : ∀ r M1 top1, post r M1 top1 → Wp R j Z (k + mc) (n + ms) (pc + 3) lv (r.toList ++ st) M1 top1) : W p l e R s m args below meth c H locs k n (Z E args s below) (F0 m pc ls st0) := by
  intro T hT X
  obtain ⟨v, st₀, t, T', L, h0, X', hL, e1, e2, ⟨r, M1, top1, hv1, hpost, hH1⟩, stp⟩ := hr T hT X
  have hv2 : v = r.map (tv (ea E)) := Outcome.returned.inj hv1
  subst hv2
  have hk := kk r M1 top1 hpost l E p e s m args below meth c C T'.heap (locs ++ L) (fun q hq => by
    rcases List.mem_append.mp hq with h | h
    · exact hl q h
    · exact hL q h) (by rw [e1]; exact hH1) ls hv T' rfl X'
  obtain ⟨t2, a1, b1⟩ := hk
  refine ⟨t2, stp t2 ?_, b1⟩
  have e9 : (r.toList ++ st).map (tv (ea E)) = (r.map (tv (ea E))).toList ++ st.map (tv (ea E)) := by
    rw [List.map_append]; cases r <;> rfl
  rw [e9] at a1
  exact a1
theorem x_callV {y idx a ci d mc ms np : Nat} {fs As : List Value} {post : Po} (hd : decode (mB j) pc = .ok (.invokevirtual idx, 3)) (hw : Cond.methodLink (mY j).cls idx (mY y) ∈ gw) (hok : mOK y np) (hI : Cond.instanceMethod (mY y) ∈ gw) (hSel : Cond.selects (mY y).cls (mY y) (mY y) ∈ gw) (hnp : As.length = np) (hci : ci < 10) (hcl : clS ci = (mY y).cls) (ha : 3 ≤ a ∧ a < top) (hm : M a = .inr (ci, fs)) (hrest : (st.map fun v => v.category).sum ≤ 8) (hct : Ct d mc ms y (.ref a :: As) M top post) (hR : d + 1 ≤ R.frames ∧ 8 + (mL y + 11) + 40 * d ≤ R.locals) (hf : k + mc ≤ R.cells ∧ n + ms ≤ R.slots) (kk : ∀ r M1 top1, post r M1 top1 → Wp R j Z (k + mc) (n + ms) (pc + 3) lv (r.toList ++ st) M1 top1) : Wp R j Z k n pc lv (As.reverse ++ .ref a :: st) M top := by
  intro l E p e s m args below meth c C H locs hl hH ls hv
  have hts := C.2.2.2.2.2.2.1
  have hF := C.2.2.2.2.2.2.2.2.2.1
  have hg := wl_get (E := E) (M := M) ha.1 ha.2
  rw [hm] at hg
  have hGood : GoodIn gw (wsV (mY j).cls idx (mY y).cls (mY y) (mW y)) := good_list (fun w h => by
    unfold wsV at h
    rcases List.mem_append.mp h with h | h
    · simp only [List.mem_cons, List.not_mem_nil, or_false] at h
      rcases h with rfl | rfl | rfl | rfl
      · exact hw
      · exact hI
      · exact hSel
      · exact hok.2.1
    · exact mW_in hok.1 w h)
  have cw := cwV (rm := rmd d mc ms) (mc := mc) (ms := ms) np hts hGood rfl rfl rfl ⟨rfl, hok.2.2⟩ hR
  have hrecv := va_recv hF.1 hH.1 (cl_get hci) hg
  rw [hcl] at hrecv
  refine x_back (va_runV (As := As.map (tv (ea E))) (b := ea E a) ⟨C.2.1, C.2.2.1, C.2.2.2.2.1, C.2.2.2.2.2.1, hts⟩ (hct l E C.1) cw ⟨cPc_blind _ _ _ _, hrecv, fun U hU hW => ⟨rfl, by rw [hU]; exact hH, eF_warm hW hF⟩⟩ rfl (by rw [List.length_map]; exact hnp) hv.1 ?_ (lv_room (by rw [st_cat]; exact hrest)) hd hf) C hl hv kk
  show (As.reverse ++ Value.ref a :: st).map (tv (ea E)) = _
  rw [List.map_append, List.map_reverse]; rfl
theorem x_callS {y idx d mc ms np : Nat} {As : List Value} {post : Po} (hd : decode (mB j) pc = .ok (.invokestatic idx, 3)) (hw : Cond.methodLink (mY j).cls idx (mY y) ∈ gw) (hok : mOK y np) (hI : Cond.static (mY y) ∈ gw) (hnp : As.length = np) (hrest : (st.map fun v => v.category).sum ≤ 8) (hct : Ct d mc ms y As M top post) (hR : d + 1 ≤ R.frames ∧ 8 + (mL y + 11) + 40 * d ≤ R.locals) (hf : k + mc ≤ R.cells ∧ n + ms ≤ R.slots) (kk : ∀ r M1 top1, post r M1 top1 → Wp R j Z (k + mc) (n + ms) (pc + 3) lv (r.toList ++ st) M1 top1) : Wp R j Z k n pc lv (As.reverse ++ st) M top := by
  intro l E p e s m args below meth c C H locs hl hH ls hv
  have hts := C.2.2.2.2.2.2.1
  have hF := C.2.2.2.2.2.2.2.2.2.1
  have hGood : GoodIn gw (va_wsS (mY j).cls idx (mY y) (mW y)) := good_list (fun w h => by
    unfold va_wsS at h
    rcases List.mem_append.mp h with h | h
    · simp only [List.mem_cons, List.not_mem_nil, or_false] at h
      rcases h with rfl | rfl | rfl
      · exact hw
      · exact hI
      · exact hok.2.1
    · exact mW_in hok.1 w h)
  have cw := va_cwS (rm := rmd d mc ms) (mc := mc) (ms := ms) np hts hGood rfl rfl rfl hok.2.2 hR
  refine x_back (va_runS (As := As.map (tv (ea E))) ⟨C.2.1, C.2.2.1, C.2.2.2.2.1, C.2.2.2.2.2.1, hts⟩ (hct l E C.1) cw ⟨cPc_blind _ _ _ _, fun U hU hW => ⟨rfl, by rw [hU]; exact hH, eF_warm hW hF⟩⟩ rfl (by rw [List.length_map]; exact hnp) hv.1 ?_ (lv_room (by rw [st_cat]; exact hrest)) hd hf) C hl hv kk
  show (As.reverse ++ st).map (tv (ea E)) = _
  rw [List.map_append, List.map_reverse]
theorem x_callI {y idx a d mc ms np : Nat} {As : List Value} {post : Po} (hd : decode (mB j) pc = .ok (.invokespecial idx, 3)) (hw : Cond.methodLink (mY j).cls idx (mY y) ∈ gw) (hok : mOK y np) (hI : Cond.instanceMethod (mY y) ∈ gw) (hini : (mY y).name = "<init>") (hret : mR y = none) (hnp : As.length = np) (hrest : (st.map fun v => v.category).sum ≤ 8) (hct : Ct d mc ms y (.ref a :: As) M top post) (hR : d + 1 ≤ R.frames ∧ 8 + (mL y + 11) + 40 * d ≤ R.locals) (hf : k + mc ≤ R.cells ∧ n + ms ≤ R.slots) (kk : ∀ r M1 top1, post r M1 top1 → Wp R j Z (k + mc) (n + ms) (pc + 3) lv (r.toList ++ st) M1 top1) : Wp R j Z k n pc lv (As.reverse ++ .ref a :: st) M top := by
  intro l E p e s m args below meth c C H locs hl hH ls hv
  have hts := C.2.2.2.2.2.2.1
  have hF := C.2.2.2.2.2.2.2.2.2.1
  have cw := cwI (rm := rmd d mc ms) (mc := mc) (ms := ms) (ws := mW y) (bytes := mB y) (maxL := mL y) np hts (good_list (mW_in hok.1)) (by rw [mW, hret]) rfl rfl (hts _ hok.2.1) (hts _ hw) (hts _ hI) hini hok.2.2 hR
  refine x_back (va_runI (As := As.map (tv (ea E))) (b := ea E a) ⟨C.2.1, C.2.2.1, C.2.2.2.2.1, C.2.2.2.2.2.1, hts⟩ (hct l E C.1) cw ⟨cPc_blind _ _ _ _, fun U hU hW => ⟨rfl, by rw [hU]; exact hH, eF_warm hW hF⟩⟩ rfl (by rw [List.length_map]; exact hnp) hv.1 ?_ (lv_room (by rw [st_cat]; exact hrest)) hd hf) C hl hv kk
  show (As.reverse ++ Value.ref a :: st).map (tv (ea E)) = _
  rw [List.map_append, List.map_reverse]; rfl
theorem x_callIN {y idx a d mc ms np : Nat} {host : String} {As : List Value} {post : Po} (hd : decode (mB j) pc = .ok (.invokespecial idx, 3)) (hw : Cond.methodLinkNest (mY j).cls idx (mY y) host ∈ nsw) (hok : mOK y np) (hI : Cond.instanceMethod (mY y) ∈ gw) (hini : (mY y).name = "<init>") (hret : mR y = none) (hnp : As.length = np) (hrest : (st.map fun v => v.category).sum ≤ 8) (hct : Ct d mc ms y (.ref a :: As) M top post) (hR : d + 1 ≤ R.frames ∧ 8 + (mL y + 11) + 40 * d ≤ R.locals) (hf : k + mc ≤ R.cells ∧ n + ms ≤ R.slots) (kk : ∀ r M1 top1, post r M1 top1 → Wp R j Z (k + mc) (n + ms) (pc + 3) lv (r.toList ++ st) M1 top1) : Wp R j Z k n pc lv (As.reverse ++ .ref a :: st) M top := by
  intro l E p e s m args below meth c C H locs hl hH ls hv
  have hts := C.2.2.2.2.2.2.1
  have hF := C.2.2.2.2.2.2.2.2.2.1
  have cw := va_cnB (R := R) (rm := rmd d mc ms) (mc := mc) (ms := ms) (ws := mW y) (bytes := mB y) (maxL := mL y) (ret := none) np hts (good_list (mW_in hok.1)) (by rw [mW, hret]) rfl rfl (hF.2.1 _ hw) (hts _ hok.2.1) hok.2.2 hR
  refine x_back (va_runIN (As := As.map (tv (ea E))) (b := ea E a) ⟨C.2.1, C.2.2.1, C.2.2.2.2.1, C.2.2.2.2.2.1, hts⟩ (hct l E C.1) ⟨cw, hini, hts _ hI⟩ ⟨cPc_blind _ _ _ _, fun U hU hW => ⟨rfl, by rw [hU]; exact hH, eF_warm hW hF⟩⟩ rfl (by rw [List.length_map]; exact hnp) hv.1 ?_ (lv_room (by rw [st_cat]; exact hrest)) hd hf) C hl hv kk
  show (As.reverse ++ Value.ref a :: st).map (tv (ea E)) = _
  rw [List.map_append, List.map_reverse]; rfl
/-! ends -/
theorem x_vret {post : Po} {mc ms : Nat} (hd : decode (mB j) pc = .ok (.return_, 1)) (hr : mR j = none) (hk : k ≤ mc ∧ n ≤ ms) (hp0 : post none M top) : Wp R j (mZ post mc ms) k n pc lv [] M top := by
  intro l E p e s m args below meth c C H locs hl hH ls hv
  refine W.widen hk.1 hk.2 ?_
  exact W.vret C.2.1 C.2.2.1 (C.2.2.2.1.trans hr) (fun t ht hW => ⟨none, M, top, rfl, hp0, by rw [ht]; exact hH⟩) hl hd C.2.2.2.2.2.2.2.1
theorem x_iret {post : Po} {mc ms : Nat} {v : Int32} {ty : FieldType} (hd : decode (mB j) pc = .ok (.ireturn, 1)) (hr : mR j = some ty) (hnr : narrow ty (.int v) = .int v) (hk : k ≤ mc ∧ n ≤ ms) (hp0 : post (some (.int v)) M top) : Wp R j (mZ post mc ms) k n pc lv [.int v] M top := by
  intro l E p e s m args below meth c C H locs hl hH ls hv
  refine W.widen hk.1 hk.2 ?_
  exact W.zret C.2.1 C.2.2.1 (C.2.2.2.1.trans hr) hnr (fun t ht hW => ⟨some (.int v), M, top, rfl, hp0, by rw [ht]; exact hH⟩) hl hd C.2.2.2.2.2.2.2.1
theorem x_lret {post : Po} {mc ms : Nat} {v : Int64} (hd : decode (mB j) pc = .ok (.lreturn, 1)) (hr : mR j = some .long) (hk : k ≤ mc ∧ n ≤ ms) (hp0 : post (some (.long v)) M top) : Wp R j (mZ post mc ms) k n pc lv [.long v] M top := by
  intro l E p e s m args below meth c C H locs hl hH ls hv
  refine W.widen hk.1 hk.2 ?_
  exact W.lret C.2.1 C.2.2.1 (C.2.2.2.1.trans hr) (fun t ht hW => ⟨some (.long v), M, top, rfl, hp0, by rw [ht]; exact hH⟩) hl hd C.2.2.2.2.2.2.2.1
/-! a contract says less, takes more room -/
theorem Ct.post {d mc ms y : Nat} {av : List Value} {post post' : Po} (h : Ct d mc ms y av M top post) (hpp : ∀ r M1 top1, post r M1 top1 → post' r M1 top1) : Ct d mc ms y av M top post' := by
  intro l E hE p e h1 h2 h3 s m args below hf hS hP hK
  obtain ⟨q, o, a1, a2, a3, ⟨r, M1, top1, b1, b2, b3⟩, a5⟩ := h l E hE p e h1 h2 h3 s m args below hf hS hP hK
  exact ⟨q, o, a1, a2, a3, ⟨r, M1, top1, b1, hpp r M1 top1 b2, b3⟩, a5⟩
/-! the script -/
theorem x_sld {i : Int32} {f : Nat → Int32} {L : Nat} (hd : decode (mB j) pc = .ok (.iaload, 1)) (kk : ∀ E : En, Wp R j Z k n (pc + 1) lv (.int (eX E i.toNatClampNeg) :: st) M top) (hi : ∀ E : En, vp_in i (eL E)) : Wp R j Z k n pc lv (.int i :: .ref 0 :: st) M top := by
  intro l E p e s m args below meth c C H locs hl hH ls hv
  have hF := C.2.2.2.2.2.2.2.2.2.1
  exact va_sld (A := eNew E) C.2.1 C.2.2.1 hF.2.2.2.2.2.1 (by rw [C.1.2.2]; exact C.1.2.1 0 (by decide)) (by have := C.1.2.1 0 (by decide); show ¬ eS E ≤ _; omega) (hp_S C.1 hH hl) (hi E) hd (kk E l E p e s m args below meth c C H locs hl hH ls hv)
end XC
