/-! the class's two texts: the JDK's own methods over them, walked raw -/
theorem mk21 : mOK 21 0 := ⟨by decide, mG21, by decide +kernel, by decide +kernel, by decide +kernel⟩
theorem mk22 : mOK 22 2 := ⟨by decide, mG22, by decide +kernel, by decide +kernel, by decide +kernel⟩
theorem mk23 : mOK 23 2 := ⟨by decide, mG23, by decide +kernel, by decide +kernel, by decide +kernel⟩
theorem mk24 : mOK 24 3 := ⟨by decide, mG24, by decide +kernel, by decide +kernel, by decide +kernel⟩
theorem mk34 : mOK 34 0 := ⟨by decide, mG34, by decide +kernel, by decide +kernel, by decide +kernel⟩
theorem mk20 : mOK 20 1 := ⟨by decide, mG20, by decide +kernel, by decide +kernel, by decide +kernel⟩
theorem mk33 : mOK 33 0 := ⟨by decide, mG33, by decide +kernel, by decide +kernel, by decide +kernel⟩
abbrev Zq : Type := Array Value → State → List Frame → State → Prop
def Wq (E : En) (M : Me) (top : Nat) (R : Room) (j : Nat) (Q : Zq) (G : State → Prop) (pc : Nat) (lv : List (Nat × Value)) (st : List Value) : Prop :=
  ∀ (l : Launch) (p : Program) (e : Env) (s : State) (m : MethodId) (args : Array Value) (below : List Frame) (meth : Method) (c : Code), Cx E j p s m args meth c → G s →
    ∀ (H : Heap) (locs : List Loc), (∀ q ∈ locs, eS E ≤ q.base) → hp E M top H → ∀ ls : Array Slot, lv_has ls (mL j) lv →
      W p l e R s m args below meth c H locs 0 0 (Q args s below) (F0 m pc ls st)
def qPc (E : En) (av : List Value) (G : State → Prop) (M : Me) (top : Nat) : Array Value → State → Prop := fun v U => v = av.toArray ∧ (hp E M top U.heap ∧ eF E U) ∧ G U
def qQc (E : En) (M : Me) (top : Nat) (post : Option Value → Prop) : Array Value → State → Outcome → State → Prop := fun _ _ oc t => ∃ r : Option Value, oc = .returned r ∧ post r ∧ hp E M top t.heap
def Cq (d j : Nat) (E : En) (av : List Value) (G : State → Prop) (M : Me) (top : Nat) (post : Option Value → Prop) : Prop :=
  ∀ (l : Launch), eOK E → Met l (mY j) (mW j) (rmd d 0 0) (qPc E av G M top) (qQc E M top post) 0 0 (eNew E)
def qZ (E : En) (M : Me) (top : Nat) (post : Option Value → Prop) : Zq := fun args s below => MQ below (qQc E M top post) args s 0 0 (eNew E)
theorem cq_of {d j : Nat} {E : En} {av : List Value} {G : State → Prop} {M : Me} {top : Nat} {post : Option Value → Prop} (hy : plainFor (mY j) = true) (hl : (lg_sl av).length ≤ mL j) (h : Wq E M top (rmd d 0 0) j (qZ E M top post) G 0 (lv_args 0 av) []) : Cq d j E av G M top post := by
  intro l hE
  refine va_MetF (cc := mB j) (maxL := mL j) (ret := mR j) hy rfl ?_
  intro p e s m args below meth c s₁ B hml hv
  obtain ⟨rfl, ⟨hH, hF⟩, hG⟩ := hv
  have hts := atoms_spec (ws := mW j) B.pre
  have hc : Cx E j p s m av.toArray meth c := ⟨hE, B.exec, B.bytes, B.returns, hml, findClass_of_methodNamed B.named, fun w hw => hts w (List.mem_cons_of_mem _ hw), B.notSynchronized, fun hn => (name_of_methodNamed B.named B.method).1.trans hn, hF, by have := hH.2.1; omega⟩
  have hlv := lv_entry av (n := mL j) hl
  rw [lg_entry_eq]
  exact h l p e s m _ below meth c hc hG s.heap [] (fun q hq => by cases hq) hH _ hlv
section QR
variable {E : En} {R : Room} {j : Nat} {Q : Zq} {G : State → Prop} {pc : Nat} {lv : List (Nat × Value)} {st : List Value} {M : Me} {top : Nat}
theorem q_iload_n {i : Fin 4} {v : Int32} (hd : decode (mB j) pc = .ok (.iload_n i, 1)) (hg : ((i : Nat), Value.int v) ∈ lv) (kk : Wq E M top R j Q G (pc + 1) lv (.int v :: st)) : Wq E M top R j Q G pc lv st := by
  intro l p e s m args below meth c C hGs H locs hl hH ls hv
  exact lv_iload_n C.2.1 C.2.2.1 hd rfl (hv.2.2 _ hg) (kk l p e s m args below meth c C hGs H locs hl hH ls hv)
theorem q_aload_n {i : Fin 4} {v : Nat} (hd : decode (mB j) pc = .ok (.aload_n i, 1)) (hg : ((i : Nat), Value.ref v) ∈ lv) (kk : Wq E M top R j Q G (pc + 1) lv (.ref v :: st)) : Wq E M top R j Q G pc lv st := by
  intro l p e s m args below meth c C hGs H locs hl hH ls hv
  exact lv_aload_n C.2.1 C.2.2.1 hd rfl (hv.2.2 _ hg) (kk l p e s m args below meth c C hGs H locs hl hH ls hv)
theorem q_iconst {i : Int} {v : Int32} (hd : decode (mB j) pc = .ok (.iconst i, 1)) (hv0 : Int32.ofInt i = v) (kk : Wq E M top R j Q G (pc + 1) lv (.int v :: st)) : Wq E M top R j Q G pc lv st := by
  intro l p e s m args below meth c C hGs H locs hl hH ls hv
  exact lv_iconst C.2.1 C.2.2.1 hd hv0 (kk l p e s m args below meth c C hGs H locs hl hH ls hv)
theorem q_sipush {i : Int} {v : Int32} (hd : decode (mB j) pc = .ok (.sipush i, 3)) (hv0 : (Int16.ofInt i).toInt32 = v) (kk : Wq E M top R j Q G (pc + 3) lv (.int v :: st)) : Wq E M top R j Q G pc lv st := by
  intro l p e s m args below meth c C hGs H locs hl hH ls hv
  exact lv_sipush C.2.1 C.2.2.1 hd hv0 (kk l p e s m args below meth c C hGs H locs hl hH ls hv)
theorem q_iand {x y : Int32} (hd : decode (mB j) pc = .ok (.iand, 1))  (kk : Wq E M top R j Q G (pc + 1) lv (.int (x &&& y) :: st)) : Wq E M top R j Q G pc lv (.int y :: .int x :: st) := by
  intro l p e s m args below meth c C hGs H locs hl hH ls hv
  exact lv_iand C.2.1 C.2.2.1 hd  (kk l p e s m args below meth c C hGs H locs hl hH ls hv)
theorem q_ishr {x y : Int32} (hd : decode (mB j) pc = .ok (.ishr, 1))  (kk : Wq E M top R j Q G (pc + 1) lv (.int (x >>> (y &&& 31)) :: st)) : Wq E M top R j Q G pc lv (.int y :: .int x :: st) := by
  intro l p e s m args below meth c C hGs H locs hl hH ls hv
  exact lv_ishr C.2.1 C.2.2.1 hd  (kk l p e s m args below meth c C hGs H locs hl hH ls hv)
theorem q_i2c {x v : Int32} (hd : decode (mB j) pc = .ok (.i2c, 1)) (hv0 : (x.toUInt32 % 65536).toInt32 = v) (kk : Wq E M top R j Q G (pc + 1) lv (.int v :: st)) : Wq E M top R j Q G pc lv (.int x :: st) := by
  intro l p e s m args below meth c C hGs H locs hl hH ls hv
  exact lv_i2c C.2.1 C.2.2.1 hd hv0 (kk l p e s m args below meth c C hGs H locs hl hH ls hv)
theorem q_pop {x : Int32} (hd : decode (mB j) pc = .ok (.pop, 1))  (kk : Wq E M top R j Q G (pc + 1) lv st) : Wq E M top R j Q G pc lv (.int x :: st) := by
  intro l p e s m args below meth c C hGs H locs hl hH ls hv
  exact lv_pop C.2.1 C.2.2.1 hd rfl (kk l p e s m args below meth c C hGs H locs hl hH ls hv)
theorem q_goto {off : Int} {tgt : Nat} (hd : decode (mB j) pc = .ok (.goto off, 3)) (ht : (pc : Int) + off = (tgt : Int)) (kk : Wq E M top R j Q G tgt lv st) : Wq E M top R j Q G pc lv st := by
  intro l p e s m args below meth c C hGs H locs hl hH ls hv
  exact lv_goto C.2.1 C.2.2.1 hd ht (kk l p e s m args below meth c C hGs H locs hl hH ls hv)
theorem q_if_eq {x : Int32} {off : Int} {tgt : Nat} (hd : decode (mB j) pc = .ok (.ifCond .eq off, 3)) (ht : (pc : Int) + off = (tgt : Int)) (kt : x = 0 → Wq E M top R j Q G tgt lv st) (kf : ¬ x = 0 → Wq E M top R j Q G (pc + 3) lv st) : Wq E M top R j Q G pc lv (.int x :: st) := by
  intro l p e s m args below meth c C hGs H locs hl hH ls hv
  exact lv_if_eq C.2.1 C.2.2.1 hd ht (fun h => kt h l p e s m args below meth c C hGs H locs hl hH ls hv) (fun h => kf h l p e s m args below meth c C hGs H locs hl hH ls hv)
theorem q_if_ne {x : Int32} {off : Int} {tgt : Nat} (hd : decode (mB j) pc = .ok (.ifCond .ne off, 3)) (ht : (pc : Int) + off = (tgt : Int)) (kt : ¬ x = 0 → Wq E M top R j Q G tgt lv st) (kf : x = 0 → Wq E M top R j Q G (pc + 3) lv st) : Wq E M top R j Q G pc lv (.int x :: st) := by
  intro l p e s m args below meth c C hGs H locs hl hH ls hv
  exact lv_if_ne C.2.1 C.2.2.1 hd ht (fun h => kt h l p e s m args below meth c C hGs H locs hl hH ls hv) (fun h => kf h l p e s m args below meth c C hGs H locs hl hH ls hv)
theorem q_if_lt {x : Int32} {off : Int} {tgt : Nat} (hd : decode (mB j) pc = .ok (.ifCond .lt off, 3)) (ht : (pc : Int) + off = (tgt : Int)) (kt : x < 0 → Wq E M top R j Q G tgt lv st) (kf : ¬ x < 0 → Wq E M top R j Q G (pc + 3) lv st) : Wq E M top R j Q G pc lv (.int x :: st) := by
  intro l p e s m args below meth c C hGs H locs hl hH ls hv
  exact lv_if_lt C.2.1 C.2.2.1 hd ht (fun h => kt h l p e s m args below meth c C hGs H locs hl hH ls hv) (fun h => kf h l p e s m args below meth c C hGs H locs hl hH ls hv)
theorem q_icmp_lt {x y : Int32} {off : Int} {tgt : Nat} (hd : decode (mB j) pc = .ok (.if_icmp .lt off, 3)) (ht : (pc : Int) + off = (tgt : Int)) (kt : x < y → Wq E M top R j Q G tgt lv st) (kf : ¬ x < y → Wq E M top R j Q G (pc + 3) lv st) : Wq E M top R j Q G pc lv (.int y :: .int x :: st) := by
  intro l p e s m args below meth c C hGs H locs hl hH ls hv
  exact lv_icmp_lt C.2.1 C.2.2.1 hd ht (fun h => kt h l p e s m args below meth c C hGs H locs hl hH ls hv) (fun h => kf h l p e s m args below meth c C hGs H locs hl hH ls hv)
theorem q_gets {Cn nm ds : String} {v : Value} {idx : Nat} (hd : decode (mB j) pc = .ok (.getstatic idx, 3)) (hw : Cond.fieldLink (mY j).cls idx Cn nm ds ∈ gw) (hZ : ∀ s, eF E s → G s → va_Z Cn nm ds v (eNew E) s (eG E)) (kk : Wq E M top R j Q G (pc + 3) lv (v :: st)) : Wq E M top R j Q G pc lv st := by
  intro l p e s m args below meth c C hGs H locs hl hH ls hv
  have hS := hp_S C.1 hH hl
  obtain ⟨cf, kf, fi, f, a, cell, h1, h2, h3, h4, h5, h6, h7, h8⟩ := hZ s C.2.2.2.2.2.2.2.2.2.1 hGs
  exact W.gets C.2.1 C.2.2.1 C.2.2.2.2.2.1 (C.2.2.2.2.2.2.1 _ hw) h1 h2 h3 h4 (by rw [hS.2.1 a (Array.getElem?_eq_some_iff.mp h5).1 h8]; exact h5) (fun e => by rw [e] at h6; cases h6) h7 rfl hd (kk l p e s m args below meth c C hGs H locs hl hH ls hv)
theorem q_getf {Cn nm ds : String} {v : Value} {idx q : Nat} (hd : decode (mB j) pc = .ok (.getfield idx, 3)) (hw : Cond.fieldLink (mY j).cls idx Cn nm ds ∈ gw) (hO : ∀ s, eF E s → G s → va_OF Cn nm ds v q (eNew E) s (eG E)) (kk : Wq E M top R j Q G (pc + 3) lv (v :: st)) : Wq E M top R j Q G pc lv (.ref q :: st) := by
  intro l p e s m args below meth c C hGs H locs hl hH ls hv
  have hS := hp_S C.1 hH hl
  obtain ⟨cf, k, fi, f, cell, h1, h2, h3, h4, h5, h6⟩ := (hO s C.2.2.2.2.2.2.2.2.2.1 hGs).kept hS.2.1
  exact W.getf C.2.1 C.2.2.1 C.2.2.2.2.2.1 (C.2.2.2.2.2.2.1 _ hw) h1 h2 h3 h4 (v := v) h5 rfl rfl hd (kk l p e s m args below meth c C hGs H locs hl hH ls hv)
theorem q_alen {t N : Nat} {f : Nat → Value} (hd : decode (mB j) pc = .ok (.arraylength, 1)) (hT : ∀ s, eF E s → G s → va_T .byte t N f (eNew E) s (eG E)) (kk : Wq E M top R j Q G (pc + 1) lv (.int (Int32.ofNat N) :: st)) : Wq E M top R j Q G pc lv (.ref t :: st) := by
  intro l p e s m args below meth c C hGs H locs hl hH ls hv
  have hS := hp_S C.1 hH hl
  obtain ⟨cell, h1, h2, h3, h4, h5, h6, h7⟩ := hT s C.2.2.2.2.2.2.2.2.2.1 hGs
  exact W.alen (n := Int32.ofNat N) C.2.1 C.2.2.1 (by rw [hS.2.1 t (Array.getElem?_eq_some_iff.mp h1).1 h7]; exact h1) h2 h5 rfl rfl hd (kk l p e s m args below meth c C hGs H locs hl hH ls hv)
theorem q_bald {t N : Nat} {f : Nat → Value} {i : Int32} {v : Value} (hd : decode (mB j) pc = .ok (.baload, 1)) (hT : ∀ s, eF E s → G s → va_T .byte t N f (eNew E) s (eG E)) (hin : vp_in i N) (hv0 : f i.toNatClampNeg = v) (kk : Wq E M top R j Q G (pc + 1) lv (v :: st)) : Wq E M top R j Q G pc lv (.int i :: .ref t :: st) := by
  intro l p e s m args below meth c C hGs H locs hl hH ls hv
  have hS := hp_S C.1 hH hl
  obtain ⟨cell, h1, h2, h3, h4, h5, h6, h7⟩ := hT s C.2.2.2.2.2.2.2.2.2.1 hGs
  have hlt : i.toNatClampNeg < N := Nat.not_le.mp fun q => hin (Or.inr q)
  have hin' : ¬ (i < 0 ∨ cell.slots.size ≤ i.toNatClampNeg) := by
    intro q
    rcases q with q | q
    · exact hin (Or.inl q)
    · omega
  exact W.bald (v := v) C.2.1 C.2.2.1 (by rw [hS.2.1 t (Array.getElem?_eq_some_iff.mp h1).1 h7]; exact h1) h2 h3 hin' (by rw [h6 _ hlt, hv0]) rfl rfl hd (kk l p e s m args below meth c C hGs H locs hl hH ls hv)
theorem q_zret {post : Option Value → Prop} {v : Int32} {ty : FieldType} (hd : decode (mB j) pc = .ok (.ireturn, 1)) (hr : mR j = some ty) (hnr : narrow ty (.int v) = .int v) (hp0 : post (some (.int v))) : Wq E M top R j (qZ E M top post) G pc lv [.int v] := by
  intro l p e s m args below meth c C hGs H locs hl hH ls hv
  exact W.zret C.2.1 C.2.2.1 (C.2.2.2.1.trans hr) hnr (fun t ht hW => ⟨some (.int v), rfl, hp0, by rw [ht]; exact hH⟩) hl hd C.2.2.2.2.2.2.2.1
theorem q_vret {post : Option Value → Prop} (hd : decode (mB j) pc = .ok (.return_, 1)) (hr : mR j = none) (hp0 : post none) : Wq E M top R j (qZ E M top post) G pc lv [] := by
  intro l p e s m args below meth c C hGs H locs hl hH ls hv
  exact W.vret C.2.1 C.2.2.1 (C.2.2.2.1.trans hr) (fun t ht hW => ⟨none, rfl, hp0, by rw [ht]; exact hH⟩) hl hd C.2.2.2.2.2.2.2.1
theorem q_back {l : Launch} {p : Program} {e : Env} {s : State} {m : MethodId} {args : Array Value} {below : List Frame} {meth : Method} {c : Code} {H : Heap} {locs : List Loc} {ls : Array Slot} {st0 : List Value} {post : Option Value → Prop} {a : Array Value}
    (hr : va_Run p l e R s m args below meth c H locs 0 0 0 0 (F0 m pc ls st0) st (qQc E M top post a) (eNew E)) (C : Cx E j p s m args meth c) (hGs : G s) (hl : ∀ q ∈ locs, eS E ≤ q.base) (hv : lv_has ls (mL j) lv)
    (kk : ∀ r, post r → Wq E M top R j Q G (pc + 3) lv (r.toList ++ st)) : W p l e R s m args below meth c H locs 0 0 (Q args s below) (F0 m pc ls st0) := by
  intro T hT X
  obtain ⟨v, st₀, t, T', L, h0, X', hL, e1, e2, ⟨r, hv1, hpost, hH1⟩, stp⟩ := hr T hT X
  have hv2 : v = r := Outcome.returned.inj hv1
  subst hv2
  have hk := kk v hpost l p e s m args below meth c C hGs T'.heap (locs ++ L) (fun q hq => by
    rcases List.mem_append.mp hq with h | h
    · exact hl q h
    · exact hL q h) (by rw [e1]; exact hH1) ls hv T' rfl X'
  obtain ⟨t2, a1, b1⟩ := hk
  exact ⟨t2, stp t2 a1, b1⟩
theorem qPc_blind {av : List Value} {G : State → Prop} (hGm : ∀ u U : State, u.vm.Alike U.vm → G u → G U) : FrameBlind (qPc E av G M top) := fun a U g mk h => ⟨h.1, ⟨h.2.1.1, eF_same (s := U) (U := U.calling g mk a) rfl h.2.1.2⟩, hGm U (U.calling g mk a) (Vm.Alike.refl _) h.2.2⟩
theorem q_callS {y idx d np : Nat} {As : List Value} {post : Option Value → Prop} {G2 : State → Prop} (hd : decode (mB j) pc = .ok (.invokestatic idx, 3)) (hw : Cond.methodLink (mY j).cls idx (mY y) ∈ gw) (hok : mOK y np) (hI : Cond.static (mY y) ∈ gw) (hnp : As.length = np) (hrest : (st.map fun v => v.category).sum ≤ 8) (hct : Cq d y E As G2 M top post) (hG2 : ∀ s, eF E s → G s → G2 s) (hGm : ∀ u U : State, u.vm.Alike U.vm → G2 u → G2 U) (hR : d + 1 ≤ R.frames ∧ 8 + (mL y + 11) + 40 * d ≤ R.locals) (kk : ∀ r, post r → Wq E M top R j Q G (pc + 3) lv (r.toList ++ st)) : Wq E M top R j Q G pc lv (As.reverse ++ st) := by
  intro l p e s m args below meth c C hGs H locs hl hH ls hv
  have hts := C.2.2.2.2.2.2.1
  have hF := C.2.2.2.2.2.2.2.2.2.1
  have hGood : GoodIn gw (va_wsS (mY j).cls idx (mY y) (mW y)) := good_list (fun w h => by
    unfold va_wsS at h
    rcases List.mem_append.mp h with h | h
    · simp only [List.mem_cons, List.not_mem_nil, or_false] at h
      rcases h with rfl | rfl | rfl
      · exact hw
      · exact hI
      · exact hok.2.1
    · exact mW_in hok.1 w h)
  have cw := va_cwS (R := R) (rm := rmd d 0 0) (mc := 0) (ms := 0) np hts hGood rfl rfl rfl hok.2.2 hR
  exact q_back (va_runS (As := As) ⟨C.2.1, C.2.2.1, C.2.2.2.2.1, C.2.2.2.2.2.1, hts⟩ (hct l C.1) cw ⟨qPc_blind hGm, fun U hU hW => ⟨rfl, ⟨by rw [hU]; exact hH, eF_warm hW hF⟩, hGm s U hW.alike (hG2 s hF hGs)⟩⟩ rfl hnp hv.1 rfl (lv_room hrest) hd ⟨Nat.zero_le _, Nat.zero_le _⟩) C hGs hl hv kk
theorem vk_rc {E : En} {s : State} {H : Heap} {locs : List Loc} (hF : eF E s) {i : Nat} (hi : i < 2) (hS : va_S (eNew E) (eG E) H locs) : ∃ cell : Cell, H[ea E (i + 1)]? = some cell ∧ cell.vm.isStatics = false ∧ s.vm.findClass "java/lang/String" = some cell.cls := by
  obtain ⟨adV, hV⟩ := hF.2.2.2.1
  obtain ⟨cell, h1, h2, h3, -⟩ := (hV.1 i hi).1.kept hS.2.1
  exact ⟨cell, h1, h2, h3⟩
theorem q_callV {y idx d np i : Nat} {As : List Value} {post : Option Value → Prop} {G2 : State → Prop} (hd : decode (mB j) pc = .ok (.invokevirtual idx, 3)) (hw : Cond.methodLink (mY j).cls idx (mY y) ∈ gw) (hok : mOK y np) (hI : Cond.instanceMethod (mY y) ∈ gw) (hSel : Cond.selects (mY y).cls (mY y) (mY y) ∈ gw) (hcl : (mY y).cls = "java/lang/String") (hi : i < 2) (hnp : As.length = np) (hrest : (st.map fun v => v.category).sum ≤ 8) (hct : Cq d y E (.ref (ea E (i + 1)) :: As) G2 M top post) (hG2 : ∀ s, eF E s → G s → G2 s) (hGm : ∀ u U : State, u.vm.Alike U.vm → G2 u → G2 U) (hR : d + 1 ≤ R.frames ∧ 8 + (mL y + 11) + 40 * d ≤ R.locals) (kk : ∀ r, post r → Wq E M top R j Q G (pc + 3) lv (r.toList ++ st)) : Wq E M top R j Q G pc lv (As.reverse ++ .ref (ea E (i + 1)) :: st) := by
  intro l p e s m args below meth c C hGs H locs hl hH ls hv
  have hts := C.2.2.2.2.2.2.1
  have hF := C.2.2.2.2.2.2.2.2.2.1
  have hGood : GoodIn gw (wsV (mY j).cls idx (mY y).cls (mY y) (mW y)) := good_list (fun w h => by
    unfold wsV at h
    rcases List.mem_append.mp h with h | h
    · simp only [List.mem_cons, List.not_mem_nil, or_false] at h
      rcases h with rfl | rfl | rfl | rfl
      · exact hw
      · exact hI
      · exact hSel
      · exact hok.2.1
    · exact mW_in hok.1 w h)
  have cw := cwV (R := R) (rm := rmd d 0 0) (mc := 0) (ms := 0) np hts hGood rfl rfl rfl ⟨rfl, hok.2.2⟩ hR
  have hrecv := vk_rc hF hi (hp_S C.1 hH hl)
  rw [← hcl] at hrecv
  exact q_back (va_runV (As := As) (b := ea E (i + 1)) ⟨C.2.1, C.2.2.1, C.2.2.2.2.1, C.2.2.2.2.2.1, hts⟩ (hct l C.1) cw ⟨qPc_blind hGm, hrecv, fun U hU hW => ⟨rfl, ⟨by rw [hU]; exact hH, eF_warm hW hF⟩, hGm s U hW.alike (hG2 s hF hGs)⟩⟩ rfl hnp hv.1 rfl (lv_room hrest) hd ⟨Nat.zero_le _, Nat.zero_le _⟩) C hGs hl hv kk
end QR
theorem d20_0 : decode (mB 20) 0 = .ok (.aload_n 0, 1) := by decide +kernel
theorem d20_1 : decode (mB 20) 1 = .ok (.invokevirtual 492, 3) := by decide +kernel
theorem d20_4 : decode (mB 20) 4 = .ok (.ifCond .eq 12, 3) := by decide +kernel
theorem d20_7 : decode (mB 20) 7 = .ok (.aload_n 0, 1) := by decide +kernel
theorem d20_8 : decode (mB 20) 8 = .ok (.getfield 9, 3) := by decide +kernel
theorem d20_11 : decode (mB 20) 11 = .ok (.iload_n 1, 1) := by decide +kernel
theorem d20_12 : decode (mB 20) 12 = .ok (.invokestatic 495, 3) := by decide +kernel
theorem d20_15 : decode (mB 20) 15 = .ok (.ireturn, 1) := by decide +kernel
theorem d21_0 : decode (mB 21) 0 = .ok (.getstatic 38, 3) := by decide +kernel
theorem d21_3 : decode (mB 21) 3 = .ok (.ifCond .eq 14, 3) := by decide +kernel
theorem d21_6 : decode (mB 21) 6 = .ok (.aload_n 0, 1) := by decide +kernel
theorem d21_7 : decode (mB 21) 7 = .ok (.getfield 15, 3) := by decide +kernel
theorem d21_10 : decode (mB 21) 10 = .ok (.ifCond .ne 7, 3) := by decide +kernel
theorem d21_13 : decode (mB 21) 13 = .ok (.iconst 1, 1) := by decide +kernel
theorem d21_14 : decode (mB 21) 14 = .ok (.goto 4, 3) := by decide +kernel
theorem d21_18 : decode (mB 21) 18 = .ok (.ireturn, 1) := by decide +kernel
theorem d22_0 : decode (mB 22) 0 = .ok (.iload_n 1, 1) := by decide +kernel
theorem d22_1 : decode (mB 22) 1 = .ok (.aload_n 0, 1) := by decide +kernel
theorem d22_2 : decode (mB 22) 2 = .ok (.arraylength, 1) := by decide +kernel
theorem d22_3 : decode (mB 22) 3 = .ok (.invokestatic 9, 3) := by decide +kernel
theorem d22_6 : decode (mB 22) 6 = .ok (.aload_n 0, 1) := by decide +kernel
theorem d22_7 : decode (mB 22) 7 = .ok (.iload_n 1, 1) := by decide +kernel
theorem d22_8 : decode (mB 22) 8 = .ok (.baload, 1) := by decide +kernel
theorem d22_9 : decode (mB 22) 9 = .ok (.sipush 255, 3) := by decide +kernel
theorem d22_12 : decode (mB 22) 12 = .ok (.iand, 1) := by decide +kernel
theorem d22_13 : decode (mB 22) 13 = .ok (.i2c, 1) := by decide +kernel
theorem d22_14 : decode (mB 22) 14 = .ok (.ireturn, 1) := by decide +kernel
theorem d23_0 : decode (mB 23) 0 = .ok (.iload_n 0, 1) := by decide +kernel
theorem d23_1 : decode (mB 23) 1 = .ok (.iload_n 1, 1) := by decide +kernel
theorem d23_2 : decode (mB 23) 2 = .ok (.getstatic 1053, 3) := by decide +kernel
theorem d23_5 : decode (mB 23) 5 = .ok (.invokestatic 1059, 3) := by decide +kernel
theorem d23_8 : decode (mB 23) 8 = .ok (.pop, 1) := by decide +kernel
theorem d23_9 : decode (mB 23) 9 = .ok (.return_, 1) := by decide +kernel
theorem d24_0 : decode (mB 24) 0 = .ok (.iload_n 0, 1) := by decide +kernel
theorem d24_1 : decode (mB 24) 1 = .ok (.ifCond .lt 8, 3) := by decide +kernel
theorem d24_4 : decode (mB 24) 4 = .ok (.iload_n 0, 1) := by decide +kernel
theorem d24_5 : decode (mB 24) 5 = .ok (.iload_n 1, 1) := by decide +kernel
theorem d24_6 : decode (mB 24) 6 = .ok (.if_icmp .lt 10, 3) := by decide +kernel
theorem d24_16 : decode (mB 24) 16 = .ok (.iload_n 0, 1) := by decide +kernel
theorem d24_17 : decode (mB 24) 17 = .ok (.ireturn, 1) := by decide +kernel
theorem d33_0 : decode (mB 33) 0 = .ok (.aload_n 0, 1) := by decide +kernel
theorem d33_1 : decode (mB 33) 1 = .ok (.getfield 9, 3) := by decide +kernel
theorem d33_4 : decode (mB 33) 4 = .ok (.arraylength, 1) := by decide +kernel
theorem d33_5 : decode (mB 33) 5 = .ok (.aload_n 0, 1) := by decide +kernel
theorem d33_6 : decode (mB 33) 6 = .ok (.invokevirtual 335, 3) := by decide +kernel
theorem d33_9 : decode (mB 33) 9 = .ok (.ishr, 1) := by decide +kernel
theorem d33_10 : decode (mB 33) 10 = .ok (.ireturn, 1) := by decide +kernel
theorem d34_0 : decode (mB 34) 0 = .ok (.getstatic 38, 3) := by decide +kernel
theorem d34_3 : decode (mB 34) 3 = .ok (.ifCond .eq 10, 3) := by decide +kernel
theorem d34_6 : decode (mB 34) 6 = .ok (.aload_n 0, 1) := by decide +kernel
theorem d34_7 : decode (mB 34) 7 = .ok (.getfield 15, 3) := by decide +kernel
theorem d34_10 : decode (mB 34) 10 = .ok (.goto 4, 3) := by decide +kernel
theorem d34_14 : decode (mB 34) 14 = .ok (.ireturn, 1) := by decide +kernel
theorem q24 {E : En} {M : Me} {top : Nat} {i n : Int32} {x : Value} (hx : x.category = 1) (h0 : ¬ i < 0) (h1 : i < n) : Cq 0 24 E [.int i, .int n, x] (fun _ => True) M top (fun r => r = some (.int i)) := by
  refine cq_of (by decide +kernel) ?_ ?_
  · have : (lg_sl [Value.int i, Value.int n, x]).length = 3 := by simp [lg_sl, hx]; try rfl
    rw [this]; decide
  have e : ∃ l3, lv_args 0 [Value.int i, Value.int n, x] = (0, .int i) :: (1, .int n) :: l3 := ⟨_, rfl⟩
  obtain ⟨l3, e⟩ := e
  rw [e]
  refine q_iload_n (pc := 0) d24_0 (.head _) ?_
  refine q_if_lt (pc := 1) (tgt := 9) d24_1 (by decide) (fun c => absurd c h0) (fun _ => ?_)
  refine q_iload_n (pc := 4) d24_4 (.head _) ?_
  refine q_iload_n (pc := 5) d24_5 (.tail _ (.head _)) ?_
  refine q_icmp_lt (pc := 6) (tgt := 16) d24_6 (by decide) (fun _ => ?_) (fun c => absurd h1 c)
  refine q_iload_n (pc := 16) d24_16 (.head _) ?_
  exact q_zret (pc := 17) d24_17 rfl rfl rfl
theorem q23 {E : En} {M : Me} {top : Nat} {i n : Int32} (h0 : ¬ i < 0) (h1 : i < n) : Cq 1 23 E [.int i, .int n] (fun _ => True) M top (fun r => r = none) := by
  refine cq_of (by decide +kernel) (Nat.le_of_ble_eq_true rfl) ?_
  show Wq _ _ _ _ _ _ _ _ [(0, .int i), (1, .int n)] _
  have key : ∀ x : Value, x.category = 1 → Wq E M top (rmd 1 0 0) 23 (qZ E M top (fun r => r = none)) (fun _ => True) 5 [(0, .int i), (1, .int n)] [x, .int n, .int i] := fun x hx => by
    refine q_callS (pc := 5) (As := [.int i, .int n, x]) (st := []) (y := 24) d23_5 (gw_t (i := 418) (by decide +kernel) (by decide +kernel)) mk24 mT24 rfl (by decide) (q24 hx h0 h1) (fun _ _ _ => trivial) (fun _ _ _ _ => trivial) (by decide) ?_
    rintro r rfl
    refine q_pop (pc := 8) d23_8 ?_
    exact q_vret (pc := 9) d23_9 rfl rfl
  refine q_iload_n (pc := 0) d23_0 (.head _) ?_
  refine q_iload_n (pc := 1) d23_1 (.tail _ (.head _)) ?_
  intro l p e s m args below meth c C hGs H locs hl hH ls hv
  rcases C.2.2.2.2.2.2.2.2.2.1.2.2.2.2.2.2.2 with hz | ⟨t, hz⟩
  · have k2 : Wq E M top (rmd 1 0 0) 23 (qZ E M top (fun r => r = none)) (fun s => va_Z "jdk/internal/util/Preconditions" "SIOOBE_FORMATTER" "Ljava/util/function/BiFunction;" .null (eNew E) s (eG E)) 2 [(0, .int i), (1, .int n)] [.int n, .int i] := by
      refine q_gets (pc := 2) (Cn := "jdk/internal/util/Preconditions") (nm := "SIOOBE_FORMATTER") (ds := "Ljava/util/function/BiFunction;") d23_2 (gw_t (i := 416) (by decide +kernel) (by decide +kernel)) (fun s _ h => h) ?_
      intro l p e s m args below meth c C hGs
      exact key .null rfl l p e s m args below meth c C trivial
    exact k2 l p e s m args below meth c C hz H locs hl hH ls hv
  · have k2 : Wq E M top (rmd 1 0 0) 23 (qZ E M top (fun r => r = none)) (fun s => va_Z "jdk/internal/util/Preconditions" "SIOOBE_FORMATTER" "Ljava/util/function/BiFunction;" (.ref t) (eNew E) s (eG E)) 2 [(0, .int i), (1, .int n)] [.int n, .int i] := by
      refine q_gets (pc := 2) (Cn := "jdk/internal/util/Preconditions") (nm := "SIOOBE_FORMATTER") (ds := "Ljava/util/function/BiFunction;") d23_2 (gw_t (i := 416) (by decide +kernel) (by decide +kernel)) (fun s _ h => h) ?_
      intro l p e s m args below meth c C hGs
      exact key (.ref t) rfl l p e s m args below meth c C trivial
    exact k2 l p e s m args below meth c C hz H locs hl hH ls hv
theorem q22 {E : En} {M : Me} {top t N q : Nat} {f : Nat → Value} {b : Int32} (hN : N < 2 ^ 31) (hq : q < N) (hb : f q = .int b) (hb0 : ((b &&& 255).toUInt32 % 65536).toInt32 = b) (hb1 : narrow .char (.int b) = .int b) : Cq 2 22 E [.ref t, .int (nI q)] (fun U => va_T .byte t N f (eNew E) U (eG E)) M top (fun r => r = some (.int b)) := by
  refine cq_of (by decide +kernel) (Nat.le_of_ble_eq_true rfl) ?_
  show Wq _ _ _ _ _ _ _ _ [(0, .ref t), (1, .int (nI q))] _
  have h0 : ¬ nI q < 0 := nI_pos (by omega)
  have h1 : nI q < Int32.ofNat N := nI_lt hq hN
  refine q_iload_n (pc := 0) d22_0 (.tail _ (.head _)) ?_
  refine q_aload_n (pc := 1) d22_1 (.head _) ?_
  refine q_alen (pc := 2) d22_2 (fun s _ h => h) ?_
  refine q_callS (pc := 3) (As := [.int (nI q), .int (Int32.ofNat N)]) (st := []) (y := 23) d22_3 (gw_t (i := 413) (by decide +kernel) (by decide +kernel)) mk23 mT23 rfl (by decide) (q23 h0 h1) (fun _ _ _ => trivial) (fun _ _ _ _ => trivial) (by decide) ?_
  rintro r rfl
  refine q_aload_n (pc := 6) d22_6 (.head _) ?_
  refine q_iload_n (pc := 7) d22_7 (.tail _ (.head _)) ?_
  refine q_bald (pc := 8) (v := .int b) d22_8 (fun s _ h => h) (vp_in_nI hq hN) (by rw [nI_clamp (by omega)]; exact hb) ?_
  refine q_sipush (pc := 9) (v := 255) d22_9 (by decide) ?_
  refine q_iand (pc := 12) d22_12 ?_
  refine q_i2c (pc := 13) d22_13 hb0 ?_
  exact q_zret (pc := 14) d22_14 rfl hb1 rfl
def sB (i q : Nat) : Int32 := (sByt.getD i []).getD q 0
def sN (i : Nat) : Nat := sLen.getD i 0
theorem sB_all : ∀ i, i < 2 → sN i < 2 ^ 31 ∧ ∀ q, q < sN i → ((sB i q &&& 255).toUInt32 % 65536).toInt32 = sB i q ∧ narrow .char (.int (sB i q)) = .int (sB i q) := by decide +kernel
theorem q21 {E : En} {M : Me} {top i : Nat} (hi : i < 2) : Cq 0 21 E [.ref (ea E (i + 1))] (fun _ => True) M top (fun r => r = some (.int 1)) := by
  refine cq_of (by decide +kernel) (Nat.le_of_ble_eq_true rfl) ?_
  show Wq _ _ _ _ _ _ _ _ [(0, .ref (ea E (i + 1)))] _
  refine q_gets (pc := 0) (Cn := "java/lang/String") (nm := "COMPACT_STRINGS") (ds := "Z") (v := .int 1) d21_0 (gw_t (i := 408) (by decide +kernel) (by decide +kernel)) (fun s h _ => h.2.2.2.2.1) ?_
  refine q_if_eq (pc := 3) (tgt := 17) d21_3 (by decide) (fun c => absurd c (by decide)) (fun _ => ?_)
  refine q_aload_n (pc := 6) d21_6 (.head _) ?_
  refine q_getf (pc := 7) (Cn := "java/lang/String") (nm := "coder") (ds := "B") (v := .int 0) d21_7 (gw_t (i := 1348) (by decide +kernel) (by decide +kernel)) (fun s h _ => by obtain ⟨adV, hV⟩ := h.2.2.2.1; exact (hV.1 i hi).2.1) ?_
  refine q_if_ne (pc := 10) (tgt := 17) d21_10 (by decide) (fun c => absurd rfl c) (fun _ => ?_)
  refine q_iconst (pc := 13) (v := 1) d21_13 (by decide) ?_
  refine q_goto (pc := 14) (tgt := 18) d21_14 (by decide) ?_
  exact q_zret (pc := 18) d21_18 rfl rfl rfl
theorem q34 {E : En} {M : Me} {top i : Nat} (hi : i < 2) : Cq 0 34 E [.ref (ea E (i + 1))] (fun _ => True) M top (fun r => r = some (.int 0)) := by
  refine cq_of (by decide +kernel) (Nat.le_of_ble_eq_true rfl) ?_
  show Wq _ _ _ _ _ _ _ _ [(0, .ref (ea E (i + 1)))] _
  refine q_gets (pc := 0) (Cn := "java/lang/String") (nm := "COMPACT_STRINGS") (ds := "Z") (v := .int 1) d34_0 (gw_t (i := 408) (by decide +kernel) (by decide +kernel)) (fun s h _ => h.2.2.2.2.1) ?_
  refine q_if_eq (pc := 3) (tgt := 13) d34_3 (by decide) (fun c => absurd c (by decide)) (fun _ => ?_)
  refine q_aload_n (pc := 6) d34_6 (.head _) ?_
  refine q_getf (pc := 7) (Cn := "java/lang/String") (nm := "coder") (ds := "B") (v := .int 0) d34_7 (gw_t (i := 1348) (by decide +kernel) (by decide +kernel)) (fun s h _ => by obtain ⟨adV, hV⟩ := h.2.2.2.1; exact (hV.1 i hi).2.1) ?_
  refine q_goto (pc := 10) (tgt := 14) d34_10 (by decide) ?_
  exact q_zret (pc := 14) d34_14 rfl rfl rfl
theorem q20 {E : En} {M : Me} {top i q : Nat} (hi : i < 2) (hq : q < sN i) : Cq 3 20 E [.ref (ea E (i + 1)), .int (nI q)] (fun _ => True) M top (fun r => r = some (.int (sB i q))) := by
  refine cq_of (by decide +kernel) (Nat.le_of_ble_eq_true rfl) ?_
  show Wq _ _ _ _ _ _ _ _ [(0, .ref (ea E (i + 1))), (1, .int (nI q))] _
  refine q_aload_n (pc := 0) d20_0 (.head _) ?_
  refine q_callV (pc := 1) (As := []) (st := []) (y := 21) d20_1 (gw_t (i := 404) (by decide +kernel) (by decide +kernel)) mk21 mI21 mS21 rfl hi rfl (by decide) (q21 hi) (fun _ _ _ => trivial) (fun _ _ _ _ => trivial) (by decide) ?_
  rintro r rfl
  refine q_if_eq (pc := 4) (tgt := 16) d20_4 (by decide) (fun c => absurd c (by decide)) (fun _ => ?_)
  refine q_aload_n (pc := 7) d20_7 (.head _) ?_
  intro l p e s m args below meth c C hGs H locs hl hH ls hv
  obtain ⟨adV, hV⟩ := C.2.2.2.2.2.2.2.2.2.1.2.2.2.1
  have k2 : Wq E M top (rmd 3 0 0) 20 (qZ E M top (fun r => r = some (.int (sB i q)))) (fun s => va_OF "java/lang/String" "value" "[B" (.ref (adV i)) (ea E (i + 1)) (eNew E) s (eG E) ∧ va_T .byte (adV i) (sN i) (fun j => .int (sB i j)) (eNew E) s (eG E)) 8 [(0, .ref (ea E (i + 1))), (1, .int (nI q))] [.ref (ea E (i + 1))] := by
    refine q_getf (pc := 8) (Cn := "java/lang/String") (nm := "value") (ds := "[B") (v := .ref (adV i)) d20_8 (gw_t (i := 1349) (by decide +kernel) (by decide +kernel)) (fun s _ h => h.1) ?_
    refine q_iload_n (pc := 11) d20_11 (.tail _ (.head _)) ?_
    refine q_callS (pc := 12) (As := [.ref (adV i), .int (nI q)]) (st := []) (y := 22) d20_12 (gw_t (i := 410) (by decide +kernel) (by decide +kernel)) mk22 mT22 rfl (by decide) (q22 (sB_all i hi).1 hq rfl ((sB_all i hi).2 q hq).1 ((sB_all i hi).2 q hq).2) (fun _ _ h => h.2) (fun u U hA h => va_T.moved hA h) (by decide) ?_
    rintro r rfl
    exact q_zret (pc := 15) d20_15 rfl ((sB_all i hi).2 q hq).2 rfl
  exact k2 l p e s m args below meth c C ⟨(hV.1 i hi).2.2.1, (hV.1 i hi).2.2.2⟩ H locs hl hH ls hv
theorem sN_sh : ∀ i, i < 2 → Int32.ofNat (sN i) >>> ((0 : Int32) &&& 31) = nI (sN i) := by decide +kernel
theorem q33 {E : En} {M : Me} {top i : Nat} (hi : i < 2) : Cq 1 33 E [.ref (ea E (i + 1))] (fun _ => True) M top (fun r => r = some (.int (nI (sN i)))) := by
  refine cq_of (by decide +kernel) (Nat.le_of_ble_eq_true rfl) ?_
  show Wq _ _ _ _ _ _ _ _ [(0, .ref (ea E (i + 1)))] _
  refine q_aload_n (pc := 0) d33_0 (.head _) ?_
  intro l p e s m args below meth c C hGs H locs hl hH ls hv
  obtain ⟨adV, hV⟩ := C.2.2.2.2.2.2.2.2.2.1.2.2.2.1
  have k2 : Wq E M top (rmd 1 0 0) 33 (qZ E M top (fun r => r = some (.int (nI (sN i))))) (fun s => va_OF "java/lang/String" "value" "[B" (.ref (adV i)) (ea E (i + 1)) (eNew E) s (eG E) ∧ va_T .byte (adV i) (sN i) (fun j => .int (sB i j)) (eNew E) s (eG E)) 1 [(0, .ref (ea E (i + 1)))] [.ref (ea E (i + 1))] := by
    refine q_getf (pc := 1) (Cn := "java/lang/String") (nm := "value") (ds := "[B") (v := .ref (adV i)) d33_1 (gw_t (i := 1349) (by decide +kernel) (by decide +kernel)) (fun s _ h => h.1) ?_
    refine q_alen (pc := 4) d33_4 (fun s _ h => h.2) ?_
    refine q_aload_n (pc := 5) d33_5 (.head _) ?_
    refine q_callV (pc := 6) (As := []) (st := [.int (Int32.ofNat (sN i))]) (y := 34) d33_6 (gw_t (i := 459) (by decide +kernel) (by decide +kernel)) mk34 mI34 mS34 rfl hi rfl (Nat.le_of_ble_eq_true rfl) (q34 hi) (fun _ _ _ => trivial) (fun _ _ _ _ => trivial) (by decide) ?_
    rintro r rfl
    refine q_ishr (pc := 9) d33_9 ?_
    rw [sN_sh i hi]
    exact q_zret (pc := 10) d33_10 rfl rfl rfl
  exact k2 l p e s m args below meth c C ⟨(hV.1 i hi).2.2.1, (hV.1 i hi).2.2.2⟩ H locs hl hH ls hv
/-! as contracts, and as rows of the class's code -/
theorem ct_q {d j : Nat} {av : List Value} {M : Me} {top : Nat} {post : Option Value → Prop} (h : ∀ E : En, Cq d j E (av.map (tv (ea E))) (fun _ => True) M top post) (hp0 : ∀ r, post r → ∃ v : Int32, r = some (.int v)) : Ct d 0 0 j av M top (fun r M1 t1 => post r ∧ M1 = M ∧ t1 = top) := by
  intro l E hE p e h1 h2 h3 s m args below hf hS hP hK
  obtain ⟨q, o, a1, a2, a3, ⟨r, b1, b2, b3⟩, a5⟩ := h E l hE p e h1 h2 h3 s m args below hf hS ⟨hP.1, ⟨hP.2.1, hP.2.2⟩, trivial⟩ hK
  obtain ⟨v, rfl⟩ := hp0 r b2
  exact ⟨q, o, a1, a2, a3, ⟨some (.int v), M, top, b1, ⟨b2, rfl, rfl⟩, b3⟩, a5⟩
section YS
variable {ρ : Type} {r : ρ} {R : Room} {j : Nat} {Z : Zt} {k n pc : Nat} {lv : List (Nat × Value)} {st : List Value} {M : Me} {top : Nat}
theorem x_ldcS {i idx : Nat} (hi : i = 0 ∧ idx = 54 ∨ i = 1 ∧ idx = 62) (hj : (mY j).cls = "MaskedThrows$Tokens") (hd : decode (mB j) pc = .ok (.ldc idx, 2)) (kk : Wp R j Z k n (pc + 2) lv (.ref (i + 1) :: st) M top) : Wp R j Z k n pc lv st M top := by
  intro l E p e s m args below meth c C H locs hl hH ls hv
  have hF := C.2.2.2.2.2.2.2.2.2.1
  rcases hi with ⟨rfl, rfl⟩ | ⟨rfl, rfl⟩
  · exact va_ldcS C.2.1 C.2.2.1 C.2.2.2.2.2.1 (by rw [hj]; exact hF.2.2.1.1) hd (kk l E p e s m args below meth c C H locs hl hH ls hv)
  · exact va_ldcS C.2.1 C.2.2.1 C.2.2.2.2.2.1 (by rw [hj]; exact hF.2.2.1.2) hd (kk l E p e s m args below meth c C H locs hl hH ls hv)
theorem x_callT {y idx d np i : Nat} {As : List Value} {post : Po} (hd : decode (mB j) pc = .ok (.invokevirtual idx, 3)) (hw : Cond.methodLink (mY j).cls idx (mY y) ∈ gw) (hok : mOK y np) (hI : Cond.instanceMethod (mY y) ∈ gw) (hSel : Cond.selects (mY y).cls (mY y) (mY y) ∈ gw) (hcl : (mY y).cls = "java/lang/String") (hi : i < 2) (hnp : As.length = np) (hrest : (st.map fun v => v.category).sum ≤ 8) (hct : Ct d 0 0 y (.ref (i + 1) :: As) M top post) (hR : d + 1 ≤ R.frames ∧ 8 + (mL y + 11) + 40 * d ≤ R.locals) (hf : k ≤ R.cells ∧ n ≤ R.slots) (kk : ∀ r M1 top1, post r M1 top1 → Wp R j Z k n (pc + 3) lv (r.toList ++ st) M1 top1) : Wp R j Z k n pc lv (As.reverse ++ .ref (i + 1) :: st) M top := by
  intro l E p e s m args below meth c C H locs hl hH ls hv
  have hts := C.2.2.2.2.2.2.1
  have hF := C.2.2.2.2.2.2.2.2.2.1
  have hGood : GoodIn gw (wsV (mY j).cls idx (mY y).cls (mY y) (mW y)) := good_list (fun w h => by
    unfold wsV at h
    rcases List.mem_append.mp h with h | h
    · simp only [List.mem_cons, List.not_mem_nil, or_false] at h
      rcases h with rfl | rfl | rfl | rfl
      · exact hw
      · exact hI
      · exact hSel
      · exact hok.2.1
    · exact mW_in hok.1 w h)
  have cw := cwV (R := R) (rm := rmd d 0 0) (mc := 0) (ms := 0) np hts hGood rfl rfl rfl ⟨rfl, hok.2.2⟩ hR
  have hrecv := vk_rc hF hi (hp_S C.1 hH hl)
  rw [← hcl] at hrecv
  refine x_back (va_runV (As := As.map (tv (ea E))) (b := ea E (i + 1)) ⟨C.2.1, C.2.2.1, C.2.2.2.2.1, C.2.2.2.2.2.1, hts⟩ (hct l E C.1) cw ⟨cPc_blind _ _ _ _, hrecv, fun U hU hW => ⟨rfl, by rw [hU]; exact hH, eF_warm hW hF⟩⟩ rfl (by rw [List.length_map]; exact hnp) hv.1 ?_ (lv_room (by rw [st_cat]; exact hrest)) hd hf) C hl hv kk
  show (As.reverse ++ Value.ref (i + 1) :: st).map (tv (ea E)) = _
  rw [List.map_append, List.map_reverse]; rfl
theorem z_charAt {s : St} {idx i : Nat} {z : Int32} {g : Int32 → Option ρ} (hi : i < 2) (hd : decode (mB j) pc = .ok (.invokevirtual idx, 3)) (hw : Cond.methodLink (mY j).cls idx (mY 20) ∈ gw) (hR : 4 ≤ R.frames ∧ 160 ≤ R.locals) (hr : (st.map fun v => v.category).sum ≤ 8) (hf : k ≤ R.cells ∧ n ≤ R.slots) (h : grd (ib z (sN i)) (sB i z.toNatClampNeg) g = some r) (kk : ∀ v, g v = some r → Wp R j Z k n (pc + 3) lv (.int v :: st) (mk s) TT) : Wp R j Z k n pc lv (.int z :: .ref (i + 1) :: st) (mk s) TT := by
  obtain ⟨hg, h2⟩ := grd_e h
  obtain ⟨q, hq, e, -, -⟩ := pk_mu hg.1 hg.2 (sB_all i hi).1
  rw [e, nI_clamp (by have := (sB_all i hi).1; omega)] at h2
  subst e
  refine x_callT (As := [.int (nI q)]) (y := 20) (np := 1) (d := 3) hd hw mk20 mI20 mS20 rfl hi rfl hr (ct_q (fun E => q20 hi hq) (fun r h => ⟨_, h⟩)) ⟨hR.1, Nat.le_trans (by decide) hR.2⟩ hf ?_
  rintro r1 M1 t1 ⟨rfl, rfl, rfl⟩
  exact kk _ h2
theorem x_slen {idx i : Nat} (hi : i < 2) (hd : decode (mB j) pc = .ok (.invokevirtual idx, 3)) (hw : Cond.methodLink (mY j).cls idx (mY 33) ∈ gw) (hR : 2 ≤ R.frames ∧ 80 ≤ R.locals) (hr : (st.map fun v => v.category).sum ≤ 8) (hf : k ≤ R.cells ∧ n ≤ R.slots) (kk : Wp R j Z k n (pc + 3) lv (.int (nI (sN i)) :: st) M top) : Wp R j Z k n pc lv (.ref (i + 1) :: st) M top := by
  refine x_callT (As := []) (y := 33) (np := 0) (d := 1) hd hw mk33 mI33 mS33 rfl hi rfl hr (ct_q (fun E => q33 hi) (fun r h => ⟨_, h⟩)) ⟨hR.1, Nat.le_trans (by decide) hR.2⟩ hf ?_
  rintro r1 M1 t1 ⟨rfl, rfl, rfl⟩
  exact kk
end YS
