/-! making: the memory that the constructors leave -/
def s00 : St := (fun id o _ => if id = 32 then (if o < 6 then nI o else -1) else if id = 37 then 12 else if id = 44 then -1 else if id = 49 then -1 else if id = 133 then -1 else if id = 209 then -1 else 0, fun _ _ _ => 0)
def T0 : Me := mk s00
def Ceq (c d : Ce) : Prop := c = d ∨ ∃ (t N : Nat) (f g : Nat → Option Nat), c = .inl (t, N, .inr (.inr (.inr (.inr f)))) ∧ d = .inl (t, N, .inr (.inr (.inr (.inr g)))) ∧ ∀ j, j < N → f j = g j
theorem arrV_cg {cA : ClassId} {N : Nat} {f g : Nat → Value} (h : ∀ j, j < N → f j = g j) : arrV cA N f = arrV cA N g := by
  unfold arrV
  have : (fun j : Fin N => f j.val) = fun j : Fin N => g j.val := funext fun j => h j.val j.isLt
  rw [this]
theorem hp_mem {E : En} {M M' : Me} {top : Nat} {H : Heap} (h : hp E M top H) (he : ∀ q, 3 ≤ q → q < top → Ceq (M q) (M' q)) : hp E M' top H := by
  refine ⟨fun k q hk => ?_, h.2⟩
  obtain ⟨h1, rfl⟩ := wl_at hk
  have h2 := h.1 k _ (by have := wl_get (E := E) (M := M) (a := k + 3) (by omega) h1; rw [Nat.add_sub_cancel] at this; exact this)
  rcases he (k + 3) (by omega) h1 with e | ⟨t, N, f, g, e1, e2, e3⟩
  · rw [← e]; exact h2
  · rw [e1] at h2
    rw [e2]
    have h3 : H[ea E (k + 3)]? = some (arrV (eA E t) N (fun j => va_rf ((f j).map (ea E)))) := h2
    show H[ea E (k + 3)]? = some (arrV (eA E t) N (fun j => va_rf ((g j).map (ea E))))
    rw [h3, arrV_cg (fun j hj => by rw [e3 j hj])]
section XM
variable {R : Room} {j : Nat} {Z : Zt} {k n pc : Nat} {lv : List (Nat × Value)} {st : List Value} {M : Me} {top : Nat}
theorem x_mem {M' : Me} (he : ∀ q, 3 ≤ q → q < top → Ceq (M q) (M' q)) (kk : Wp R j Z k n pc lv st M' top) : Wp R j Z k n pc lv st M top := by
  intro l E p e s m args below meth c C H locs hl hH ls hv
  exact kk l E p e s m args below meth c C H locs hl (hp_mem hH he) ls hv
def cn (M : Me) (a t ci : Nat) (fs : List Value) : Me := fun q => if q = a then .inr (ci, fs) else if t ≤ q then T0 q else M q
def mxT (M : Me) (a t : Nat) : Me := fun q => if q = a ∨ t ≤ q then T0 q else M q
def pM (M1 : Me) (t1 : Nat) : Po := fun r M t => r = none ∧ M = M1 ∧ t = t1
def fRf (base step i : Nat) : Nat → Option Nat := fun j => if j < i then some (base + step * j) else none
abbrev rfs (t N : Nat) (f : Nat → Option Nat) : Ce := .inl (t, N, .inr (.inr (.inr (.inr f))))
theorem cn_a {a t ci : Nat} {fs : List Value} : cn M a t ci fs a = .inr (ci, fs) := if_pos rfl
theorem cn_t {a t ci q : Nat} {fs : List Value} (h : q ≠ a) (h2 : t ≤ q) : cn M a t ci fs q = T0 q := by unfold cn; rw [if_neg h, if_pos h2]
theorem cn_m {a t ci q : Nat} {fs : List Value} (h : q ≠ a) (h2 : q < t) : cn M a t ci fs q = M q := by unfold cn; rw [if_neg h, if_neg (by omega)]
theorem mx_t {a t q : Nat} (h : q = a ∨ t ≤ q) : mxT M a t q = T0 q := if_pos h
theorem mx_m {a t q : Nat} (h : q ≠ a) (h2 : q < t) : mxT M a t q = M q := if_neg (fun z => by omega)
theorem cn_start {a ci : Nat} {fs : List Value} (hM : M a = .inr (ci, fs)) (kk : Wp R j Z k n pc lv st (cn M a top ci fs) top) : Wp R j Z k n pc lv st M top :=
  x_mem (fun q h1 h2 => Or.inl (by
    by_cases e : q = a
    · rw [e, hM, cn_a]
    · rw [cn_m e h2])) kk
theorem cn_end {a t t1 ci mc ms : Nat} {fs : List Value} (hd : decode (mB j) pc = .ok (.return_, 1)) (hr : mR j = none) (hk : k ≤ mc ∧ n ≤ ms) (hT : T0 a = .inr (ci, fs)) (ht : top = t1) : Wp R j (mZ (pM (mxT M a t) t1) mc ms) k n pc lv [] (cn M a t ci fs) top := by
  refine x_mem (M' := mxT M a t) (fun q h1 h2 => Or.inl ?_) (x_vret hd hr hk ⟨rfl, rfl, ht⟩)
  by_cases e : q = a
  · rw [e, cn_a, mx_t (Or.inl rfl), hT]
  · by_cases g : t ≤ q
    · rw [cn_t e g, mx_t (Or.inr g)]
    · rw [cn_m e (by omega), mx_m e (by omega)]
/-- a call of a constructor has filled what lies behind b -/
theorem cn_abs {W : Me} {b : Nat} {c0 : Ce} (hW : ∀ q, b ≤ q → q < top → W q = T0 q) (kk : Wp R j Z k n pc lv st W top) : Wp R j Z k n pc lv st (mxT (va_up W b c0) b (b + 1)) top :=
  x_mem (fun q h1 h2 => Or.inl (by
    by_cases e : b ≤ q
    · rw [mx_t (by omega), hW q e h2]
    · rw [mx_m (by omega) (by omega), va_up_ne _ _ (by omega)])) kk
def pF (j idx ci f : Nat) : Prop := Cond.fieldLink (mY j).cls idx (clT ci f).1 (clT ci f).2.1 (clT ci f).2.2.1 ∈ gw ∧ ci < 10 ∧ f < clN ci ∧ (clT ci f).2.2.2 = true ∧ (mY j).name = "<init>" ∧ (clT ci f).1 = (mY j).cls
theorem cn_put {a t ci f idx : Nat} {fs : List Value} {v : Value} (hd : decode (mB j) pc = .ok (.putfield idx, 3)) (hF : pF j idx ci f) (hn : narrow (clY ci f) v = v ∧ fits (clY ci f) v = true) (hlen : fs.length = clN ci) (ha : 3 ≤ a ∧ a < t ∧ t ≤ top) (kk : Wp R j Z k n (pc + 3) lv st (cn M a t ci (fs.set f v)) top) : Wp R j Z k n pc lv (v :: .ref a :: st) (cn M a t ci fs) top := by
  obtain ⟨f1, f2, f3, f4, f5, f6⟩ := hF
  refine x_putF hd f1 f2 f3 f4 f5 f6 ⟨ha.1, by omega⟩ cn_a hn (by omega) ?_
  refine x_mem (fun q h1 h2 => Or.inl ?_) kk
  by_cases e : q = a
  · rw [e, va_up_self, cn_a]
  · rw [va_up_ne _ _ e]
    unfold cn
    rw [if_neg e, if_neg e]
theorem cn_puti {a t ci f idx : Nat} {fs : List Value} {v : Value} (hd : decode (mB j) pc = .ok (.putfield idx, 3)) (hw : Cond.fieldLink (mY j).cls idx (clT ci f).1 (clT ci f).2.1 (clT ci f).2.2.1 ∈ gw) (hci : ci < 10) (hf : f < clN ci) (hfin : (clT ci f).2.2.2 = false) (hn : narrow (clY ci f) v = v ∧ fits (clY ci f) v = true) (hlen : fs.length = clN ci) (ha : 3 ≤ a ∧ a < t ∧ t ≤ top) (kk : Wp R j Z k n (pc + 3) lv st (cn M a t ci (fs.set f v)) top) : Wp R j Z k n pc lv (v :: .ref a :: st) (cn M a t ci fs) top := by
  refine x_putf hd hw hci hf hfin ⟨ha.1, by omega⟩ cn_a hn (by omega) ?_
  refine x_mem (fun q h1 h2 => Or.inl ?_) kk
  by_cases e : q = a
  · rw [e, va_up_self, cn_a]
  · rw [va_up_ne _ _ e]
    unfold cn
    rw [if_neg e, if_neg e]
/-- while an array at b isn't full yet -/
theorem cb_put {a t ci f idx b : Nat} {c : Ce} {fs : List Value} {v : Value} (hd : decode (mB j) pc = .ok (.putfield idx, 3)) (hF : pF j idx ci f) (hn : narrow (clY ci f) v = v ∧ fits (clY ci f) v = true) (hlen : fs.length = clN ci) (ha : 3 ≤ a ∧ a < t ∧ t ≤ top ∧ a ≠ b) (kk : Wp R j Z k n (pc + 3) lv st (va_up (cn M a t ci (fs.set f v)) b c) top) : Wp R j Z k n pc lv (v :: .ref a :: st) (va_up (cn M a t ci fs) b c) top := by
  obtain ⟨f1, f2, f3, f4, f5, f6⟩ := hF
  refine x_putF hd f1 f2 f3 f4 f5 f6 ⟨ha.1, by omega⟩ (by rw [va_up_ne _ _ ha.2.2.2]; exact cn_a) hn (by omega) ?_
  refine x_mem (fun q h1 h2 => Or.inl ?_) kk
  by_cases e : q = a
  · rw [e, va_up_self, va_up_ne _ _ ha.2.2.2, cn_a]
  · rw [va_up_ne _ _ e]
    by_cases g : q = b
    · rw [g, va_up_self, va_up_self]
    · rw [va_up_ne _ _ g, va_up_ne _ _ g]
      unfold cn
      rw [if_neg e, if_neg e]
theorem cb_puti {a t ci f idx b : Nat} {c : Ce} {fs : List Value} {v : Value} (hd : decode (mB j) pc = .ok (.putfield idx, 3)) (hw : Cond.fieldLink (mY j).cls idx (clT ci f).1 (clT ci f).2.1 (clT ci f).2.2.1 ∈ gw) (hci : ci < 10) (hf : f < clN ci) (hfin : (clT ci f).2.2.2 = false) (hn : narrow (clY ci f) v = v ∧ fits (clY ci f) v = true) (hlen : fs.length = clN ci) (ha : 3 ≤ a ∧ a < t ∧ t ≤ top ∧ a ≠ b) (kk : Wp R j Z k n (pc + 3) lv st (va_up (cn M a t ci (fs.set f v)) b c) top) : Wp R j Z k n pc lv (v :: .ref a :: st) (va_up (cn M a t ci fs) b c) top := by
  refine x_putf hd hw hci hf hfin ⟨ha.1, by omega⟩ (by rw [va_up_ne _ _ ha.2.2.2]; exact cn_a) hn (by omega) ?_
  refine x_mem (fun q h1 h2 => Or.inl ?_) kk
  by_cases e : q = a
  · rw [e, va_up_self, va_up_ne _ _ ha.2.2.2, cn_a]
  · rw [va_up_ne _ _ e]
    by_cases g : q = b
    · rw [g, va_up_self, va_up_self]
    · rw [va_up_ne _ _ g, va_up_ne _ _ g]
      unfold cn
      rw [if_neg e, if_neg e]
def zA (ty N : Nat) : vp_A := if ty = 1 then (N, .inr (.inl (fun _ => 0))) else (N, .inl (fun _ => 0))
theorem zA_c {ty N : Nat} (h : ty < 4) (cA : ClassId) : vp_cell cA (zA ty N) = arrV cA N (fun _ => defaultValue (tyO ty)) := by
  rcases (by omega : ty = 0 ∨ ty = 1 ∨ ty = 2 ∨ ty = 3) with rfl | rfl | rfl | rfl <;> rfl
theorem zA_t {ty N : Nat} (h : ty < 4) (ad : Nat → Nat) : tA ad (zA ty N) = zA ty N := by
  rcases (by omega : ty = 0 ∨ ty = 1 ∨ ty = 2 ∨ ty = 3) with rfl | rfl | rfl | rfl <;> rfl
theorem T0_a {q ty N id o : Nat} (h : sh q = .inr (ty, N, id, o)) (ht : ty < 4) (hz : s00.1 id o = fun _ => 0) : T0 q = .inl (ty, zA ty N) := by
  unfold T0 mk
  rw [h]
  rcases (by omega : ty = 0 ∨ ty = 1 ∨ ty = 2 ∨ ty = 3) with rfl | rfl | rfl | rfl
  · show Sum.inl (0, N, Sum.inl (s00.1 id o)) = _; rw [hz]; rfl
  · rfl
  · show Sum.inl (2, N, Sum.inl (s00.1 id o)) = _; rw [hz]; rfl
  · show Sum.inl (3, N, Sum.inl (s00.1 id o)) = _; rw [hz]; rfl
theorem T0_o {q ci : Nat} {ds : List Ds} (h : sh q = .inl (ci, ds)) : T0 q = .inr (ci, ds.map (itv s00)) := by
  unfold T0 mk
  rw [h]; rfl
theorem T0_r {q t N id o : Nat} (h : sh q = .inr (t, N, id, o)) (ht : 4 ≤ t) : T0 q = rfs t N (fun q => some (id + o * q)) := by
  unfold T0 mk
  rw [h]
  show (if t = 1 then _ else if t < 4 then _ else _) = _
  rw [if_neg (by omega), if_neg (by omega)]
/-- a new array for a field -/
theorem x_nap {a t ci f idx ty N : Nat} {fs : List Value} {at0 : ArrayType} {i : Int32} (hd1 : decode (mB j) pc = .ok (.newarray at0, 2)) (hd2 : decode (mB j) (pc + 2) = .ok (.putfield idx, 3)) (ht : ty < 4) (hty : newarray.typeOf at0 = tyO ty) (hw : Cond.arrayClass (tyO ty) ∈ gw) (hi0 : ¬ i < 0) (hN : i.toNatClampNeg = N) (hb : N * 8 ≤ 536870912) (hk : k + 1 ≤ R.cells ∧ n + N ≤ R.slots) (hF : pF j idx ci f) (hn : ∀ b, narrow (clY ci f) (.ref b) = .ref b ∧ fits (clY ci f) (.ref b) = true) (hlen : fs.length = clN ci) (ha : 3 ≤ a ∧ a < t ∧ t ≤ top) (hT : T0 top = .inl (ty, zA ty N)) (kk : Wp R j Z (k + 1) (n + N) (pc + 5) lv st (cn M a t ci (fs.set f (.ref top))) (top + 1)) : Wp R j Z k n pc lv (.int i :: .ref a :: st) (cn M a t ci fs) top := by
  refine x_newarr hd1 ht hty hw (zA_c ht) (zA_t ht) hi0 hN hb hk ?_
  refine x_mem (M' := cn M a t ci fs) (fun q h1 h2 => Or.inl ?_) (cn_put hd2 hF (hn _) hlen ⟨ha.1, ha.2.1, by omega⟩ kk)
  by_cases e : q = top
  · rw [e, va_up_self, cn_t (by omega) ha.2.2, hT]
  · rw [va_up_ne _ _ e]
/-- a new array of references for a field -/
theorem x_anp {a t ci f idx idx1 t0 cj N base step : Nat} {fs : List Value} {i : Int32} (hd1 : decode (mB j) pc = .ok (.anewarray idx1, 3)) (hd2 : decode (mB j) (pc + 3) = .ok (.putfield idx, 3)) (hw : Cond.classLink (mY j).cls idx1 (clS cj) ∈ gw) (ht : 4 ≤ t0 ∧ t0 < 7) (htc : tyO t0 = .object (clS cj)) (hi0 : ¬ i < 0) (hN : i.toNatClampNeg = N) (hb : N * 4 ≤ 536870912) (hk : k + 1 ≤ R.cells ∧ n + N ≤ R.slots) (hF : pF j idx ci f) (hn : ∀ b, narrow (clY ci f) (.ref b) = .ref b ∧ fits (clY ci f) (.ref b) = true) (hlen : fs.length = clN ci) (ha : 3 ≤ a ∧ a < t ∧ t ≤ top) (kk : Wp R j Z (k + 1) (n + N) (pc + 6) lv st (va_up (cn M a t ci (fs.set f (.ref top))) top (rfs t0 N (fRf base step 0))) (top + 1)) : Wp R j Z k n pc lv (.int i :: .ref a :: st) (cn M a t ci fs) top := by
  refine x_anew hd1 hw ht htc hi0 hN hb hk ?_
  have e0 : (fun _ => none : Nat → Option Nat) = fRf base step 0 := funext fun q => (if_neg (Nat.not_lt_zero q)).symm
  rw [e0]
  exact cb_put hd2 hF (hn _) hlen ⟨ha.1, ha.2.1, by omega, by omega⟩ kk
/-- one more of an array of references -/
theorem x_stp {W : Me} {b v t0 ci N base step i : Nat} {fs : List Value} (hd : decode (mB j) pc = .ok (.aastore, 1)) (ht : t0 < 7) (htc : tyO t0 = .object (clS ci)) (hci : ci < 10) (hb : 3 ≤ b ∧ b < top) (hv : v = base + step * i) (hv0 : 3 ≤ v ∧ v < top ∧ v ≠ b) (hm : W v = .inr (ci, fs)) (hi : i < N) (hN : N < 2 ^ 31) (kk : Wp R j Z k n (pc + 1) lv st (va_up W b (rfs t0 N (fRf base step (i + 1)))) top) : Wp R j Z k n pc lv (.ref v :: .int (nI i) :: .ref b :: st) (va_up W b (rfs t0 N (fRf base step i))) top := by
  have vin : vp_in (nI i) N := fun z => by
    rcases z with z | z
    · exact nI_pos (by omega) z
    · rw [nI_clamp (by omega)] at z; omega
  refine x_aast ht htc hci hd hb (va_up_self _ _ _) ⟨hv0.1, hv0.2.1⟩ (by rw [va_up_ne _ _ hv0.2.2]; exact hm) vin ?_
  refine x_mem (fun q h1 h2 => ?_) kk
  by_cases e : q = b
  · rw [e, va_up_self, va_up_self]
    refine Or.inr ⟨t0, N, _, _, rfl, rfl, fun j hj => ?_⟩
    rw [nI_clamp (by omega)]
    by_cases g : j = i
    · rw [g, va_up_self]; unfold fRf; rw [if_pos (by omega), hv]
    · rw [va_up_ne _ _ g]; unfold fRf
      by_cases l : j < i
      · rw [if_pos l, if_pos (by omega)]
      · rw [if_neg l, if_neg (by omega)]
  · rw [va_up_ne _ _ e, va_up_ne _ _ e, va_up_ne _ _ e]; exact Or.inl rfl
/-- an array is full -/
theorem cb_full {W : Me} {b t0 N id o base step : Nat} (hs : sh b = .inr (t0, N, id, o)) (ht : 4 ≤ t0) (hb : base = id) (hst : step = o) (hW : W b = T0 b) (kk : Wp R j Z k n pc lv st W top) : Wp R j Z k n pc lv st (va_up W b (rfs t0 N (fRf base step N))) top := by
  subst hb; subst hst
  refine x_mem (fun q h1 h2 => ?_) kk
  by_cases e : q = b
  · rw [e, va_up_self, hW, T0_r hs ht]
    exact Or.inr ⟨t0, N, _, _, rfl, rfl, fun j hj => if_pos hj⟩
  · rw [va_up_ne _ _ e]; exact Or.inl rfl
end XM
theorem aw0 : Cond.arrayClass (tyO 0) ∈ gw := gw_t (i := 52) (by decide +kernel) (by decide +kernel)
theorem aw1 : Cond.arrayClass (tyO 1) ∈ gw := gw_t (i := 134) (by decide +kernel) (by decide +kernel)
theorem aw2 : Cond.arrayClass (tyO 2) ∈ gw := gw_t (i := 175) (by decide +kernel) (by decide +kernel)
theorem aw3 : Cond.arrayClass (tyO 3) ∈ gw := gw_t (i := 534) (by decide +kernel) (by decide +kernel)
theorem id_8 : Cond.initialized (clS 8) ∈ gw := gw_t (i := 1) (by decide +kernel) (by decide +kernel)
theorem id_3 : Cond.initialized (clS 3) ∈ gw := gw_t (i := 2) (by decide +kernel) (by decide +kernel)
theorem id_6 : Cond.initialized (clS 6) ∈ gw := gw_t (i := 3) (by decide +kernel) (by decide +kernel)
theorem id_4 : Cond.initialized (clS 4) ∈ gw := gw_t (i := 4) (by decide +kernel) (by decide +kernel)
theorem id_7 : Cond.initialized (clS 7) ∈ gw := gw_t (i := 5) (by decide +kernel) (by decide +kernel)
theorem id_1 : Cond.initialized (clS 1) ∈ gw := gw_t (i := 6) (by decide +kernel) (by decide +kernel)
theorem id_2 : Cond.initialized (clS 2) ∈ gw := gw_t (i := 7) (by decide +kernel) (by decide +kernel)
theorem id_5 : Cond.initialized (clS 5) ∈ gw := gw_t (i := 8) (by decide +kernel) (by decide +kernel)
theorem id_0 : Cond.initialized (clS 0) ∈ gw := gw_t (i := 9) (by decide +kernel) (by decide +kernel)
theorem id_9 : Cond.initialized (clS 9) ∈ gw := gw_t (i := 10) (by decide +kernel) (by decide +kernel)
theorem it_8 : Cond.instantiable (clS 8) (clN 8) ∈ gw := gw_t (i := 17) (by decide +kernel) (by decide +kernel)
theorem it_3 : Cond.instantiable (clS 3) (clN 3) ∈ gw := gw_t (i := 25) (by decide +kernel) (by decide +kernel)
theorem it_6 : Cond.instantiable (clS 6) (clN 6) ∈ gw := gw_t (i := 31) (by decide +kernel) (by decide +kernel)
theorem it_4 : Cond.instantiable (clS 4) (clN 4) ∈ gw := gw_t (i := 65) (by decide +kernel) (by decide +kernel)
theorem it_7 : Cond.instantiable (clS 7) (clN 7) ∈ gw := gw_t (i := 136) (by decide +kernel) (by decide +kernel)
theorem it_1 : Cond.instantiable (clS 1) (clN 1) ∈ gw := gw_t (i := 142) (by decide +kernel) (by decide +kernel)
theorem it_2 : Cond.instantiable (clS 2) (clN 2) ∈ gw := gw_t (i := 180) (by decide +kernel) (by decide +kernel)
theorem it_5 : Cond.instantiable (clS 5) (clN 5) ∈ gw := gw_t (i := 186) (by decide +kernel) (by decide +kernel)
theorem it_0 : Cond.instantiable (clS 0) (clN 0) ∈ gw := gw_t (i := 214) (by decide +kernel) (by decide +kernel)
theorem it_9 : Cond.instantiable (clS 9) (clN 9) ∈ gw := gw_t (i := 825) (by decide +kernel) (by decide +kernel)
theorem kl10_7 : Cond.classLink "MaskedThrowsLaw" 7 (clS 8) ∈ gw := gw_t (i := 16) (by decide +kernel) (by decide +kernel)
theorem kl8_13 : Cond.classLink "MaskedThrows" 13 (clS 3) ∈ gw := gw_t (i := 24) (by decide +kernel) (by decide +kernel)
theorem kl3_9 : Cond.classLink "MaskedThrows$Parser" 9 (clS 6) ∈ gw := gw_t (i := 30) (by decide +kernel) (by decide +kernel)
theorem kl8_20 : Cond.classLink "MaskedThrows" 20 (clS 4) ∈ gw := gw_t (i := 63) (by decide +kernel) (by decide +kernel)
theorem kl8_31 : Cond.classLink "MaskedThrows" 31 (clS 7) ∈ gw := gw_t (i := 135) (by decide +kernel) (by decide +kernel)
theorem kl7_19 : Cond.classLink "MaskedThrows$World" 19 (clS 1) ∈ gw := gw_t (i := 141) (by decide +kernel) (by decide +kernel)
theorem kl7_24 : Cond.classLink "MaskedThrows$World" 24 (clS 4) ∈ gw := gw_t (i := 176) (by decide +kernel) (by decide +kernel)
theorem kl7_27 : Cond.classLink "MaskedThrows$World" 27 (clS 2) ∈ gw := gw_t (i := 178) (by decide +kernel) (by decide +kernel)
theorem kl2_9 : Cond.classLink "MaskedThrows$Fiber" 9 (clS 5) ∈ gw := gw_t (i := 185) (by decide +kernel) (by decide +kernel)
theorem kl2_22 : Cond.classLink "MaskedThrows$Fiber" 22 (clS 0) ∈ gw := gw_t (i := 212) (by decide +kernel) (by decide +kernel)
theorem kl10_10 : Cond.classLink "MaskedThrowsLaw" 10 (clS 9) ∈ gw := gw_t (i := 824) (by decide +kernel) (by decide +kernel)
theorem nl8_15 : Cond.methodLinkNest "MaskedThrows" 15 (mY 2) "MaskedThrows" ∈ nsw := List.mem_filter.mpr ⟨List.mem_of_getElem? (i := 26) (by decide +kernel), rfl⟩
theorem nl3_11 : Cond.methodLinkNest "MaskedThrows$Parser" 11 (mY 3) "MaskedThrows" ∈ nsw := List.mem_filter.mpr ⟨List.mem_of_getElem? (i := 32) (by decide +kernel), rfl⟩
theorem nl8_26 : Cond.methodLinkNest "MaskedThrows" 26 (mY 4) "MaskedThrows" ∈ nsw := List.mem_filter.mpr ⟨List.mem_of_getElem? (i := 66) (by decide +kernel), rfl⟩
theorem nl7_26 : Cond.methodLinkNest "MaskedThrows$World" 26 (mY 4) "MaskedThrows" ∈ nsw := List.mem_filter.mpr ⟨List.mem_of_getElem? (i := 177) (by decide +kernel), rfl⟩
theorem nl2_11 : Cond.methodLinkNest "MaskedThrows$Fiber" 11 (mY 8) "MaskedThrows" ∈ nsw := List.mem_filter.mpr ⟨List.mem_of_getElem? (i := 187) (by decide +kernel), rfl⟩
theorem nl2_43 : Cond.methodLinkNest "MaskedThrows$Fiber" 43 (mY 9) "MaskedThrows" ∈ nsw := List.mem_filter.mpr ⟨List.mem_of_getElem? (i := 215) (by decide +kernel), rfl⟩
theorem mc_0 : mOK 0 0 := ⟨by decide, mG0, by decide +kernel, by decide +kernel, by decide +kernel⟩
theorem mc_2 : mOK 2 0 := ⟨by decide, mG2, by decide +kernel, by decide +kernel, by decide +kernel⟩
theorem mc_3 : mOK 3 0 := ⟨by decide, mG3, by decide +kernel, by decide +kernel, by decide +kernel⟩
theorem mc_4 : mOK 4 0 := ⟨by decide, mG4, by decide +kernel, by decide +kernel, by decide +kernel⟩
theorem mc_5 : mOK 5 0 := ⟨by decide, mG5, by decide +kernel, by decide +kernel, by decide +kernel⟩
theorem mc_6 : mOK 6 1 := ⟨by decide, mG6, by decide +kernel, by decide +kernel, by decide +kernel⟩
theorem mc_7 : mOK 7 3 := ⟨by decide, mG7, by decide +kernel, by decide +kernel, by decide +kernel⟩
theorem mc_8 : mOK 8 0 := ⟨by decide, mG8, by decide +kernel, by decide +kernel, by decide +kernel⟩
theorem mc_9 : mOK 9 0 := ⟨by decide, mG9, by decide +kernel, by decide +kernel, by decide +kernel⟩
theorem mc_123 : mOK 123 0 := ⟨by decide, mG123, by decide +kernel, by decide +kernel, by decide +kernel⟩
set_option maxRecDepth 100000 in
theorem c_9 {M : Me} {a top : Nat} : Ct 1 0 0 9 [.ref a] M top (pM M top) := by
  refine ct_of (by decide +kernel) (Nat.le_of_ble_eq_true rfl) ?_
  show Wp _ _ _ _ _ _ [(0, .ref a)] _ _ _
  refine x_aload_n (pc := 0) d9_0 rfl ?_
  refine x_objInit (pc := 1) d9_1 ml0_3 mI1 (m_code (j := 1) (by decide)) (by decide) (by decide) ?_
  exact x_vret (pc := 4) d9_4 rfl ⟨Nat.le_refl _, Nat.le_refl _⟩ ⟨rfl, rfl, rfl⟩
set_option maxRecDepth 100000 in
theorem c_8 {M : Me} {i a : Nat} (hi : i < 7) (ha : RW i = a) (hM : M a = .inr (5, [.int 0, .null, .null, .null])) : Ct 1 3 66 8 [.ref a] M (a + 1) (pM (mxT M a (a + 1)) (a + 4)) := by
  subst ha
  have h3 : 3 ≤ RW i := by unfold RW; split <;> omega
  refine ct_of (by decide +kernel) (Nat.le_of_ble_eq_true rfl) ?_
  show Wp _ _ _ _ _ _ [(0, .ref (RW i))] _ _ _
  refine x_aload_n (pc := 0) d8_0 rfl ?_
  refine x_objInit (pc := 1) d8_1 ml5_3 mI1 (m_code (j := 1) (by decide)) (by decide) (by decide) ?_
  refine cn_start (ci := 5) (fs := [.int 0, .null, .null, .null]) hM ?_
  refine x_aload_n (pc := 4) d8_4 rfl ?_
  refine x_bipush (pc := 5) (v := (22)) d8_5 (by decide) ?_
  refine x_nap (pc := 7) (ty := 0) (N := 22) (f := 1) d8_7 d8_9 (by decide) rfl aw0 (by decide) (by decide) (by decide) ⟨Nat.le_of_ble_eq_true rfl, Nat.le_of_ble_eq_true rfl⟩ ⟨fl5_9, by decide, by decide, rfl, by decide +kernel, by decide +kernel⟩ (fun _ => ⟨rfl, rfl⟩) rfl (⟨h3, by omega, by omega⟩) (T0_a (shR1 i hi) (by decide) rfl) ?_
  refine x_aload_n (pc := 12) d8_12 rfl ?_
  refine x_bipush (pc := 13) (v := (22)) d8_13 (by decide) ?_
  refine x_nap (pc := 15) (ty := 0) (N := 22) (f := 2) d8_15 d8_17 (by decide) rfl aw0 (by decide) (by decide) (by decide) ⟨Nat.le_of_ble_eq_true rfl, Nat.le_of_ble_eq_true rfl⟩ ⟨fl5_15, by decide, by decide, rfl, by decide +kernel, by decide +kernel⟩ (fun _ => ⟨rfl, rfl⟩) rfl (⟨h3, by omega, by omega⟩) (T0_a (shR2 i hi) (by decide) rfl) ?_
  refine x_aload_n (pc := 20) d8_20 rfl ?_
  refine x_bipush (pc := 21) (v := (22)) d8_21 (by decide) ?_
  refine x_nap (pc := 23) (ty := 1) (N := 22) (f := 3) d8_23 d8_25 (by decide) rfl aw1 (by decide) (by decide) (by decide) ⟨Nat.le_of_ble_eq_true rfl, Nat.le_of_ble_eq_true rfl⟩ ⟨fl5_18, by decide, by decide, rfl, by decide +kernel, by decide +kernel⟩ (fun _ => ⟨rfl, rfl⟩) rfl (⟨h3, by omega, by omega⟩) (T0_a (shR3 i hi) (by decide) rfl) ?_
  exact cn_end (pc := 28) d8_28 rfl ⟨Nat.le_refl _, Nat.le_refl _⟩ ((T0_o (shR i hi)).trans rfl) rfl
set_option maxRecDepth 100000 in
theorem c_4 {M : Me} {p a : Nat} (hp : p < 13) (ha : PA p = a) (hM : M a = .inr (4, [.int 0, .int 0, .int 0, .int 0, .null, .null, .null, .null, .null, .null, .null, .null, .null, .null])) : Ct 1 10 661 4 [.ref a] M (a + 1) (pM (mxT M a (a + 1)) (a + 11)) := by
  subst ha
  have h3 : 3 ≤ PA p := by unfold PA; split <;> omega
  refine ct_of (by decide +kernel) (Nat.le_of_ble_eq_true rfl) ?_
  show Wp _ _ _ _ _ _ [(0, .ref (PA p))] _ _ _
  refine x_aload_n (pc := 0) d4_0 rfl ?_
  refine x_objInit (pc := 1) d4_1 ml4_3 mI1 (m_code (j := 1) (by decide)) (by decide) (by decide) ?_
  refine cn_start (ci := 4) (fs := [.int 0, .int 0, .int 0, .int 0, .null, .null, .null, .null, .null, .null, .null, .null, .null, .null]) hM ?_
  refine x_aload_n (pc := 4) d4_4 rfl ?_
  refine x_bipush (pc := 5) (v := (40)) d4_5 (by decide) ?_
  refine x_nap (pc := 7) (ty := 0) (N := 40) (f := 4) d4_7 d4_9 (by decide) rfl aw0 (by decide) (by decide) (by decide) ⟨Nat.le_of_ble_eq_true rfl, Nat.le_of_ble_eq_true rfl⟩ ⟨fl4_9, by decide, by decide, rfl, by decide +kernel, by decide +kernel⟩ (fun _ => ⟨rfl, rfl⟩) rfl (⟨h3, by omega, by omega⟩) (T0_a (shP1 p hp) (by decide) rfl) ?_
  refine x_aload_n (pc := 12) d4_12 rfl ?_
  refine x_bipush (pc := 13) (v := (40)) d4_13 (by decide) ?_
  refine x_nap (pc := 15) (ty := 0) (N := 40) (f := 5) d4_15 d4_17 (by decide) rfl aw0 (by decide) (by decide) (by decide) ⟨Nat.le_of_ble_eq_true rfl, Nat.le_of_ble_eq_true rfl⟩ ⟨fl4_15, by decide, by decide, rfl, by decide +kernel, by decide +kernel⟩ (fun _ => ⟨rfl, rfl⟩) rfl (⟨h3, by omega, by omega⟩) (T0_a (shP2 p hp) (by decide) rfl) ?_
  refine x_aload_n (pc := 20) d4_20 rfl ?_
  refine x_bipush (pc := 21) (v := (40)) d4_21 (by decide) ?_
  refine x_nap (pc := 23) (ty := 0) (N := 40) (f := 6) d4_23 d4_25 (by decide) rfl aw0 (by decide) (by decide) (by decide) ⟨Nat.le_of_ble_eq_true rfl, Nat.le_of_ble_eq_true rfl⟩ ⟨fl4_18, by decide, by decide, rfl, by decide +kernel, by decide +kernel⟩ (fun _ => ⟨rfl, rfl⟩) rfl (⟨h3, by omega, by omega⟩) (T0_a (shP3 p hp) (by decide) rfl) ?_
  refine x_aload_n (pc := 28) d4_28 rfl ?_
  refine x_bipush (pc := 29) (v := (40)) d4_29 (by decide) ?_
  refine x_nap (pc := 31) (ty := 0) (N := 40) (f := 7) d4_31 d4_33 (by decide) rfl aw0 (by decide) (by decide) (by decide) ⟨Nat.le_of_ble_eq_true rfl, Nat.le_of_ble_eq_true rfl⟩ ⟨fl4_21, by decide, by decide, rfl, by decide +kernel, by decide +kernel⟩ (fun _ => ⟨rfl, rfl⟩) rfl (⟨h3, by omega, by omega⟩) (T0_a (shP4 p hp) (by decide) rfl) ?_
  refine x_aload_n (pc := 36) d4_36 rfl ?_
  refine x_bipush (pc := 37) (v := (40)) d4_37 (by decide) ?_
  refine x_nap (pc := 39) (ty := 0) (N := 40) (f := 8) d4_39 d4_41 (by decide) rfl aw0 (by decide) (by decide) (by decide) ⟨Nat.le_of_ble_eq_true rfl, Nat.le_of_ble_eq_true rfl⟩ ⟨fl4_24, by decide, by decide, rfl, by decide +kernel, by decide +kernel⟩ (fun _ => ⟨rfl, rfl⟩) rfl (⟨h3, by omega, by omega⟩) (T0_a (shP5 p hp) (by decide) rfl) ?_
  refine x_aload_n (pc := 44) d4_44 rfl ?_
  refine x_bipush (pc := 45) (v := (40)) d4_45 (by decide) ?_
  refine x_nap (pc := 47) (ty := 0) (N := 40) (f := 9) d4_47 d4_49 (by decide) rfl aw0 (by decide) (by decide) (by decide) ⟨Nat.le_of_ble_eq_true rfl, Nat.le_of_ble_eq_true rfl⟩ ⟨fl4_27, by decide, by decide, rfl, by decide +kernel, by decide +kernel⟩ (fun _ => ⟨rfl, rfl⟩) rfl (⟨h3, by omega, by omega⟩) (T0_a (shP6 p hp) (by decide) rfl) ?_
  refine x_aload_n (pc := 52) d4_52 rfl ?_
  refine x_bipush (pc := 53) (v := (121)) d4_53 (by decide) ?_
  refine x_nap (pc := 55) (ty := 0) (N := 121) (f := 10) d4_55 d4_57 (by decide) rfl aw0 (by decide) (by decide) (by decide) ⟨Nat.le_of_ble_eq_true rfl, Nat.le_of_ble_eq_true rfl⟩ ⟨fl4_30, by decide, by decide, rfl, by decide +kernel, by decide +kernel⟩ (fun _ => ⟨rfl, rfl⟩) rfl (⟨h3, by omega, by omega⟩) (T0_a (shP7 p hp) (by decide) rfl) ?_
  refine x_aload_n (pc := 60) d4_60 rfl ?_
  refine x_bipush (pc := 61) (v := (120)) d4_61 (by decide) ?_
  refine x_nap (pc := 63) (ty := 0) (N := 120) (f := 11) d4_63 d4_65 (by decide) rfl aw0 (by decide) (by decide) (by decide) ⟨Nat.le_of_ble_eq_true rfl, Nat.le_of_ble_eq_true rfl⟩ ⟨fl4_33, by decide, by decide, rfl, by decide +kernel, by decide +kernel⟩ (fun _ => ⟨rfl, rfl⟩) rfl (⟨h3, by omega, by omega⟩) (T0_a (shP8 p hp) (by decide) rfl) ?_
  refine x_aload_n (pc := 68) d4_68 rfl ?_
  refine x_bipush (pc := 69) (v := (120)) d4_69 (by decide) ?_
  refine x_nap (pc := 71) (ty := 0) (N := 120) (f := 12) d4_71 d4_73 (by decide) rfl aw0 (by decide) (by decide) (by decide) ⟨Nat.le_of_ble_eq_true rfl, Nat.le_of_ble_eq_true rfl⟩ ⟨fl4_36, by decide, by decide, rfl, by decide +kernel, by decide +kernel⟩ (fun _ => ⟨rfl, rfl⟩) rfl (⟨h3, by omega, by omega⟩) (T0_a (shP9 p hp) (by decide) rfl) ?_
  refine x_aload_n (pc := 76) d4_76 rfl ?_
  refine x_bipush (pc := 77) (v := (60)) d4_77 (by decide) ?_
  refine x_nap (pc := 79) (ty := 1) (N := 60) (f := 13) d4_79 d4_81 (by decide) rfl aw1 (by decide) (by decide) (by decide) ⟨Nat.le_of_ble_eq_true rfl, Nat.le_of_ble_eq_true rfl⟩ ⟨fl4_39, by decide, by decide, rfl, by decide +kernel, by decide +kernel⟩ (fun _ => ⟨rfl, rfl⟩) rfl (⟨h3, by omega, by omega⟩) (T0_a (shP10 p hp) (by decide) rfl) ?_
  exact cn_end (pc := 84) d4_84 rfl ⟨Nat.le_refl _, Nat.le_refl _⟩ ((T0_o (shP p hp)).trans rfl) rfl
set_option maxRecDepth 100000 in
theorem c_60 {M : Me} (hM : M 146 = .inr (1, [.int 0, .int 0, .null, .null, .null, .null])) : Ct 1 4 1600 6 [.ref 146, .int 400] M (146 + 1) (pM (mxT M 146 (146 + 1)) (146 + 5)) := by
  refine ct_of (by decide +kernel) (Nat.le_of_ble_eq_true rfl) ?_
  show Wp _ _ _ _ _ _ [(0, .ref 146), (1, .int 400)] _ _ _
  refine x_aload_n (pc := 0) d6_0 rfl ?_
  refine x_objInit (pc := 1) d6_1 ml1_1 mI1 (m_code (j := 1) (by decide)) (by decide) (by decide) ?_
  refine cn_start (ci := 1) (fs := [.int 0, .int 0, .null, .null, .null, .null]) hM ?_
  refine x_aload_n (pc := 4) d6_4 rfl ?_
  refine x_iload_n (pc := 5) d6_5 rfl ?_
  refine x_nap (pc := 6) (ty := 0) (N := 400) (f := 2) d6_6 d6_8 (by decide) rfl aw0 (by decide) (by decide) (by decide) ⟨Nat.le_of_ble_eq_true rfl, Nat.le_of_ble_eq_true rfl⟩ ⟨fl1_7, by decide, by decide, rfl, by decide +kernel, by decide +kernel⟩ (fun _ => ⟨rfl, rfl⟩) rfl (⟨(by decide), by omega, by omega⟩) (T0_a (shC1 0 (by decide)) (by decide) rfl) ?_
  refine x_aload_n (pc := 11) d6_11 rfl ?_
  refine x_iload_n (pc := 12) d6_12 rfl ?_
  refine x_nap (pc := 13) (ty := 0) (N := 400) (f := 3) d6_13 d6_15 (by decide) rfl aw0 (by decide) (by decide) (by decide) ⟨Nat.le_of_ble_eq_true rfl, Nat.le_of_ble_eq_true rfl⟩ ⟨fl1_13, by decide, by decide, rfl, by decide +kernel, by decide +kernel⟩ (fun _ => ⟨rfl, rfl⟩) rfl (⟨(by decide), by omega, by omega⟩) (T0_a (shC2 0 (by decide)) (by decide) rfl) ?_
  refine x_aload_n (pc := 18) d6_18 rfl ?_
  refine x_iload_n (pc := 19) d6_19 rfl ?_
  refine x_nap (pc := 20) (ty := 0) (N := 400) (f := 4) d6_20 d6_22 (by decide) rfl aw0 (by decide) (by decide) (by decide) ⟨Nat.le_of_ble_eq_true rfl, Nat.le_of_ble_eq_true rfl⟩ ⟨fl1_16, by decide, by decide, rfl, by decide +kernel, by decide +kernel⟩ (fun _ => ⟨rfl, rfl⟩) rfl (⟨(by decide), by omega, by omega⟩) (T0_a (shC3 0 (by decide)) (by decide) rfl) ?_
  refine x_aload_n (pc := 25) d6_25 rfl ?_
  refine x_iload_n (pc := 26) d6_26 rfl ?_
  refine x_nap (pc := 27) (ty := 1) (N := 400) (f := 5) d6_27 d6_29 (by decide) rfl aw1 (by decide) (by decide) (by decide) ⟨Nat.le_of_ble_eq_true rfl, Nat.le_of_ble_eq_true rfl⟩ ⟨fl1_19, by decide, by decide, rfl, by decide +kernel, by decide +kernel⟩ (fun _ => ⟨rfl, rfl⟩) rfl (⟨(by decide), by omega, by omega⟩) (T0_a (shC4 0 (by decide)) (by decide) rfl) ?_
  exact cn_end (pc := 32) d6_32 rfl ⟨Nat.le_refl _, Nat.le_refl _⟩ ((T0_o (shC 0 (by decide))).trans rfl) rfl
set_option maxRecDepth 100000 in
theorem c_61 {M : Me} (hM : M 260 = .inr (1, [.int 0, .int 0, .null, .null, .null, .null])) : Ct 1 4 0 6 [.ref 260, .int 0] M (260 + 1) (pM (mxT M 260 (260 + 1)) (260 + 5)) := by
  refine ct_of (by decide +kernel) (Nat.le_of_ble_eq_true rfl) ?_
  show Wp _ _ _ _ _ _ [(0, .ref 260), (1, .int 0)] _ _ _
  refine x_aload_n (pc := 0) d6_0 rfl ?_
  refine x_objInit (pc := 1) d6_1 ml1_1 mI1 (m_code (j := 1) (by decide)) (by decide) (by decide) ?_
  refine cn_start (ci := 1) (fs := [.int 0, .int 0, .null, .null, .null, .null]) hM ?_
  refine x_aload_n (pc := 4) d6_4 rfl ?_
  refine x_iload_n (pc := 5) d6_5 rfl ?_
  refine x_nap (pc := 6) (ty := 0) (N := 0) (f := 2) d6_6 d6_8 (by decide) rfl aw0 (by decide) (by decide) (by decide) ⟨Nat.le_of_ble_eq_true rfl, Nat.le_of_ble_eq_true rfl⟩ ⟨fl1_7, by decide, by decide, rfl, by decide +kernel, by decide +kernel⟩ (fun _ => ⟨rfl, rfl⟩) rfl (⟨(by decide), by omega, by omega⟩) (T0_a (shC1 1 (by decide)) (by decide) rfl) ?_
  refine x_aload_n (pc := 11) d6_11 rfl ?_
  refine x_iload_n (pc := 12) d6_12 rfl ?_
  refine x_nap (pc := 13) (ty := 0) (N := 0) (f := 3) d6_13 d6_15 (by decide) rfl aw0 (by decide) (by decide) (by decide) ⟨Nat.le_of_ble_eq_true rfl, Nat.le_of_ble_eq_true rfl⟩ ⟨fl1_13, by decide, by decide, rfl, by decide +kernel, by decide +kernel⟩ (fun _ => ⟨rfl, rfl⟩) rfl (⟨(by decide), by omega, by omega⟩) (T0_a (shC2 1 (by decide)) (by decide) rfl) ?_
  refine x_aload_n (pc := 18) d6_18 rfl ?_
  refine x_iload_n (pc := 19) d6_19 rfl ?_
  refine x_nap (pc := 20) (ty := 0) (N := 0) (f := 4) d6_20 d6_22 (by decide) rfl aw0 (by decide) (by decide) (by decide) ⟨Nat.le_of_ble_eq_true rfl, Nat.le_of_ble_eq_true rfl⟩ ⟨fl1_16, by decide, by decide, rfl, by decide +kernel, by decide +kernel⟩ (fun _ => ⟨rfl, rfl⟩) rfl (⟨(by decide), by omega, by omega⟩) (T0_a (shC3 1 (by decide)) (by decide) rfl) ?_
  refine x_aload_n (pc := 25) d6_25 rfl ?_
  refine x_iload_n (pc := 26) d6_26 rfl ?_
  refine x_nap (pc := 27) (ty := 1) (N := 0) (f := 5) d6_27 d6_29 (by decide) rfl aw1 (by decide) (by decide) (by decide) ⟨Nat.le_of_ble_eq_true rfl, Nat.le_of_ble_eq_true rfl⟩ ⟨fl1_19, by decide, by decide, rfl, by decide +kernel, by decide +kernel⟩ (fun _ => ⟨rfl, rfl⟩) rfl (⟨(by decide), by omega, by omega⟩) (T0_a (shC4 1 (by decide)) (by decide) rfl) ?_
  exact cn_end (pc := 32) d6_32 rfl ⟨Nat.le_refl _, Nat.le_refl _⟩ ((T0_o (shC 1 (by decide))).trans rfl) rfl
set_option maxRecDepth 100000 in
theorem c_3 {M : Me} (hM : M 6 = .inr (6, [.null, .null, .null, .int 0])) : Ct 1 3 2403 3 [.ref 6] M (6 + 1) (pM (mxT M 6 (6 + 1)) (6 + 4)) := by
  refine ct_of (by decide +kernel) (Nat.le_of_ble_eq_true rfl) ?_
  show Wp _ _ _ _ _ _ [(0, .ref 6)] _ _ _
  refine x_aload_n (pc := 0) d3_0 rfl ?_
  refine x_objInit (pc := 1) d3_1 ml6_3 mI1 (m_code (j := 1) (by decide)) (by decide) (by decide) ?_
  refine cn_start (ci := 6) (fs := [.null, .null, .null, .int 0]) hM ?_
  refine x_aload_n (pc := 4) d3_4 rfl ?_
  refine x_sipush (pc := 5) (v := (801)) d3_5 (by decide) ?_
  refine x_nap (pc := 8) (ty := 0) (N := 801) (f := 0) d3_8 d3_10 (by decide) rfl aw0 (by decide) (by decide) (by decide) ⟨Nat.le_of_ble_eq_true rfl, Nat.le_of_ble_eq_true rfl⟩ ⟨fl6_9, by decide, by decide, rfl, by decide +kernel, by decide +kernel⟩ (fun _ => ⟨rfl, rfl⟩) rfl (⟨(by decide), by omega, by omega⟩) (T0_a shL7 (by decide) rfl) ?_
  refine x_aload_n (pc := 13) d3_13 rfl ?_
  refine x_sipush (pc := 14) (v := (801)) d3_14 (by decide) ?_
  refine x_nap (pc := 17) (ty := 0) (N := 801) (f := 1) d3_17 d3_19 (by decide) rfl aw0 (by decide) (by decide) (by decide) ⟨Nat.le_of_ble_eq_true rfl, Nat.le_of_ble_eq_true rfl⟩ ⟨fl6_15, by decide, by decide, rfl, by decide +kernel, by decide +kernel⟩ (fun _ => ⟨rfl, rfl⟩) rfl (⟨(by decide), by omega, by omega⟩) (T0_a shL8 (by decide) rfl) ?_
  refine x_aload_n (pc := 22) d3_22 rfl ?_
  refine x_sipush (pc := 23) (v := (801)) d3_23 (by decide) ?_
  refine x_nap (pc := 26) (ty := 0) (N := 801) (f := 2) d3_26 d3_28 (by decide) rfl aw0 (by decide) (by decide) (by decide) ⟨Nat.le_of_ble_eq_true rfl, Nat.le_of_ble_eq_true rfl⟩ ⟨fl6_18, by decide, by decide, rfl, by decide +kernel, by decide +kernel⟩ (fun _ => ⟨rfl, rfl⟩) rfl (⟨(by decide), by omega, by omega⟩) (T0_a shL9 (by decide) rfl) ?_
  exact cn_end (pc := 31) d3_31 rfl ⟨Nat.le_refl _, Nat.le_refl _⟩ ((T0_o shL6).trans rfl) rfl
set_option maxRecDepth 100000 in
theorem c_123 {M : Me} (hM : M 280 = .inr (9, [.null, .int 0, .int 0, .int 0, .int 0, .int 0, .long 0, .int 0, .int 0, .int 0, .int 0, .null, .null, .null, .null, .null, .null, .null, .null, .null, .null, .null, .null, .null, .null, .null, .null, .int 0, .null, .int 0, .int 0, .null, .int 0, .null, .null, .null, .int 0, .int 0, .null, .null, .null, .null, .null, .null, .null, .null, .null, .null, .null, .null, .null, .null, .null, .null, .null, .null, .null, .null, .null, .null, .int 0, .null, .null, .int 0, .null, .null, .null, .null, .null])) : Ct 1 51 17143 123 [.ref 280] M (280 + 1) (pM (mxT M 280 (280 + 1)) (280 + 52)) := by
  refine ct_of (by decide +kernel) (Nat.le_of_ble_eq_true rfl) ?_
  show Wp _ _ _ _ _ _ [(0, .ref 280)] _ _ _
  refine x_aload_n (pc := 0) d123_0 rfl ?_
  refine x_objInit (pc := 1) d123_1 ml9_1 mI1 (m_code (j := 1) (by decide)) (by decide) (by decide) ?_
  refine cn_start (ci := 9) (fs := [.null, .int 0, .int 0, .int 0, .int 0, .int 0, .long 0, .int 0, .int 0, .int 0, .int 0, .null, .null, .null, .null, .null, .null, .null, .null, .null, .null, .null, .null, .null, .null, .null, .null, .int 0, .null, .int 0, .int 0, .null, .int 0, .null, .null, .null, .int 0, .int 0, .null, .null, .null, .null, .null, .null, .null, .null, .null, .null, .null, .null, .null, .null, .null, .null, .null, .null, .null, .null, .null, .null, .int 0, .null, .null, .int 0, .null, .null, .null, .null, .null]) hM ?_
  refine x_aload_n (pc := 4) d123_4 rfl ?_
  refine x_sipush (pc := 5) (v := (800)) d123_5 (by decide) ?_
  refine x_nap (pc := 8) (ty := 3) (N := 800) (f := 0) d123_8 d123_10 (by decide) rfl aw3 (by decide) (by decide) (by decide) ⟨Nat.le_of_ble_eq_true rfl, Nat.le_of_ble_eq_true rfl⟩ ⟨fl9_7, by decide, by decide, rfl, by decide +kernel, by decide +kernel⟩ (fun _ => ⟨rfl, rfl⟩) rfl (⟨(by decide), by omega, by omega⟩) (T0_a shL281 (by decide) rfl) ?_
  refine x_aload_n (pc := 13) d123_13 rfl ?_
  refine x_iconst (pc := 14) (v := (-1)) d123_14 (by decide) ?_
  refine cn_puti (pc := 15) (f := 9) d123_15 fl9_13 (by decide) (by decide) rfl ⟨rfl, rfl⟩ rfl (⟨(by decide), by omega, by omega⟩) ?_
  refine x_aload_n (pc := 18) d123_18 rfl ?_
  refine x_bipush (pc := 19) (v := (12)) d123_19 (by decide) ?_
  refine x_nap (pc := 21) (ty := 0) (N := 12) (f := 11) d123_21 d123_23 (by decide) rfl aw0 (by decide) (by decide) (by decide) ⟨Nat.le_of_ble_eq_true rfl, Nat.le_of_ble_eq_true rfl⟩ ⟨fl9_17, by decide, by decide, rfl, by decide +kernel, by decide +kernel⟩ (fun _ => ⟨rfl, rfl⟩) rfl (⟨(by decide), by omega, by omega⟩) (T0_a shL282 (by decide) rfl) ?_
  refine x_aload_n (pc := 26) d123_26 rfl ?_
  refine x_bipush (pc := 27) (v := (12)) d123_27 (by decide) ?_
  refine x_nap (pc := 29) (ty := 0) (N := 12) (f := 12) d123_29 d123_31 (by decide) rfl aw0 (by decide) (by decide) (by decide) ⟨Nat.le_of_ble_eq_true rfl, Nat.le_of_ble_eq_true rfl⟩ ⟨fl9_21, by decide, by decide, rfl, by decide +kernel, by decide +kernel⟩ (fun _ => ⟨rfl, rfl⟩) rfl (⟨(by decide), by omega, by omega⟩) (T0_a shL283 (by decide) rfl) ?_
  refine x_aload_n (pc := 34) d123_34 rfl ?_
  refine x_bipush (pc := 35) (v := (12)) d123_35 (by decide) ?_
  refine x_nap (pc := 37) (ty := 0) (N := 12) (f := 13) d123_37 d123_39 (by decide) rfl aw0 (by decide) (by decide) (by decide) ⟨Nat.le_of_ble_eq_true rfl, Nat.le_of_ble_eq_true rfl⟩ ⟨fl9_24, by decide, by decide, rfl, by decide +kernel, by decide +kernel⟩ (fun _ => ⟨rfl, rfl⟩) rfl (⟨(by decide), by omega, by omega⟩) (T0_a shL284 (by decide) rfl) ?_
  refine x_aload_n (pc := 42) d123_42 rfl ?_
  refine x_bipush (pc := 43) (v := (12)) d123_43 (by decide) ?_
  refine x_nap (pc := 45) (ty := 0) (N := 12) (f := 14) d123_45 d123_47 (by decide) rfl aw0 (by decide) (by decide) (by decide) ⟨Nat.le_of_ble_eq_true rfl, Nat.le_of_ble_eq_true rfl⟩ ⟨fl9_27, by decide, by decide, rfl, by decide +kernel, by decide +kernel⟩ (fun _ => ⟨rfl, rfl⟩) rfl (⟨(by decide), by omega, by omega⟩) (T0_a shL285 (by decide) rfl) ?_
  refine x_aload_n (pc := 50) d123_50 rfl ?_
  refine x_bipush (pc := 51) (v := (12)) d123_51 (by decide) ?_
  refine x_nap (pc := 53) (ty := 0) (N := 12) (f := 15) d123_53 d123_55 (by decide) rfl aw0 (by decide) (by decide) (by decide) ⟨Nat.le_of_ble_eq_true rfl, Nat.le_of_ble_eq_true rfl⟩ ⟨fl9_30, by decide, by decide, rfl, by decide +kernel, by decide +kernel⟩ (fun _ => ⟨rfl, rfl⟩) rfl (⟨(by decide), by omega, by omega⟩) (T0_a shL286 (by decide) rfl) ?_
  refine x_aload_n (pc := 58) d123_58 rfl ?_
  refine x_sipush (pc := 59) (v := (480)) d123_59 (by decide) ?_
  refine x_nap (pc := 62) (ty := 0) (N := 480) (f := 16) d123_62 d123_64 (by decide) rfl aw0 (by decide) (by decide) (by decide) ⟨Nat.le_of_ble_eq_true rfl, Nat.le_of_ble_eq_true rfl⟩ ⟨fl9_33, by decide, by decide, rfl, by decide +kernel, by decide +kernel⟩ (fun _ => ⟨rfl, rfl⟩) rfl (⟨(by decide), by omega, by omega⟩) (T0_a shL287 (by decide) rfl) ?_
  refine x_aload_n (pc := 67) d123_67 rfl ?_
  refine x_sipush (pc := 68) (v := (480)) d123_68 (by decide) ?_
  refine x_nap (pc := 71) (ty := 0) (N := 480) (f := 17) d123_71 d123_73 (by decide) rfl aw0 (by decide) (by decide) (by decide) ⟨Nat.le_of_ble_eq_true rfl, Nat.le_of_ble_eq_true rfl⟩ ⟨fl9_36, by decide, by decide, rfl, by decide +kernel, by decide +kernel⟩ (fun _ => ⟨rfl, rfl⟩) rfl (⟨(by decide), by omega, by omega⟩) (T0_a shL288 (by decide) rfl) ?_
  refine x_aload_n (pc := 76) d123_76 rfl ?_
  refine x_sipush (pc := 77) (v := (480)) d123_77 (by decide) ?_
  refine x_nap (pc := 80) (ty := 0) (N := 480) (f := 18) d123_80 d123_82 (by decide) rfl aw0 (by decide) (by decide) (by decide) ⟨Nat.le_of_ble_eq_true rfl, Nat.le_of_ble_eq_true rfl⟩ ⟨fl9_39, by decide, by decide, rfl, by decide +kernel, by decide +kernel⟩ (fun _ => ⟨rfl, rfl⟩) rfl (⟨(by decide), by omega, by omega⟩) (T0_a shL289 (by decide) rfl) ?_
  refine x_aload_n (pc := 85) d123_85 rfl ?_
  refine x_sipush (pc := 86) (v := (1440)) d123_86 (by decide) ?_
  refine x_nap (pc := 89) (ty := 0) (N := 1440) (f := 19) d123_89 d123_91 (by decide) rfl aw0 (by decide) (by decide) (by decide) ⟨Nat.le_of_ble_eq_true rfl, Nat.le_of_ble_eq_true rfl⟩ ⟨fl9_42, by decide, by decide, rfl, by decide +kernel, by decide +kernel⟩ (fun _ => ⟨rfl, rfl⟩) rfl (⟨(by decide), by omega, by omega⟩) (T0_a shL290 (by decide) rfl) ?_
  refine x_aload_n (pc := 94) d123_94 rfl ?_
  refine x_sipush (pc := 95) (v := (1440)) d123_95 (by decide) ?_
  refine x_nap (pc := 98) (ty := 2) (N := 1440) (f := 20) d123_98 d123_100 (by decide) rfl aw2 (by decide) (by decide) (by decide) ⟨Nat.le_of_ble_eq_true rfl, Nat.le_of_ble_eq_true rfl⟩ ⟨fl9_45, by decide, by decide, rfl, by decide +kernel, by decide +kernel⟩ (fun _ => ⟨rfl, rfl⟩) rfl (⟨(by decide), by omega, by omega⟩) (T0_a shL291 (by decide) rfl) ?_
  refine x_aload_n (pc := 103) d123_103 rfl ?_
  refine x_sipush (pc := 104) (v := (480)) d123_104 (by decide) ?_
  refine x_nap (pc := 107) (ty := 0) (N := 480) (f := 21) d123_107 d123_109 (by decide) rfl aw0 (by decide) (by decide) (by decide) ⟨Nat.le_of_ble_eq_true rfl, Nat.le_of_ble_eq_true rfl⟩ ⟨fl9_49, by decide, by decide, rfl, by decide +kernel, by decide +kernel⟩ (fun _ => ⟨rfl, rfl⟩) rfl (⟨(by decide), by omega, by omega⟩) (T0_a shL292 (by decide) rfl) ?_
  refine x_aload_n (pc := 112) d123_112 rfl ?_
  refine x_sipush (pc := 113) (v := (480)) d123_113 (by decide) ?_
  refine x_nap (pc := 116) (ty := 0) (N := 480) (f := 22) d123_116 d123_118 (by decide) rfl aw0 (by decide) (by decide) (by decide) ⟨Nat.le_of_ble_eq_true rfl, Nat.le_of_ble_eq_true rfl⟩ ⟨fl9_52, by decide, by decide, rfl, by decide +kernel, by decide +kernel⟩ (fun _ => ⟨rfl, rfl⟩) rfl (⟨(by decide), by omega, by omega⟩) (T0_a shL293 (by decide) rfl) ?_
  refine x_aload_n (pc := 121) d123_121 rfl ?_
  refine x_sipush (pc := 122) (v := (480)) d123_122 (by decide) ?_
  refine x_nap (pc := 125) (ty := 0) (N := 480) (f := 23) d123_125 d123_127 (by decide) rfl aw0 (by decide) (by decide) (by decide) ⟨Nat.le_of_ble_eq_true rfl, Nat.le_of_ble_eq_true rfl⟩ ⟨fl9_55, by decide, by decide, rfl, by decide +kernel, by decide +kernel⟩ (fun _ => ⟨rfl, rfl⟩) rfl (⟨(by decide), by omega, by omega⟩) (T0_a shL294 (by decide) rfl) ?_
  refine x_aload_n (pc := 130) d123_130 rfl ?_
  refine x_sipush (pc := 131) (v := (2400)) d123_131 (by decide) ?_
  refine x_nap (pc := 134) (ty := 0) (N := 2400) (f := 24) d123_134 d123_136 (by decide) rfl aw0 (by decide) (by decide) (by decide) ⟨Nat.le_of_ble_eq_true rfl, Nat.le_of_ble_eq_true rfl⟩ ⟨fl9_58, by decide, by decide, rfl, by decide +kernel, by decide +kernel⟩ (fun _ => ⟨rfl, rfl⟩) rfl (⟨(by decide), by omega, by omega⟩) (T0_a shL295 (by decide) rfl) ?_
  refine x_aload_n (pc := 139) d123_139 rfl ?_
  refine x_sipush (pc := 140) (v := (2400)) d123_140 (by decide) ?_
  refine x_nap (pc := 143) (ty := 0) (N := 2400) (f := 25) d123_143 d123_145 (by decide) rfl aw0 (by decide) (by decide) (by decide) ⟨Nat.le_of_ble_eq_true rfl, Nat.le_of_ble_eq_true rfl⟩ ⟨fl9_61, by decide, by decide, rfl, by decide +kernel, by decide +kernel⟩ (fun _ => ⟨rfl, rfl⟩) rfl (⟨(by decide), by omega, by omega⟩) (T0_a shL296 (by decide) rfl) ?_
  refine x_aload_n (pc := 148) d123_148 rfl ?_
  refine x_sipush (pc := 149) (v := (2400)) d123_149 (by decide) ?_
  refine x_nap (pc := 152) (ty := 1) (N := 2400) (f := 26) d123_152 d123_154 (by decide) rfl aw1 (by decide) (by decide) (by decide) ⟨Nat.le_of_ble_eq_true rfl, Nat.le_of_ble_eq_true rfl⟩ ⟨fl9_64, by decide, by decide, rfl, by decide +kernel, by decide +kernel⟩ (fun _ => ⟨rfl, rfl⟩) rfl (⟨(by decide), by omega, by omega⟩) (T0_a shL297 (by decide) rfl) ?_
  refine x_aload_n (pc := 157) d123_157 rfl ?_
  refine x_bipush (pc := 158) (v := (64)) d123_158 (by decide) ?_
  refine x_nap (pc := 160) (ty := 0) (N := 64) (f := 28) d123_160 d123_162 (by decide) rfl aw0 (by decide) (by decide) (by decide) ⟨Nat.le_of_ble_eq_true rfl, Nat.le_of_ble_eq_true rfl⟩ ⟨fl9_68, by decide, by decide, rfl, by decide +kernel, by decide +kernel⟩ (fun _ => ⟨rfl, rfl⟩) rfl (⟨(by decide), by omega, by omega⟩) (T0_a shL298 (by decide) rfl) ?_
  refine x_aload_n (pc := 165) d123_165 rfl ?_
  refine x_bipush (pc := 166) (v := (16)) d123_166 (by decide) ?_
  refine x_nap (pc := 168) (ty := 2) (N := 16) (f := 31) d123_168 d123_170 (by decide) rfl aw2 (by decide) (by decide) (by decide) ⟨Nat.le_of_ble_eq_true rfl, Nat.le_of_ble_eq_true rfl⟩ ⟨fl9_71, by decide, by decide, rfl, by decide +kernel, by decide +kernel⟩ (fun _ => ⟨rfl, rfl⟩) rfl (⟨(by decide), by omega, by omega⟩) (T0_a shL299 (by decide) rfl) ?_
  refine x_aload_n (pc := 173) d123_173 rfl ?_
  refine x_bipush (pc := 174) (v := (10)) d123_174 (by decide) ?_
  refine x_nap (pc := 176) (ty := 0) (N := 10) (f := 33) d123_176 d123_178 (by decide) rfl aw0 (by decide) (by decide) (by decide) ⟨Nat.le_of_ble_eq_true rfl, Nat.le_of_ble_eq_true rfl⟩ ⟨fl9_74, by decide, by decide, rfl, by decide +kernel, by decide +kernel⟩ (fun _ => ⟨rfl, rfl⟩) rfl (⟨(by decide), by omega, by omega⟩) (T0_a shL300 (by decide) rfl) ?_
  refine x_aload_n (pc := 181) d123_181 rfl ?_
  refine x_bipush (pc := 182) (v := (10)) d123_182 (by decide) ?_
  refine x_nap (pc := 184) (ty := 0) (N := 10) (f := 34) d123_184 d123_186 (by decide) rfl aw0 (by decide) (by decide) (by decide) ⟨Nat.le_of_ble_eq_true rfl, Nat.le_of_ble_eq_true rfl⟩ ⟨fl9_77, by decide, by decide, rfl, by decide +kernel, by decide +kernel⟩ (fun _ => ⟨rfl, rfl⟩) rfl (⟨(by decide), by omega, by omega⟩) (T0_a shL301 (by decide) rfl) ?_
  refine x_aload_n (pc := 189) d123_189 rfl ?_
  refine x_bipush (pc := 190) (v := (10)) d123_190 (by decide) ?_
  refine x_nap (pc := 192) (ty := 0) (N := 10) (f := 35) d123_192 d123_194 (by decide) rfl aw0 (by decide) (by decide) (by decide) ⟨Nat.le_of_ble_eq_true rfl, Nat.le_of_ble_eq_true rfl⟩ ⟨fl9_80, by decide, by decide, rfl, by decide +kernel, by decide +kernel⟩ (fun _ => ⟨rfl, rfl⟩) rfl (⟨(by decide), by omega, by omega⟩) (T0_a shL302 (by decide) rfl) ?_
  refine x_aload_n (pc := 197) d123_197 rfl ?_
  refine x_bipush (pc := 198) (v := (8)) d123_198 (by decide) ?_
  refine x_nap (pc := 200) (ty := 2) (N := 8) (f := 38) d123_200 d123_202 (by decide) rfl aw2 (by decide) (by decide) (by decide) ⟨Nat.le_of_ble_eq_true rfl, Nat.le_of_ble_eq_true rfl⟩ ⟨fl9_83, by decide, by decide, rfl, by decide +kernel, by decide +kernel⟩ (fun _ => ⟨rfl, rfl⟩) rfl (⟨(by decide), by omega, by omega⟩) (T0_a shL303 (by decide) rfl) ?_
  refine x_aload_n (pc := 205) d123_205 rfl ?_
  refine x_bipush (pc := 206) (v := (8)) d123_206 (by decide) ?_
  refine x_nap (pc := 208) (ty := 1) (N := 8) (f := 39) d123_208 d123_210 (by decide) rfl aw1 (by decide) (by decide) (by decide) ⟨Nat.le_of_ble_eq_true rfl, Nat.le_of_ble_eq_true rfl⟩ ⟨fl9_86, by decide, by decide, rfl, by decide +kernel, by decide +kernel⟩ (fun _ => ⟨rfl, rfl⟩) rfl (⟨(by decide), by omega, by omega⟩) (T0_a shL304 (by decide) rfl) ?_
  refine x_aload_n (pc := 213) d123_213 rfl ?_
  refine x_bipush (pc := 214) (v := (7)) d123_214 (by decide) ?_
  refine x_nap (pc := 216) (ty := 0) (N := 7) (f := 40) d123_216 d123_218 (by decide) rfl aw0 (by decide) (by decide) (by decide) ⟨Nat.le_of_ble_eq_true rfl, Nat.le_of_ble_eq_true rfl⟩ ⟨fl9_89, by decide, by decide, rfl, by decide +kernel, by decide +kernel⟩ (fun _ => ⟨rfl, rfl⟩) rfl (⟨(by decide), by omega, by omega⟩) (T0_a shL305 (by decide) rfl) ?_
  refine x_aload_n (pc := 221) d123_221 rfl ?_
  refine x_bipush (pc := 222) (v := (7)) d123_222 (by decide) ?_
  refine x_nap (pc := 224) (ty := 0) (N := 7) (f := 41) d123_224 d123_226 (by decide) rfl aw0 (by decide) (by decide) (by decide) ⟨Nat.le_of_ble_eq_true rfl, Nat.le_of_ble_eq_true rfl⟩ ⟨fl9_92, by decide, by decide, rfl, by decide +kernel, by decide +kernel⟩ (fun _ => ⟨rfl, rfl⟩) rfl (⟨(by decide), by omega, by omega⟩) (T0_a shL306 (by decide) rfl) ?_
  refine x_aload_n (pc := 229) d123_229 rfl ?_
  refine x_bipush (pc := 230) (v := (7)) d123_230 (by decide) ?_
  refine x_nap (pc := 232) (ty := 0) (N := 7) (f := 42) d123_232 d123_234 (by decide) rfl aw0 (by decide) (by decide) (by decide) ⟨Nat.le_of_ble_eq_true rfl, Nat.le_of_ble_eq_true rfl⟩ ⟨fl9_95, by decide, by decide, rfl, by decide +kernel, by decide +kernel⟩ (fun _ => ⟨rfl, rfl⟩) rfl (⟨(by decide), by omega, by omega⟩) (T0_a shL307 (by decide) rfl) ?_
  refine x_aload_n (pc := 237) d123_237 rfl ?_
  refine x_bipush (pc := 238) (v := (7)) d123_238 (by decide) ?_
  refine x_nap (pc := 240) (ty := 0) (N := 7) (f := 43) d123_240 d123_242 (by decide) rfl aw0 (by decide) (by decide) (by decide) ⟨Nat.le_of_ble_eq_true rfl, Nat.le_of_ble_eq_true rfl⟩ ⟨fl9_98, by decide, by decide, rfl, by decide +kernel, by decide +kernel⟩ (fun _ => ⟨rfl, rfl⟩) rfl (⟨(by decide), by omega, by omega⟩) (T0_a shL308 (by decide) rfl) ?_
  refine x_aload_n (pc := 245) d123_245 rfl ?_
  refine x_bipush (pc := 246) (v := (7)) d123_246 (by decide) ?_
  refine x_nap (pc := 248) (ty := 1) (N := 7) (f := 44) d123_248 d123_250 (by decide) rfl aw1 (by decide) (by decide) (by decide) ⟨Nat.le_of_ble_eq_true rfl, Nat.le_of_ble_eq_true rfl⟩ ⟨fl9_101, by decide, by decide, rfl, by decide +kernel, by decide +kernel⟩ (fun _ => ⟨rfl, rfl⟩) rfl (⟨(by decide), by omega, by omega⟩) (T0_a shL309 (by decide) rfl) ?_
  refine x_aload_n (pc := 253) d123_253 rfl ?_
  refine x_bipush (pc := 254) (v := (70)) d123_254 (by decide) ?_
  refine x_nap (pc := 256) (ty := 1) (N := 70) (f := 45) d123_256 d123_258 (by decide) rfl aw1 (by decide) (by decide) (by decide) ⟨Nat.le_of_ble_eq_true rfl, Nat.le_of_ble_eq_true rfl⟩ ⟨fl9_104, by decide, by decide, rfl, by decide +kernel, by decide +kernel⟩ (fun _ => ⟨rfl, rfl⟩) rfl (⟨(by decide), by omega, by omega⟩) (T0_a shL310 (by decide) rfl) ?_
  refine x_aload_n (pc := 261) d123_261 rfl ?_
  refine x_bipush (pc := 262) (v := (7)) d123_262 (by decide) ?_
  refine x_nap (pc := 264) (ty := 0) (N := 7) (f := 46) d123_264 d123_266 (by decide) rfl aw0 (by decide) (by decide) (by decide) ⟨Nat.le_of_ble_eq_true rfl, Nat.le_of_ble_eq_true rfl⟩ ⟨fl9_107, by decide, by decide, rfl, by decide +kernel, by decide +kernel⟩ (fun _ => ⟨rfl, rfl⟩) rfl (⟨(by decide), by omega, by omega⟩) (T0_a shL311 (by decide) rfl) ?_
  refine x_aload_n (pc := 269) d123_269 rfl ?_
  refine x_bipush (pc := 270) (v := (63)) d123_270 (by decide) ?_
  refine x_nap (pc := 272) (ty := 0) (N := 63) (f := 47) d123_272 d123_274 (by decide) rfl aw0 (by decide) (by decide) (by decide) ⟨Nat.le_of_ble_eq_true rfl, Nat.le_of_ble_eq_true rfl⟩ ⟨fl9_110, by decide, by decide, rfl, by decide +kernel, by decide +kernel⟩ (fun _ => ⟨rfl, rfl⟩) rfl (⟨(by decide), by omega, by omega⟩) (T0_a shL312 (by decide) rfl) ?_
  refine x_aload_n (pc := 277) d123_277 rfl ?_
  refine x_bipush (pc := 278) (v := (63)) d123_278 (by decide) ?_
  refine x_nap (pc := 280) (ty := 0) (N := 63) (f := 48) d123_280 d123_282 (by decide) rfl aw0 (by decide) (by decide) (by decide) ⟨Nat.le_of_ble_eq_true rfl, Nat.le_of_ble_eq_true rfl⟩ ⟨fl9_113, by decide, by decide, rfl, by decide +kernel, by decide +kernel⟩ (fun _ => ⟨rfl, rfl⟩) rfl (⟨(by decide), by omega, by omega⟩) (T0_a shL313 (by decide) rfl) ?_
  refine x_aload_n (pc := 285) d123_285 rfl ?_
  refine x_bipush (pc := 286) (v := (63)) d123_286 (by decide) ?_
  refine x_nap (pc := 288) (ty := 0) (N := 63) (f := 49) d123_288 d123_290 (by decide) rfl aw0 (by decide) (by decide) (by decide) ⟨Nat.le_of_ble_eq_true rfl, Nat.le_of_ble_eq_true rfl⟩ ⟨fl9_116, by decide, by decide, rfl, by decide +kernel, by decide +kernel⟩ (fun _ => ⟨rfl, rfl⟩) rfl (⟨(by decide), by omega, by omega⟩) (T0_a shL314 (by decide) rfl) ?_
  refine x_aload_n (pc := 293) d123_293 rfl ?_
  refine x_bipush (pc := 294) (v := (63)) d123_294 (by decide) ?_
  refine x_nap (pc := 296) (ty := 1) (N := 63) (f := 50) d123_296 d123_298 (by decide) rfl aw1 (by decide) (by decide) (by decide) ⟨Nat.le_of_ble_eq_true rfl, Nat.le_of_ble_eq_true rfl⟩ ⟨fl9_119, by decide, by decide, rfl, by decide +kernel, by decide +kernel⟩ (fun _ => ⟨rfl, rfl⟩) rfl (⟨(by decide), by omega, by omega⟩) (T0_a shL315 (by decide) rfl) ?_
  refine x_aload_n (pc := 301) d123_301 rfl ?_
  refine x_bipush (pc := 302) (v := (63)) d123_302 (by decide) ?_
  refine x_nap (pc := 304) (ty := 2) (N := 63) (f := 51) d123_304 d123_306 (by decide) rfl aw2 (by decide) (by decide) (by decide) ⟨Nat.le_of_ble_eq_true rfl, Nat.le_of_ble_eq_true rfl⟩ ⟨fl9_122, by decide, by decide, rfl, by decide +kernel, by decide +kernel⟩ (fun _ => ⟨rfl, rfl⟩) rfl (⟨(by decide), by omega, by omega⟩) (T0_a shL316 (by decide) rfl) ?_
  refine x_aload_n (pc := 309) d123_309 rfl ?_
  refine x_bipush (pc := 310) (v := (63)) d123_310 (by decide) ?_
  refine x_nap (pc := 312) (ty := 0) (N := 63) (f := 52) d123_312 d123_314 (by decide) rfl aw0 (by decide) (by decide) (by decide) ⟨Nat.le_of_ble_eq_true rfl, Nat.le_of_ble_eq_true rfl⟩ ⟨fl9_125, by decide, by decide, rfl, by decide +kernel, by decide +kernel⟩ (fun _ => ⟨rfl, rfl⟩) rfl (⟨(by decide), by omega, by omega⟩) (T0_a shL317 (by decide) rfl) ?_
  refine x_aload_n (pc := 317) d123_317 rfl ?_
  refine x_bipush (pc := 318) (v := (63)) d123_318 (by decide) ?_
  refine x_nap (pc := 320) (ty := 1) (N := 63) (f := 53) d123_320 d123_322 (by decide) rfl aw1 (by decide) (by decide) (by decide) ⟨Nat.le_of_ble_eq_true rfl, Nat.le_of_ble_eq_true rfl⟩ ⟨fl9_128, by decide, by decide, rfl, by decide +kernel, by decide +kernel⟩ (fun _ => ⟨rfl, rfl⟩) rfl (⟨(by decide), by omega, by omega⟩) (T0_a shL318 (by decide) rfl) ?_
  refine x_aload_n (pc := 325) d123_325 rfl ?_
  refine x_bipush (pc := 326) (v := (63)) d123_326 (by decide) ?_
  refine x_nap (pc := 328) (ty := 0) (N := 63) (f := 54) d123_328 d123_330 (by decide) rfl aw0 (by decide) (by decide) (by decide) ⟨Nat.le_of_ble_eq_true rfl, Nat.le_of_ble_eq_true rfl⟩ ⟨fl9_131, by decide, by decide, rfl, by decide +kernel, by decide +kernel⟩ (fun _ => ⟨rfl, rfl⟩) rfl (⟨(by decide), by omega, by omega⟩) (T0_a shL319 (by decide) rfl) ?_
  refine x_aload_n (pc := 333) d123_333 rfl ?_
  refine x_bipush (pc := 334) (v := (7)) d123_334 (by decide) ?_
  refine x_nap (pc := 336) (ty := 0) (N := 7) (f := 55) d123_336 d123_338 (by decide) rfl aw0 (by decide) (by decide) (by decide) ⟨Nat.le_of_ble_eq_true rfl, Nat.le_of_ble_eq_true rfl⟩ ⟨fl9_134, by decide, by decide, rfl, by decide +kernel, by decide +kernel⟩ (fun _ => ⟨rfl, rfl⟩) rfl (⟨(by decide), by omega, by omega⟩) (T0_a shL320 (by decide) rfl) ?_
  refine x_aload_n (pc := 341) d123_341 rfl ?_
  refine x_sipush (pc := 342) (v := (224)) d123_342 (by decide) ?_
  refine x_nap (pc := 345) (ty := 0) (N := 224) (f := 56) d123_345 d123_347 (by decide) rfl aw0 (by decide) (by decide) (by decide) ⟨Nat.le_of_ble_eq_true rfl, Nat.le_of_ble_eq_true rfl⟩ ⟨fl9_137, by decide, by decide, rfl, by decide +kernel, by decide +kernel⟩ (fun _ => ⟨rfl, rfl⟩) rfl (⟨(by decide), by omega, by omega⟩) (T0_a shL321 (by decide) rfl) ?_
  refine x_aload_n (pc := 350) d123_350 rfl ?_
  refine x_sipush (pc := 351) (v := (224)) d123_351 (by decide) ?_
  refine x_nap (pc := 354) (ty := 1) (N := 224) (f := 57) d123_354 d123_356 (by decide) rfl aw1 (by decide) (by decide) (by decide) ⟨Nat.le_of_ble_eq_true rfl, Nat.le_of_ble_eq_true rfl⟩ ⟨fl9_140, by decide, by decide, rfl, by decide +kernel, by decide +kernel⟩ (fun _ => ⟨rfl, rfl⟩) rfl (⟨(by decide), by omega, by omega⟩) (T0_a shL322 (by decide) rfl) ?_
  refine x_aload_n (pc := 359) d123_359 rfl ?_
  refine x_sipush (pc := 360) (v := (224)) d123_360 (by decide) ?_
  refine x_nap (pc := 363) (ty := 0) (N := 224) (f := 58) d123_363 d123_365 (by decide) rfl aw0 (by decide) (by decide) (by decide) ⟨Nat.le_of_ble_eq_true rfl, Nat.le_of_ble_eq_true rfl⟩ ⟨fl9_143, by decide, by decide, rfl, by decide +kernel, by decide +kernel⟩ (fun _ => ⟨rfl, rfl⟩) rfl (⟨(by decide), by omega, by omega⟩) (T0_a shL323 (by decide) rfl) ?_
  refine x_aload_n (pc := 368) d123_368 rfl ?_
  refine x_sipush (pc := 369) (v := (224)) d123_369 (by decide) ?_
  refine x_nap (pc := 372) (ty := 0) (N := 224) (f := 59) d123_372 d123_374 (by decide) rfl aw0 (by decide) (by decide) (by decide) ⟨Nat.le_of_ble_eq_true rfl, Nat.le_of_ble_eq_true rfl⟩ ⟨fl9_146, by decide, by decide, rfl, by decide +kernel, by decide +kernel⟩ (fun _ => ⟨rfl, rfl⟩) rfl (⟨(by decide), by omega, by omega⟩) (T0_a shL324 (by decide) rfl) ?_
  refine x_aload_n (pc := 377) d123_377 rfl ?_
  refine x_bipush (pc := 378) (v := (7)) d123_378 (by decide) ?_
  refine x_nap (pc := 380) (ty := 0) (N := 7) (f := 61) d123_380 d123_382 (by decide) rfl aw0 (by decide) (by decide) (by decide) ⟨Nat.le_of_ble_eq_true rfl, Nat.le_of_ble_eq_true rfl⟩ ⟨fl9_149, by decide, by decide, rfl, by decide +kernel, by decide +kernel⟩ (fun _ => ⟨rfl, rfl⟩) rfl (⟨(by decide), by omega, by omega⟩) (T0_a shL325 (by decide) rfl) ?_
  refine x_aload_n (pc := 385) d123_385 rfl ?_
  refine x_bipush (pc := 386) (v := (7)) d123_386 (by decide) ?_
  refine x_nap (pc := 388) (ty := 0) (N := 7) (f := 62) d123_388 d123_390 (by decide) rfl aw0 (by decide) (by decide) (by decide) ⟨Nat.le_of_ble_eq_true rfl, Nat.le_of_ble_eq_true rfl⟩ ⟨fl9_152, by decide, by decide, rfl, by decide +kernel, by decide +kernel⟩ (fun _ => ⟨rfl, rfl⟩) rfl (⟨(by decide), by omega, by omega⟩) (T0_a shL326 (by decide) rfl) ?_
  refine x_aload_n (pc := 393) d123_393 rfl ?_
  refine x_sipush (pc := 394) (v := (400)) d123_394 (by decide) ?_
  refine x_nap (pc := 397) (ty := 0) (N := 400) (f := 64) d123_397 d123_399 (by decide) rfl aw0 (by decide) (by decide) (by decide) ⟨Nat.le_of_ble_eq_true rfl, Nat.le_of_ble_eq_true rfl⟩ ⟨fl9_155, by decide, by decide, rfl, by decide +kernel, by decide +kernel⟩ (fun _ => ⟨rfl, rfl⟩) rfl (⟨(by decide), by omega, by omega⟩) (T0_a shL327 (by decide) rfl) ?_
  refine x_aload_n (pc := 402) d123_402 rfl ?_
  refine x_sipush (pc := 403) (v := (400)) d123_403 (by decide) ?_
  refine x_nap (pc := 406) (ty := 0) (N := 400) (f := 65) d123_406 d123_408 (by decide) rfl aw0 (by decide) (by decide) (by decide) ⟨Nat.le_of_ble_eq_true rfl, Nat.le_of_ble_eq_true rfl⟩ ⟨fl9_158, by decide, by decide, rfl, by decide +kernel, by decide +kernel⟩ (fun _ => ⟨rfl, rfl⟩) rfl (⟨(by decide), by omega, by omega⟩) (T0_a shL328 (by decide) rfl) ?_
  refine x_aload_n (pc := 411) d123_411 rfl ?_
  refine x_sipush (pc := 412) (v := (400)) d123_412 (by decide) ?_
  refine x_nap (pc := 415) (ty := 0) (N := 400) (f := 66) d123_415 d123_417 (by decide) rfl aw0 (by decide) (by decide) (by decide) ⟨Nat.le_of_ble_eq_true rfl, Nat.le_of_ble_eq_true rfl⟩ ⟨fl9_161, by decide, by decide, rfl, by decide +kernel, by decide +kernel⟩ (fun _ => ⟨rfl, rfl⟩) rfl (⟨(by decide), by omega, by omega⟩) (T0_a shL329 (by decide) rfl) ?_
  refine x_aload_n (pc := 420) d123_420 rfl ?_
  refine x_sipush (pc := 421) (v := (400)) d123_421 (by decide) ?_
  refine x_nap (pc := 424) (ty := 1) (N := 400) (f := 67) d123_424 d123_426 (by decide) rfl aw1 (by decide) (by decide) (by decide) ⟨Nat.le_of_ble_eq_true rfl, Nat.le_of_ble_eq_true rfl⟩ ⟨fl9_164, by decide, by decide, rfl, by decide +kernel, by decide +kernel⟩ (fun _ => ⟨rfl, rfl⟩) rfl (⟨(by decide), by omega, by omega⟩) (T0_a shL330 (by decide) rfl) ?_
  refine x_aload_n (pc := 429) d123_429 rfl ?_
  refine x_bipush (pc := 430) (v := (64)) d123_430 (by decide) ?_
  refine x_nap (pc := 432) (ty := 1) (N := 64) (f := 68) d123_432 d123_434 (by decide) rfl aw1 (by decide) (by decide) (by decide) ⟨Nat.le_of_ble_eq_true rfl, Nat.le_of_ble_eq_true rfl⟩ ⟨fl9_167, by decide, by decide, rfl, by decide +kernel, by decide +kernel⟩ (fun _ => ⟨rfl, rfl⟩) rfl (⟨(by decide), by omega, by omega⟩) (T0_a shL331 (by decide) rfl) ?_
  exact cn_end (pc := 437) d123_437 rfl ⟨Nat.le_refl _, Nat.le_refl _⟩ ((T0_o shL280).trans rfl) rfl
set_option maxRecDepth 100000 in
theorem c_2 {M : Me} (hM : M 5 = .inr (3, [.null, .null, .int 0])) : Ct 2 4 2407 2 [.ref 5] M (6) (pM (mxT M 5 (6)) (10)) := by
  refine ct_of (by decide +kernel) (Nat.le_of_ble_eq_true rfl) ?_
  show Wp _ _ _ _ _ _ [(0, .ref 5)] _ _ _
  refine x_aload_n (pc := 0) d2_0 rfl ?_
  refine x_objInit (pc := 1) d2_1 ml3_3 mI1 (m_code (j := 1) (by decide)) (by decide) (by decide) ?_
  refine cn_start (ci := 3) (fs := [.null, .null, .int 0]) hM ?_
  refine x_aload_n (pc := 4) d2_4 rfl ?_
  refine x_new (pc := 5) (ci := 6) (fs := [.null, .null, .null, .int 0]) d2_5 kl3_9 it_6 id_6 (by decide) rfl ⟨Nat.le_of_ble_eq_true rfl, Nat.le_of_ble_eq_true rfl⟩ ?_
  refine x_dup (pc := 8) d2_8 rfl ?_
  refine x_callIN (pc := 9) (y := 3) (As := []) (mc := 3) (ms := 2403) d2_9 nl3_11 mc_3 mI3 (by decide +kernel) (by decide +kernel) rfl (Nat.le_of_ble_eq_true rfl) (c_3 (va_up_self _ _ _)) ⟨by decide, Nat.le_of_ble_eq_true rfl⟩ ⟨Nat.le_of_ble_eq_true rfl, Nat.le_of_ble_eq_true rfl⟩ ?_
  rintro r M1 t1 ⟨rfl, rfl, rfl⟩
  show Wp _ _ _ _ _ 12 _ _ _ _
  refine cn_abs (fun q h1 _ => cn_t (by omega) (by omega)) ?_
  refine cn_put (pc := 12) (f := 0) d2_12 ⟨fl3_12, by decide, by decide, rfl, by decide +kernel, by decide +kernel⟩ ⟨rfl, rfl⟩ rfl ⟨by decide, by decide, by decide⟩ ?_
  exact cn_end (pc := 15) d2_15 rfl ⟨Nat.le_refl _, Nat.le_refl _⟩ ((T0_o shL5).trans rfl) rfl
set_option maxRecDepth 100000 in
theorem c_7l {M : Me} {R : Room} {Z : Zt} {i a : Nat} {w : Int32} (hi : i < 7) (h3 : 3 ≤ a) (har : a < RW i) (hR : 2 ≤ R.frames ∧ 8 + (mL 9 + 11) + 40 ≤ R.locals) (hc : 15 ≤ R.cells ∧ 170 ≤ R.slots)
    (kend : Wp R 7 Z 15 170 82 [(4, .int 9), (0, .ref a), (1, .int w), (2, .ref (CA (co i))), (3, .ref 151)] [] (va_up (cn M a (RW i) 2 [.int w, .ref (RW i), .ref (RW i + 4), .ref (RW i + 5), .ref (CA (co i)), .ref 151, .int 0, .int 0, .int 0, .int 0, .int 0, .long 0, .int (-1), .long 0, .int 0]) (RW i + 5) (rfs 6 9 (fRf (RW i + 6) 1 9))) (RW i + 15)) : ∀ m q, q + m = 9 → Wp R 7 Z (6 + q) (89 + 9 * q) 55 [(4, .int (nI q)), (0, .ref a), (1, .int w), (2, .ref (CA (co i))), (3, .ref 151)] [] (va_up (cn M a (RW i) 2 [.int w, .ref (RW i), .ref (RW i + 4), .ref (RW i + 5), .ref (CA (co i)), .ref 151, .int 0, .int 0, .int 0, .int 0, .int 0, .long 0, .int (-1), .long 0, .int 0]) (RW i + 5) (rfs 6 9 (fRf (RW i + 6) 1 q))) (RW i + 6 + q) := by
  intro m
  induction m with
  | zero =>
    intro q hq
    obtain rfl : q = 9 := by omega
    refine x_iload (pc := 55) d7_55 rfl ?_
    refine x_bipush (pc := 57) (v := (8)) d7_57 (by decide) ?_
    exact x_icmp_gt (pc := 59) (tgt := 82) d7_59 (by decide) (fun _ => kend) (fun h => absurd (by decide) h)
  | succ m ih =>
    intro q hq
    refine x_iload (pc := 55) d7_55 rfl ?_
    refine x_bipush (pc := 57) (v := (8)) d7_57 (by decide) ?_
    refine x_icmp_gt (pc := 59) (tgt := 82) d7_59 (by decide) (fun h => absurd h (nI_nlt (a := 8) (by omega) (by omega))) (fun _ => ?_)
    refine x_aload_n (pc := 62) d7_62 rfl ?_
    refine x_getf (pc := 63) (a := a) (ci := 2) (f := 3) (v := .ref (RW i + 5)) d7_63 fl2_24 (by decide) (by decide) ⟨h3, by omega⟩ (by rw [va_up_ne _ _ (by omega)]; exact cn_a) rfl ?_
    refine x_iload (pc := 66) d7_66 rfl ?_
    refine x_new (pc := 68) (ci := 0) (fs := [.int 0, .int 0, .int 0, .int 0, .int 0, .int 0, .int 0, .long 0, .int 0]) d7_68 kl2_22 it_0 id_0 (by decide) rfl ⟨by omega, by show _ + 9 ≤ _; omega⟩ ?_
    refine x_dup (pc := 71) d7_71 rfl ?_
    refine x_callIN (pc := 72) (y := 9) (As := []) (mc := 0) (ms := 0) d7_72 nl2_43 mc_9 mI9 (by decide +kernel) (by decide +kernel) rfl (Nat.le_of_ble_eq_true rfl) (c_9) hR ⟨by omega, by show _ + 9 + 0 ≤ _; omega⟩ ?_
    rintro r M1 t1 ⟨rfl, rfl, rfl⟩
    show Wp _ _ _ _ _ 75 _ _ _ _
    have eW : va_up (va_up (cn M a (RW i) 2 [.int w, .ref (RW i), .ref (RW i + 4), .ref (RW i + 5), .ref (CA (co i)), .ref 151, .int 0, .int 0, .int 0, .int 0, .int 0, .long 0, .int (-1), .long 0, .int 0]) (RW i + 5) (rfs 6 9 (fRf (RW i + 6) 1 q))) (RW i + 6 + q) (.inr (0, [.int 0, .int 0, .int 0, .int 0, .int 0, .int 0, .int 0, .long 0, .int 0])) (RW i + 6 + q) = .inr (0, [.int 0, .int 0, .int 0, .int 0, .int 0, .int 0, .int 0, .long 0, .int 0]) := va_up_self _ _ _
    refine x_mem (M' := va_up (cn M a (RW i) 2 [.int w, .ref (RW i), .ref (RW i + 4), .ref (RW i + 5), .ref (CA (co i)), .ref 151, .int 0, .int 0, .int 0, .int 0, .int 0, .long 0, .int (-1), .long 0, .int 0]) (RW i + 5) (rfs 6 9 (fRf (RW i + 6) 1 q))) (fun z z1 z2 => Or.inl ?_) ?_
    · by_cases e : z = RW i + 6 + q
      · rw [e, va_up_self, va_up_ne _ _ (by omega), cn_t (by omega) (by omega), T0_o (shB i hi q (by omega))]; rfl
      · rw [va_up_ne _ _ e]
    refine x_stp (pc := 75) (ci := 0) d7_75 (by decide) rfl (by decide) ⟨by omega, by omega⟩ (by omega) ⟨by omega, by omega, by omega⟩ ((cn_t (by omega) (by omega)).trans (T0_o (shB i hi q (by omega)))) (by omega) (by decide) ?_
    refine y_inc (pc := 76) (c := (1)) d7_76 (by decide) (by decide) rfl ?_
    refine x_goto (pc := 79) (tgt := 55) d7_79 (by decide) ?_
    have e1 : nI q + 1 = nI (q + 1) := nI_1 q
    show Wp R 7 Z (6 + q + 1 + 0) (89 + 9 * q + 9 + 0) 55 [(4, .int (nI q + 1)), (0, .ref a), (1, .int w), (2, .ref (CA (co i))), (3, .ref 151)] [] _ _
    rw [e1, show 6 + q + 1 + 0 = 6 + (q + 1) by omega, show 89 + 9 * q + 9 + 0 = 89 + 9 * (q + 1) by omega]
    exact ih (q + 1) (by omega)
set_option maxRecDepth 100000 in
theorem c_7 {M : Me} {i a : Nat} {w : Int32} (hi : i < 7) (ha : FA i = a) (h3 : 3 ≤ a) (har : a < RW i) (hw : s00.1 32 i 0 = w) (hM : M a = .inr (2, [.int 0, .null, .null, .null, .null, .null, .int 0, .int 0, .int 0, .int 0, .int 0, .long 0, .int 0, .long 0, .int 0])) : Ct 2 15 170 7 [.ref a, .int w, .ref (CA (co i)), .ref 151] M (RW i) (pM (mxT M a (RW i)) (RW i + 15)) := by
  refine ct_of (by decide +kernel) (Nat.le_of_ble_eq_true rfl) ?_
  show Wp _ _ _ _ _ _ [(0, .ref a), (1, .int w), (2, .ref (CA (co i))), (3, .ref 151)] _ _ _
  refine x_aload_n (pc := 0) d7_0 rfl ?_
  refine x_objInit (pc := 1) d7_1 ml2_3 mI1 (m_code (j := 1) (by decide)) (by decide) (by decide) ?_
  refine cn_start (ci := 2) (fs := [.int 0, .null, .null, .null, .null, .null, .int 0, .int 0, .int 0, .int 0, .int 0, .long 0, .int 0, .long 0, .int 0]) hM ?_
  refine x_aload_n (pc := 4) d7_4 rfl ?_
  refine x_new (pc := 5) (ci := 5) (fs := [.int 0, .null, .null, .null]) d7_5 kl2_9 it_5 id_5 (by decide) rfl ⟨Nat.le_of_ble_eq_true rfl, Nat.le_of_ble_eq_true rfl⟩ ?_
  refine x_dup (pc := 8) d7_8 rfl ?_
  refine x_callIN (pc := 9) (y := 8) (As := []) (mc := 3) (ms := 66) d7_9 nl2_11 mc_8 mI8 (by decide +kernel) (by decide +kernel) rfl (Nat.le_of_ble_eq_true rfl) (c_8 hi rfl (va_up_self _ _ _)) ⟨by decide, Nat.le_of_ble_eq_true rfl⟩ ⟨Nat.le_of_ble_eq_true rfl, Nat.le_of_ble_eq_true rfl⟩ ?_
  rintro r M1 t1 ⟨rfl, rfl, rfl⟩
  show Wp _ _ _ _ _ 12 _ _ _ _
  refine cn_abs (fun q h1 _ => cn_t (by omega) (by omega)) ?_
  refine cn_put (pc := 12) (f := 1) d7_12 ⟨fl2_12, by decide, by decide, rfl, by decide +kernel, by decide +kernel⟩ ⟨rfl, rfl⟩ rfl ⟨h3, har, by omega⟩ ?_
  refine x_aload_n (pc := 15) d7_15 rfl ?_
  refine x_bipush (pc := 16) (v := (10)) d7_16 (by decide) ?_
  refine x_nap (pc := 18) (ty := 1) (N := 10) (f := 2) d7_18 d7_20 (by decide) rfl aw1 (by decide) (by decide) (by decide) ⟨Nat.le_of_ble_eq_true rfl, Nat.le_of_ble_eq_true rfl⟩ ⟨fl2_18, by decide, by decide, rfl, by decide +kernel, by decide +kernel⟩ (fun _ => ⟨rfl, rfl⟩) rfl (⟨h3, har, by omega⟩) (T0_a (shR4 i hi) (by decide) rfl) ?_
  refine x_aload_n (pc := 23) d7_23 rfl ?_
  refine x_bipush (pc := 24) (v := (9)) d7_24 (by decide) ?_
  refine x_anp (pc := 26) (t0 := 6) (cj := 0) (N := 9) (base := RW i + 6) (step := 1) (f := 3) d7_26 d7_29 kl2_22 (by decide) rfl (by decide) (by decide) (by decide) ⟨Nat.le_of_ble_eq_true rfl, Nat.le_of_ble_eq_true rfl⟩ ⟨fl2_24, by decide, by decide, rfl, by decide +kernel, by decide +kernel⟩ (fun _ => ⟨rfl, rfl⟩) rfl ⟨h3, har, by omega⟩ ?_
  refine x_aload_n (pc := 32) d7_32 rfl ?_
  refine x_iload_n (pc := 33) d7_33 rfl ?_
  refine cb_puti (pc := 34) (f := 0) d7_34 fl2_28 (by decide) (by decide) rfl ⟨rfl, rfl⟩ rfl ⟨h3, har, by omega, by omega⟩ ?_
  refine x_aload_n (pc := 37) d7_37 rfl ?_
  refine x_aload_n (pc := 38) d7_38 rfl ?_
  refine cb_put (pc := 39) (f := 4) d7_39 ⟨fl2_32, by decide, by decide, rfl, by decide +kernel, by decide +kernel⟩ ⟨rfl, rfl⟩ rfl ⟨h3, har, by omega, by omega⟩ ?_
  refine x_aload_n (pc := 42) d7_42 rfl ?_
  refine x_aload_n (pc := 43) d7_43 rfl ?_
  refine cb_puti (pc := 44) (f := 5) d7_44 fl2_36 (by decide) (by decide) rfl ⟨rfl, rfl⟩ rfl ⟨h3, har, by omega, by omega⟩ ?_
  refine x_aload_n (pc := 47) d7_47 rfl ?_
  refine x_iconst (pc := 48) (v := (-1)) d7_48 (by decide) ?_
  refine cb_puti (pc := 49) (f := 12) d7_49 fl2_40 (by decide) (by decide) rfl ⟨rfl, rfl⟩ rfl ⟨h3, har, by omega, by omega⟩ ?_
  refine x_iconst (pc := 52) (v := (0)) d7_52 (by decide) ?_
  refine x_istore (pc := 53) d7_53 (by decide) ?_
  refine c_7l (w := w) hi h3 har ⟨by decide, Nat.le_of_ble_eq_true rfl⟩ ⟨Nat.le_of_ble_eq_true rfl, Nat.le_of_ble_eq_true rfl⟩ ?_ 9 0 rfl
  refine cb_full (shR5 i hi) (by decide) rfl rfl (cn_t (by omega) (by omega)) ?_
  exact cn_end (pc := 82) d7_82 rfl ⟨Nat.le_refl _, Nat.le_refl _⟩ (by subst ha; subst hw; exact (T0_o (shF i hi)).trans rfl) rfl
set_option maxRecDepth 100000 in
theorem c_5l {M : Me} {R : Room} {Z : Zt} (hR : 3 ≤ R.frames ∧ 8 + (mL 7 + 11) + 80 ≤ R.locals) (hc : 136 ≤ R.cells ∧ 3604 ≤ R.slots)
    (kend : Wp R 5 Z 115 3413 76 [(4, .int 6), (3, .ref 162), (2, .ref 151), (1, .ref 146), (0, .ref 143)] [] (va_up (cn M 143 144 7 [.null, .null, .ref 144, .ref 145, .null]) 162 (rfs 5 6 (fRf 163 16 6))) 259) : ∀ m q, q + m = 6 → Wp R 5 Z (19 + 16 * q) (2303 + 185 * q) 48 [(4, .int (nI q)), (3, .ref 162), (2, .ref 151), (1, .ref 146), (0, .ref 143)] [] (va_up (cn M 143 144 7 [.null, .null, .ref 144, .ref 145, .null]) 162 (rfs 5 6 (fRf 163 16 q))) (163 + 16 * q) := by
  intro m
  induction m with
  | zero =>
    intro q hq
    obtain rfl : q = 6 := by omega
    refine x_iload (pc := 48) d5_48 rfl ?_
    refine x_bipush (pc := 50) (v := (6)) d5_50 (by decide) ?_
    exact x_icmp_ge (pc := 52) (tgt := 76) d5_52 (by decide) (fun _ => kend) (fun h => absurd (by decide) h)
  | succ m ih =>
    intro q hq
    have eF : FA q = 163 + 16 * q := if_pos (by omega)
    have eR : RW q = 163 + 16 * q + 1 := by unfold RW; rw [if_pos (by omega)]; omega
    have eC : CA (co q) = 146 := by unfold co; rw [if_pos (by omega)]; rfl
    refine x_iload (pc := 48) d5_48 rfl ?_
    refine x_bipush (pc := 50) (v := (6)) d5_50 (by decide) ?_
    refine x_icmp_ge (pc := 52) (tgt := 76) d5_52 (by decide) (fun h => absurd h (nI_ge (b := 6) (by omega) (by decide))) (fun _ => ?_)
    refine x_aload_n (pc := 55) d5_55 rfl ?_
    refine x_iload (pc := 56) d5_56 rfl ?_
    refine x_new (pc := 58) (ci := 2) (fs := [.int 0, .null, .null, .null, .null, .null, .int 0, .int 0, .int 0, .int 0, .int 0, .long 0, .int 0, .long 0, .int 0]) d5_58 kl7_27 it_2 id_2 (by decide) rfl ⟨by omega, by show _ + 15 ≤ _; omega⟩ ?_
    refine x_dup (pc := 61) d5_61 rfl ?_
    refine x_iload (pc := 62) d5_62 rfl ?_
    refine x_aload_n (pc := 64) d5_64 rfl ?_
    refine x_aload_n (pc := 65) d5_65 rfl ?_
    have hct : Ct 2 15 170 7 [.ref (163 + 16 * q), .int (nI q), .ref 146, .ref 151] (va_up (va_up (cn M 143 144 7 [.null, .null, .ref 144, .ref 145, .null]) 162 (rfs 5 6 (fRf 163 16 q))) (163 + 16 * q) (.inr (2, [.int 0, .null, .null, .null, .null, .null, .int 0, .int 0, .int 0, .int 0, .int 0, .long 0, .int 0, .long 0, .int 0]))) (163 + 16 * q + 1) (pM (mxT (va_up (va_up (cn M 143 144 7 [.null, .null, .ref 144, .ref 145, .null]) 162 (rfs 5 6 (fRf 163 16 q))) (163 + 16 * q) (.inr (2, [.int 0, .null, .null, .null, .null, .null, .int 0, .int 0, .int 0, .int 0, .int 0, .long 0, .int 0, .long 0, .int 0]))) (163 + 16 * q) (163 + 16 * q + 1)) (163 + 16 * (q + 1))) := by
      have := c_7 (M := va_up (va_up (cn M 143 144 7 [.null, .null, .ref 144, .ref 145, .null]) 162 (rfs 5 6 (fRf 163 16 q))) (163 + 16 * q) (.inr (2, [.int 0, .null, .null, .null, .null, .null, .int 0, .int 0, .int 0, .int 0, .int 0, .long 0, .int 0, .long 0, .int 0]))) (i := q) (a := 163 + 16 * q) (w := nI q) (by omega) eF (by omega) (by omega) (by show (if q < 6 then nI q else -1) = _; rw [if_pos (by omega)]) (va_up_self _ _ _)
      rw [eC, eR, show 163 + 16 * q + 1 + 15 = 163 + 16 * (q + 1) by omega] at this
      exact this
    refine x_callI (pc := 66) (y := 7) (As := [.int (nI q), .ref 146, .ref 151]) (mc := 15) (ms := 170) d5_66 ml7_29 mc_7 mI7 (by decide +kernel) (by decide +kernel) rfl (Nat.le_of_ble_eq_true rfl) (hct) hR ⟨by omega, by show _ + 15 + 170 ≤ _; omega⟩ ?_
    rintro r M1 t1 ⟨rfl, rfl, rfl⟩
    show Wp _ _ _ _ _ 69 _ _ _ _
    refine cn_abs (fun z z1 z2 => by rw [va_up_ne _ _ (by omega), cn_t (by omega) (by omega)]) ?_
    refine x_stp (pc := 69) (ci := 2) d5_69 (by decide) rfl (by decide) ⟨by omega, by omega⟩ rfl ⟨by omega, by omega, by omega⟩ ((cn_t (by omega) (by omega)).trans (by rw [← eF]; exact T0_o (shF q (by omega)))) (by omega) (by decide) ?_
    refine y_inc (pc := 70) (c := (1)) d5_70 (by decide) (by decide) rfl ?_
    refine x_goto (pc := 73) (tgt := 48) d5_73 (by decide) ?_
    have e1 : nI q + 1 = nI (q + 1) := nI_1 q
    show Wp R 5 Z (19 + 16 * q + 1 + 15) (2303 + 185 * q + 15 + 170) 48 [(4, .int (nI q + 1)), (3, .ref 162), (2, .ref 151), (1, .ref 146), (0, .ref 143)] [] _ _
    rw [e1, show 19 + 16 * q + 1 + 15 = 19 + 16 * (q + 1) by omega, show 2303 + 185 * q + 15 + 170 = 2303 + 185 * (q + 1) by omega]
    exact ih (q + 1) (by omega)
set_option maxRecDepth 100000 in
theorem c_5 {M : Me} (hM : M 143 = .inr (7, [.null, .null, .null, .null, .null])) : Ct 3 136 3604 5 [.ref 143] M (144) (pM (mxT M 143 (144)) (280)) := by
  refine ct_of (by decide +kernel) (Nat.le_of_ble_eq_true rfl) ?_
  show Wp _ _ _ _ _ _ [(0, .ref 143)] _ _ _
  refine x_aload_n (pc := 0) d5_0 rfl ?_
  refine x_objInit (pc := 1) d5_1 ml7_3 mI1 (m_code (j := 1) (by decide)) (by decide) (by decide) ?_
  refine cn_start (ci := 7) (fs := [.null, .null, .null, .null, .null]) hM ?_
  refine x_aload_n (pc := 4) d5_4 rfl ?_
  refine x_bipush (pc := 5) (v := (8)) d5_5 (by decide) ?_
  refine x_nap (pc := 7) (ty := 2) (N := 8) (f := 2) d5_7 d5_9 (by decide) rfl aw2 (by decide) (by decide) (by decide) ⟨Nat.le_of_ble_eq_true rfl, Nat.le_of_ble_eq_true rfl⟩ ⟨fl7_9, by decide, by decide, rfl, by decide +kernel, by decide +kernel⟩ (fun _ => ⟨rfl, rfl⟩) rfl (⟨by decide, by decide, by decide⟩) (T0_a shL144 (by decide) rfl) ?_
  refine x_aload_n (pc := 12) d5_12 rfl ?_
  refine x_bipush (pc := 13) (v := (8)) d5_13 (by decide) ?_
  refine x_nap (pc := 15) (ty := 1) (N := 8) (f := 3) d5_15 d5_17 (by decide) rfl aw1 (by decide) (by decide) (by decide) ⟨Nat.le_of_ble_eq_true rfl, Nat.le_of_ble_eq_true rfl⟩ ⟨fl7_15, by decide, by decide, rfl, by decide +kernel, by decide +kernel⟩ (fun _ => ⟨rfl, rfl⟩) rfl (⟨by decide, by decide, by decide⟩) (T0_a shL145 (by decide) rfl) ?_
  refine x_new (pc := 20) (ci := 1) (fs := [.int 0, .int 0, .null, .null, .null, .null]) d5_20 kl7_19 it_1 id_1 (by decide) rfl ⟨Nat.le_of_ble_eq_true rfl, Nat.le_of_ble_eq_true rfl⟩ ?_
  refine x_dup (pc := 23) d5_23 rfl ?_
  refine x_sipush (pc := 24) (v := (400)) d5_24 (by decide) ?_
  refine x_callI (pc := 27) (y := 6) (As := [.int 400]) (mc := 4) (ms := 1600) d5_27 ml7_21 mc_6 mI6 (by decide +kernel) (by decide +kernel) rfl (Nat.le_of_ble_eq_true rfl) (c_60 (va_up_self _ _ _)) ⟨by decide, Nat.le_of_ble_eq_true rfl⟩ ⟨Nat.le_of_ble_eq_true rfl, Nat.le_of_ble_eq_true rfl⟩ ?_
  rintro r M1 t1 ⟨rfl, rfl, rfl⟩
  show Wp _ _ _ _ _ 30 _ _ _ _
  refine cn_abs (fun q h1 _ => cn_t (by omega) (by omega)) ?_
  refine x_astore_n (pc := 30) d5_30 (by decide) ?_
  refine x_new (pc := 31) (ci := 4) (fs := [.int 0, .int 0, .int 0, .int 0, .null, .null, .null, .null, .null, .null, .null, .null, .null, .null]) d5_31 kl7_24 it_4 id_4 (by decide) rfl ⟨Nat.le_of_ble_eq_true rfl, Nat.le_of_ble_eq_true rfl⟩ ?_
  refine x_dup (pc := 34) d5_34 rfl ?_
  refine x_callIN (pc := 35) (y := 4) (As := []) (mc := 10) (ms := 661) d5_35 nl7_26 mc_4 mI4 (by decide +kernel) (by decide +kernel) rfl (Nat.le_of_ble_eq_true rfl) (c_4 (p := 12) (by decide) rfl (va_up_self _ _ _)) ⟨by decide, Nat.le_of_ble_eq_true rfl⟩ ⟨Nat.le_of_ble_eq_true rfl, Nat.le_of_ble_eq_true rfl⟩ ?_
  rintro r M1 t1 ⟨rfl, rfl, rfl⟩
  show Wp _ _ _ _ _ 38 _ _ _ _
  refine cn_abs (fun q h1 _ => cn_t (by omega) (by omega)) ?_
  refine x_astore_n (pc := 38) d5_38 (by decide) ?_
  refine x_bipush (pc := 39) (v := (6)) d5_39 (by decide) ?_
  refine x_anew (pc := 41) (t := 5) (ci := 2) (N := 6) d5_41 kl7_27 (by decide) rfl (by decide) (by decide) (by decide) ⟨Nat.le_of_ble_eq_true rfl, Nat.le_of_ble_eq_true rfl⟩ ?_
  rw [show (fun _ => none : Nat → Option Nat) = fRf 163 16 0 from funext fun q => (if_neg (Nat.not_lt_zero q)).symm]
  refine x_astore_n (pc := 44) d5_44 (by decide) ?_
  refine x_iconst (pc := 45) (v := (0)) d5_45 (by decide) ?_
  refine x_istore (pc := 46) d5_46 (by decide) ?_
  refine c_5l (M := M) ⟨by decide, Nat.le_of_ble_eq_true rfl⟩ ⟨Nat.le_of_ble_eq_true rfl, Nat.le_of_ble_eq_true rfl⟩ ?_ 6 0 rfl
  refine cb_full shL162 (by decide) rfl rfl (cn_t (by omega) (by omega)) ?_
  refine x_aload_n (pc := 76) d5_76 rfl ?_
  refine x_aload_n (pc := 77) d5_77 rfl ?_
  refine cn_put (pc := 78) (f := 0) d5_78 ⟨fl7_32, by decide, by decide, rfl, by decide +kernel, by decide +kernel⟩ ⟨rfl, rfl⟩ rfl ⟨by decide, by decide, by decide⟩ ?_
  refine x_aload_n (pc := 81) d5_81 rfl ?_
  refine x_aload_n (pc := 82) d5_82 rfl ?_
  refine cn_put (pc := 83) (f := 1) d5_83 ⟨fl7_36, by decide, by decide, rfl, by decide +kernel, by decide +kernel⟩ ⟨rfl, rfl⟩ rfl ⟨by decide, by decide, by decide⟩ ?_
  refine x_aload_n (pc := 86) d5_86 rfl ?_
  refine x_new (pc := 87) (ci := 2) (fs := [.int 0, .null, .null, .null, .null, .null, .int 0, .int 0, .int 0, .int 0, .int 0, .long 0, .int 0, .long 0, .int 0]) d5_87 kl7_27 it_2 id_2 (by decide) rfl ⟨Nat.le_of_ble_eq_true rfl, Nat.le_of_ble_eq_true rfl⟩ ?_
  refine x_dup (pc := 90) d5_90 rfl ?_
  refine x_iconst (pc := 91) (v := (-1)) d5_91 (by decide) ?_
  refine x_new (pc := 92) (ci := 1) (fs := [.int 0, .int 0, .null, .null, .null, .null]) d5_92 kl7_19 it_1 id_1 (by decide) rfl ⟨Nat.le_of_ble_eq_true rfl, Nat.le_of_ble_eq_true rfl⟩ ?_
  refine x_dup (pc := 95) d5_95 rfl ?_
  refine x_iconst (pc := 96) (v := (0)) d5_96 (by decide) ?_
  refine x_callI (pc := 97) (y := 6) (As := [.int 0]) (mc := 4) (ms := 0) d5_97 ml7_21 mc_6 mI6 (by decide +kernel) (by decide +kernel) rfl (Nat.le_of_ble_eq_true rfl) (c_61 (va_up_self _ _ _)) ⟨by decide, Nat.le_of_ble_eq_true rfl⟩ ⟨Nat.le_of_ble_eq_true rfl, Nat.le_of_ble_eq_true rfl⟩ ?_
  rintro r M1 t1 ⟨rfl, rfl, rfl⟩
  show Wp _ _ _ _ _ 100 _ _ _ _
  refine x_aload_n (pc := 100) d5_100 rfl ?_
  generalize hW : cn M 143 144 7 _ = W
  have hW1 : ∀ q, 144 ≤ q → W q = T0 q := fun q h => by rw [← hW, cn_t (by omega) h]
  refine x_callI (pc := 101) (y := 7) (As := [.int (-1), .ref 260, .ref 151]) (mc := 15) (ms := 170) d5_101 ml7_29 mc_7 mI7 (by decide +kernel) (by decide +kernel) rfl (Nat.le_of_ble_eq_true rfl) (c_7 (i := 6) (a := 259) (w := -1) (by decide) rfl (by decide) (by decide) rfl (by rw [mx_m (by decide) (by decide), va_up_ne _ _ (by decide), va_up_self])) ⟨by decide, Nat.le_of_ble_eq_true rfl⟩ ⟨Nat.le_of_ble_eq_true rfl, Nat.le_of_ble_eq_true rfl⟩ ?_
  rintro r M1 t1 ⟨rfl, rfl, rfl⟩
  show Wp _ _ _ _ _ 104 _ _ _ _
  refine x_mem (M' := W) (fun q h1 h2 => Or.inl ?_) ?_
  · have h2 : q < 280 := h2
    by_cases e : 259 ≤ q
    · rw [hW1 q (by omega)]
      by_cases g : q = 259 ∨ 265 ≤ q
      · exact mx_t g
      · refine (mx_m (by omega) (show q < 265 by omega)).trans (mx_t (by omega))
    · refine (mx_m (by omega) (show q < 265 by omega)).trans ?_
      rw [mx_m (by omega) (by omega), va_up_ne _ _ (by omega), va_up_ne _ _ (by omega)]
  subst hW
  refine cn_put (pc := 104) (f := 4) d5_104 ⟨fl7_40, by decide, by decide, rfl, by decide +kernel, by decide +kernel⟩ ⟨rfl, rfl⟩ rfl ⟨by decide, by decide, by decide⟩ ?_
  exact cn_end (pc := 107) d5_107 rfl ⟨Nat.le_refl _, Nat.le_refl _⟩ ((T0_o shL143).trans rfl) rfl
set_option maxRecDepth 100000 in
theorem c_0l {M : Me} {R : Room} {Z : Zt} (hR : 2 ≤ R.frames ∧ 8 + (mL 4 + 11) + 40 ≤ R.locals) (hc : 276 ≤ R.cells ∧ 14931 ≤ R.slots)
    (kend : Wp R 0 Z 139 11322 60 [(1, .int 12), (0, .ref 3)] [] (va_up (cn M 3 4 8 [.ref 4, .int 0, .ref 5, .ref 10, .int 0, .int 0, .null]) 10 (rfs 4 12 (fRf 11 11 12))) 143) : ∀ m q, q + m = 12 → Wp R 0 Z (7 + 11 * q) (3222 + 675 * q) 35 [(1, .int (nI q)), (0, .ref 3)] [] (va_up (cn M 3 4 8 [.ref 4, .int 0, .ref 5, .ref 10, .int 0, .int 0, .null]) 10 (rfs 4 12 (fRf 11 11 q))) (11 + 11 * q) := by
  intro m
  induction m with
  | zero =>
    intro q hq
    obtain rfl : q = 12 := by omega
    refine x_iload_n (pc := 35) d0_35 rfl ?_
    refine x_bipush (pc := 36) (v := (12)) d0_36 (by decide) ?_
    exact x_icmp_ge (pc := 38) (tgt := 60) d0_38 (by decide) (fun _ => kend) (fun h => absurd (by decide) h)
  | succ m ih =>
    intro q hq
    have eP : PA q = 11 + 11 * q := if_pos (by omega)
    refine x_iload_n (pc := 35) d0_35 rfl ?_
    refine x_bipush (pc := 36) (v := (12)) d0_36 (by decide) ?_
    refine x_icmp_ge (pc := 38) (tgt := 60) d0_38 (by decide) (fun h => absurd h (nI_ge (b := 12) (by omega) (by decide))) (fun _ => ?_)
    refine x_aload_n (pc := 41) d0_41 rfl ?_
    refine x_getf (pc := 42) (a := 3) (ci := 8) (f := 3) (v := .ref 10) d0_42 fl8_22 (by decide) (by decide) ⟨by decide, by omega⟩ (by rw [va_up_ne _ _ (by decide)]; exact cn_a) rfl ?_
    refine x_iload_n (pc := 45) d0_45 rfl ?_
    refine x_new (pc := 46) (ci := 4) (fs := [.int 0, .int 0, .int 0, .int 0, .null, .null, .null, .null, .null, .null, .null, .null, .null, .null]) d0_46 kl8_20 it_4 id_4 (by decide) rfl ⟨by omega, by show _ + 14 ≤ _; omega⟩ ?_
    refine x_dup (pc := 49) d0_49 rfl ?_
    refine x_callIN (pc := 50) (y := 4) (As := []) (mc := 10) (ms := 661) d0_50 nl8_26 mc_4 mI4 (by decide +kernel) (by decide +kernel) rfl (Nat.le_of_ble_eq_true rfl) (c_4 (p := q) (by omega) eP (va_up_self _ _ _)) hR ⟨by omega, by show _ + 14 + 661 ≤ _; omega⟩ ?_
    rintro r M1 t1 ⟨rfl, rfl, rfl⟩
    show Wp _ _ _ _ _ 53 _ _ _ _
    refine cn_abs (fun z z1 z2 => by rw [va_up_ne _ _ (by omega), cn_t (by omega) (by omega)]) ?_
    refine x_stp (pc := 53) (ci := 4) d0_53 (by decide) rfl (by decide) ⟨by decide, by omega⟩ rfl ⟨by omega, by omega, by omega⟩ ((cn_t (by omega) (by omega)).trans (by rw [← eP]; exact T0_o (shP q (by omega)))) (by omega) (by decide) ?_
    refine y_inc (pc := 54) (c := (1)) d0_54 (by decide) (by decide) rfl ?_
    refine x_goto (pc := 57) (tgt := 35) d0_57 (by decide) ?_
    have e1 : nI q + 1 = nI (q + 1) := nI_1 q
    show Wp R 0 Z (7 + 11 * q + 1 + 10) (3222 + 675 * q + 14 + 661) 35 [(1, .int (nI q + 1)), (0, .ref 3)] [] _ (11 + 11 * q + 11)
    rw [e1, show 7 + 11 * q + 1 + 10 = 7 + 11 * (q + 1) by omega, show 3222 + 675 * q + 14 + 661 = 3222 + 675 * (q + 1) by omega, show 11 + 11 * q + 11 = 11 + 11 * (q + 1) by omega]
    exact ih (q + 1) (by omega)
set_option maxRecDepth 100000 in
theorem c_0 {M : Me} (hM : M 3 = .inr (8, [.null, .int 0, .null, .null, .int 0, .int 0, .null])) : Ct 4 276 14931 0 [.ref 3] M (4) (pM (mxT M 3 (4)) (280)) := by
  refine ct_of (by decide +kernel) (Nat.le_of_ble_eq_true rfl) ?_
  show Wp _ _ _ _ _ _ [(0, .ref 3)] _ _ _
  refine x_aload_n (pc := 0) d0_0 rfl ?_
  refine x_objInit (pc := 1) d0_1 ml8_3 mI1 (m_code (j := 1) (by decide)) (by decide) (by decide) ?_
  refine cn_start (ci := 8) (fs := [.null, .int 0, .null, .null, .int 0, .int 0, .null]) hM ?_
  refine x_aload_n (pc := 4) d0_4 rfl ?_
  refine x_sipush (pc := 5) (v := (800)) d0_5 (by decide) ?_
  refine x_nap (pc := 8) (ty := 0) (N := 800) (f := 0) d0_8 d0_10 (by decide) rfl aw0 (by decide) (by decide) (by decide) ⟨Nat.le_of_ble_eq_true rfl, Nat.le_of_ble_eq_true rfl⟩ ⟨fl8_9, by decide, by decide, rfl, by decide +kernel, by decide +kernel⟩ (fun _ => ⟨rfl, rfl⟩) rfl (⟨by decide, by decide, by decide⟩) (T0_a shL4 (by decide) rfl) ?_
  refine x_aload_n (pc := 13) d0_13 rfl ?_
  refine x_new (pc := 14) (ci := 3) (fs := [.null, .null, .int 0]) d0_14 kl8_13 it_3 id_3 (by decide) rfl ⟨Nat.le_of_ble_eq_true rfl, Nat.le_of_ble_eq_true rfl⟩ ?_
  refine x_dup (pc := 17) d0_17 rfl ?_
  refine x_callIN (pc := 18) (y := 2) (As := []) (mc := 4) (ms := 2407) d0_18 nl8_15 mc_2 mI2 (by decide +kernel) (by decide +kernel) rfl (Nat.le_of_ble_eq_true rfl) (c_2 (va_up_self _ _ _)) ⟨by decide, Nat.le_of_ble_eq_true rfl⟩ ⟨Nat.le_of_ble_eq_true rfl, Nat.le_of_ble_eq_true rfl⟩ ?_
  rintro r M1 t1 ⟨rfl, rfl, rfl⟩
  show Wp _ _ _ _ _ 21 _ _ _ _
  refine cn_abs (fun q h1 _ => cn_t (by omega) (by omega)) ?_
  refine cn_put (pc := 21) (f := 2) d0_21 ⟨fl8_16, by decide, by decide, rfl, by decide +kernel, by decide +kernel⟩ ⟨rfl, rfl⟩ rfl ⟨by decide, by decide, by decide⟩ ?_
  refine x_aload_n (pc := 24) d0_24 rfl ?_
  refine x_bipush (pc := 25) (v := (12)) d0_25 (by decide) ?_
  refine x_anp (pc := 27) (t0 := 4) (cj := 4) (N := 12) (base := 11) (step := 11) (f := 3) d0_27 d0_30 kl8_20 (by decide) rfl (by decide) (by decide) (by decide) ⟨Nat.le_of_ble_eq_true rfl, Nat.le_of_ble_eq_true rfl⟩ ⟨fl8_22, by decide, by decide, rfl, by decide +kernel, by decide +kernel⟩ (fun _ => ⟨rfl, rfl⟩) rfl ⟨by decide, by decide, by decide⟩ ?_
  refine x_iconst (pc := 33) (v := (0)) d0_33 (by decide) ?_
  refine x_istore_n (pc := 34) d0_34 (by decide) ?_
  refine c_0l (M := M) ⟨by decide, Nat.le_of_ble_eq_true rfl⟩ ⟨Nat.le_of_ble_eq_true rfl, Nat.le_of_ble_eq_true rfl⟩ ?_ 12 0 rfl
  refine cb_full shL10 (by decide) rfl rfl (cn_t (by omega) (by omega)) ?_
  refine x_aload_n (pc := 60) d0_60 rfl ?_
  refine x_iconst (pc := 61) (v := (-1)) d0_61 (by decide) ?_
  refine cn_puti (pc := 62) (f := 5) d0_62 fl8_27 (by decide) (by decide) rfl ⟨rfl, rfl⟩ rfl ⟨by decide, by decide, by decide⟩ ?_
  refine x_aload_n (pc := 65) d0_65 rfl ?_
  refine x_new (pc := 66) (ci := 7) (fs := [.null, .null, .null, .null, .null]) d0_66 kl8_31 it_7 id_7 (by decide) rfl ⟨Nat.le_of_ble_eq_true rfl, Nat.le_of_ble_eq_true rfl⟩ ?_
  refine x_dup (pc := 69) d0_69 rfl ?_
  refine x_callI (pc := 70) (y := 5) (As := []) (mc := 136) (ms := 3604) d0_70 ml8_33 mc_5 mI5 (by decide +kernel) (by decide +kernel) rfl (Nat.le_of_ble_eq_true rfl) (c_5 (va_up_self _ _ _)) ⟨by decide, Nat.le_of_ble_eq_true rfl⟩ ⟨Nat.le_of_ble_eq_true rfl, Nat.le_of_ble_eq_true rfl⟩ ?_
  rintro r M1 t1 ⟨rfl, rfl, rfl⟩
  show Wp _ _ _ _ _ 73 _ _ _ _
  refine cn_abs (fun q h1 _ => cn_t (by omega) (by omega)) ?_
  refine cn_put (pc := 73) (f := 6) d0_73 ⟨fl8_34, by decide, by decide, rfl, by decide +kernel, by decide +kernel⟩ ⟨rfl, rfl⟩ rfl ⟨by decide, by decide, by decide⟩ ?_
  exact cn_end (pc := 76) d0_76 rfl ⟨Nat.le_refl _, Nat.le_refl _⟩ ((T0_o shL3).trans rfl) rfl
