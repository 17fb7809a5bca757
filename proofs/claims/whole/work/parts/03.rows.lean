/-! a row an instruction -/
section XR
variable {R : Room} {j : Nat} {Z : Zt} {k n pc : Nat} {lv : List (Nat × Value)} {st : List Value} {M : Me} {top : Nat}
theorem x_iconst {i : Int} {v : Int32} (hd : decode (mB j) pc = .ok (.iconst i, 1)) (hv0 : Int32.ofInt i = v) (kk : Wp R j Z k n (pc + 1) lv (.int v :: st) M top) : Wp R j Z k n pc lv st M top := by
  intro l E p e s m args below meth c C H locs hl hH ls hv
  exact lv_iconst C.2.1 C.2.2.1 hd hv0 (kk l E p e s m args below meth c C H locs hl hH ls hv)
theorem x_bipush {i : Int} {v : Int32} (hd : decode (mB j) pc = .ok (.bipush i, 2)) (hv0 : (Int8.ofInt i).toInt32 = v) (kk : Wp R j Z k n (pc + 2) lv (.int v :: st) M top) : Wp R j Z k n pc lv st M top := by
  intro l E p e s m args below meth c C H locs hl hH ls hv
  exact lv_bipush C.2.1 C.2.2.1 hd hv0 (kk l E p e s m args below meth c C H locs hl hH ls hv)
theorem x_sipush {i : Int} {v : Int32} (hd : decode (mB j) pc = .ok (.sipush i, 3)) (hv0 : (Int16.ofInt i).toInt32 = v) (kk : Wp R j Z k n (pc + 3) lv (.int v :: st) M top) : Wp R j Z k n pc lv st M top := by
  intro l E p e s m args below meth c C H locs hl hH ls hv
  exact lv_sipush C.2.1 C.2.2.1 hd hv0 (kk l E p e s m args below meth c C H locs hl hH ls hv)
theorem x_lconst {i : Fin 2} {v : Int64} (hd : decode (mB j) pc = .ok (.lconst i, 1)) (hv0 : Int64.ofNat (i : Nat) = v) (kk : Wp R j Z k n (pc + 1) lv (.long v :: st) M top) : Wp R j Z k n pc lv st M top := by
  intro l E p e s m args below meth c C H locs hl hH ls hv
  exact lv_lconst C.2.1 C.2.2.1 hd hv0 (kk l E p e s m args below meth c C H locs hl hH ls hv)
theorem x_iload_n {i : Fin 4} {v : Int32} (hd : decode (mB j) pc = .ok (.iload_n i, 1)) (hg : gl lv (i : Nat) = some (.int v)) (kk : Wp R j Z k n (pc + 1) lv (.int v :: st) M top) : Wp R j Z k n pc lv st M top := by
  intro l E p e s m args below meth c C H locs hl hH ls hv
  exact lv_iload_n C.2.1 C.2.2.1 hd rfl (lh_at hv hg) (kk l E p e s m args below meth c C H locs hl hH ls hv)
theorem x_iload {i : Nat} {v : Int32} (hd : decode (mB j) pc = .ok (.iload i, 2)) (hg : gl lv i = some (.int v)) (kk : Wp R j Z k n (pc + 2) lv (.int v :: st) M top) : Wp R j Z k n pc lv st M top := by
  intro l E p e s m args below meth c C H locs hl hH ls hv
  exact lv_iload C.2.1 C.2.2.1 hd (lh_at hv hg) (kk l E p e s m args below meth c C H locs hl hH ls hv)
theorem x_istore_n {i : Fin 4} {v : Int32} (hd : decode (mB j) pc = .ok (.istore_n i, 1)) (hb : (i : Nat) < mL j) (kk : Wp R j Z k n (pc + 1) (st1 lv (i : Nat) (.int v)) st M top) : Wp R j Z k n pc lv (.int v :: st) M top := by
  intro l E p e s m args below meth c C H locs hl hH ls hv
  exact lv_istore_n C.2.1 C.2.2.1 hd rfl hv hb (st1_map _ _ _ (.int v)) (fun ls hv => kk l E p e s m args below meth c C H locs hl hH ls hv)
theorem x_istore {i : Nat} {v : Int32} (hd : decode (mB j) pc = .ok (.istore i, 2)) (hb : (i : Nat) < mL j) (kk : Wp R j Z k n (pc + 2) (st1 lv i (.int v)) st M top) : Wp R j Z k n pc lv (.int v :: st) M top := by
  intro l E p e s m args below meth c C H locs hl hH ls hv
  exact lv_istore C.2.1 C.2.2.1 hd hv hb (st1_map _ _ _ (.int v)) (fun ls hv => kk l E p e s m args below meth c C H locs hl hH ls hv)
theorem x_lload_n {i : Fin 4} {v : Int64} (hd : decode (mB j) pc = .ok (.lload_n i, 1)) (hg : gl lv (i : Nat) = some (.long v)) (kk : Wp R j Z k n (pc + 1) lv (.long v :: st) M top) : Wp R j Z k n pc lv st M top := by
  intro l E p e s m args below meth c C H locs hl hH ls hv
  exact lv_lload_n C.2.1 C.2.2.1 hd rfl (lh_at hv hg) (kk l E p e s m args below meth c C H locs hl hH ls hv)
theorem x_lload {i : Nat} {v : Int64} (hd : decode (mB j) pc = .ok (.lload i, 2)) (hg : gl lv i = some (.long v)) (kk : Wp R j Z k n (pc + 2) lv (.long v :: st) M top) : Wp R j Z k n pc lv st M top := by
  intro l E p e s m args below meth c C H locs hl hH ls hv
  exact lv_lload C.2.1 C.2.2.1 hd (lh_at hv hg) (kk l E p e s m args below meth c C H locs hl hH ls hv)
theorem x_lstore_n {i : Fin 4} {v : Int64} (hd : decode (mB j) pc = .ok (.lstore_n i, 1)) (hb : (i : Nat) + 1 < mL j) (kk : Wp R j Z k n (pc + 1) (st2 lv (i : Nat) (.long v)) st M top) : Wp R j Z k n pc lv (.long v :: st) M top := by
  intro l E p e s m args below meth c C H locs hl hH ls hv
  exact lv_lstore_n C.2.1 C.2.2.1 hd rfl hv hb (st2_map _ _ _ (.long v)) (fun ls hv => kk l E p e s m args below meth c C H locs hl hH ls hv)
theorem x_lstore {i : Nat} {v : Int64} (hd : decode (mB j) pc = .ok (.lstore i, 2)) (hb : (i : Nat) + 1 < mL j) (kk : Wp R j Z k n (pc + 2) (st2 lv i (.long v)) st M top) : Wp R j Z k n pc lv (.long v :: st) M top := by
  intro l E p e s m args below meth c C H locs hl hH ls hv
  exact lv_lstore C.2.1 C.2.2.1 hd hv hb (st2_map _ _ _ (.long v)) (fun ls hv => kk l E p e s m args below meth c C H locs hl hH ls hv)
theorem x_aload_n {i : Fin 4} {v : Nat} (hd : decode (mB j) pc = .ok (.aload_n i, 1)) (hg : gl lv (i : Nat) = some (.ref v)) (kk : Wp R j Z k n (pc + 1) lv (.ref v :: st) M top) : Wp R j Z k n pc lv st M top := by
  intro l E p e s m args below meth c C H locs hl hH ls hv
  exact lv_aload_n C.2.1 C.2.2.1 hd rfl (lh_at hv hg) (kk l E p e s m args below meth c C H locs hl hH ls hv)
theorem x_aload {i : Nat} {v : Nat} (hd : decode (mB j) pc = .ok (.aload i, 2)) (hg : gl lv i = some (.ref v)) (kk : Wp R j Z k n (pc + 2) lv (.ref v :: st) M top) : Wp R j Z k n pc lv st M top := by
  intro l E p e s m args below meth c C H locs hl hH ls hv
  exact lv_aload C.2.1 C.2.2.1 hd (lh_at hv hg) (kk l E p e s m args below meth c C H locs hl hH ls hv)
theorem x_astore_n {i : Fin 4} {v : Nat} (hd : decode (mB j) pc = .ok (.astore_n i, 1)) (hb : (i : Nat) < mL j) (kk : Wp R j Z k n (pc + 1) (st1 lv (i : Nat) (.ref v)) st M top) : Wp R j Z k n pc lv (.ref v :: st) M top := by
  intro l E p e s m args below meth c C H locs hl hH ls hv
  exact lv_astore_n C.2.1 C.2.2.1 hd rfl hv hb (st1_map _ _ _ (.ref v)) (fun ls hv => kk l E p e s m args below meth c C H locs hl hH ls hv)
theorem x_astore {i : Nat} {v : Nat} (hd : decode (mB j) pc = .ok (.astore i, 2)) (hb : (i : Nat) < mL j) (kk : Wp R j Z k n (pc + 2) (st1 lv i (.ref v)) st M top) : Wp R j Z k n pc lv (.ref v :: st) M top := by
  intro l E p e s m args below meth c C H locs hl hH ls hv
  exact lv_astore C.2.1 C.2.2.1 hd hv hb (st1_map _ _ _ (.ref v)) (fun ls hv => kk l E p e s m args below meth c C H locs hl hH ls hv)
theorem x_iinc {i : Nat} {z : Int} {v w : Int32} (hd : decode (mB j) pc = .ok (.iinc i z, 3)) (hb : i < mL j) (hg : gl lv i = some (.int v)) (hw : v + Int32.ofInt z = w) (kk : Wp R j Z k n (pc + 3) (st1 lv i (.int w)) st M top) : Wp R j Z k n pc lv st M top := by
  intro l E p e s m args below meth c C H locs hl hH ls hv
  obtain ⟨q, hq⟩ := List.getElem?_of_mem (List.mem_map.mpr ⟨(i, Value.int v), gl_mem hg, rfl⟩ : tvp (ea E) (i, .int v) ∈ lv.map (tvp (ea E)))
  exact lv_iinc C.2.1 C.2.2.1 hd hv (k := q) hq hw hb (st1_map _ _ _ (.int w)) (fun ls hv => kk l E p e s m args below meth c C H locs hl hH ls hv)
theorem x_iadd {x y : Int32} (hd : decode (mB j) pc = .ok (.iadd, 1))  (kk : Wp R j Z k n (pc + 1) lv (.int (x + y) :: st) M top) : Wp R j Z k n pc lv (.int y :: .int x :: st) M top := by
  intro l E p e s m args below meth c C H locs hl hH ls hv
  exact lv_iadd C.2.1 C.2.2.1 hd  (kk l E p e s m args below meth c C H locs hl hH ls hv)
theorem x_ladd {x y : Int64} (hd : decode (mB j) pc = .ok (.ladd, 1))  (kk : Wp R j Z k n (pc + 1) lv (.long (x + y) :: st) M top) : Wp R j Z k n pc lv (.long y :: .long x :: st) M top := by
  intro l E p e s m args below meth c C H locs hl hH ls hv
  exact lv_ladd C.2.1 C.2.2.1 hd  (kk l E p e s m args below meth c C H locs hl hH ls hv)
theorem x_isub {x y : Int32} (hd : decode (mB j) pc = .ok (.isub, 1))  (kk : Wp R j Z k n (pc + 1) lv (.int (x - y) :: st) M top) : Wp R j Z k n pc lv (.int y :: .int x :: st) M top := by
  intro l E p e s m args below meth c C H locs hl hH ls hv
  exact lv_isub C.2.1 C.2.2.1 hd  (kk l E p e s m args below meth c C H locs hl hH ls hv)
theorem x_lsub {x y : Int64} (hd : decode (mB j) pc = .ok (.lsub, 1))  (kk : Wp R j Z k n (pc + 1) lv (.long (x - y) :: st) M top) : Wp R j Z k n pc lv (.long y :: .long x :: st) M top := by
  intro l E p e s m args below meth c C H locs hl hH ls hv
  exact lv_lsub C.2.1 C.2.2.1 hd  (kk l E p e s m args below meth c C H locs hl hH ls hv)
theorem x_imul {x y : Int32} (hd : decode (mB j) pc = .ok (.imul, 1))  (kk : Wp R j Z k n (pc + 1) lv (.int (x * y) :: st) M top) : Wp R j Z k n pc lv (.int y :: .int x :: st) M top := by
  intro l E p e s m args below meth c C H locs hl hH ls hv
  exact lv_imul C.2.1 C.2.2.1 hd  (kk l E p e s m args below meth c C H locs hl hH ls hv)
theorem x_lmul {x y : Int64} (hd : decode (mB j) pc = .ok (.lmul, 1))  (kk : Wp R j Z k n (pc + 1) lv (.long (x * y) :: st) M top) : Wp R j Z k n pc lv (.long y :: .long x :: st) M top := by
  intro l E p e s m args below meth c C H locs hl hH ls hv
  exact lv_lmul C.2.1 C.2.2.1 hd  (kk l E p e s m args below meth c C H locs hl hH ls hv)
theorem x_iand {x y : Int32} (hd : decode (mB j) pc = .ok (.iand, 1))  (kk : Wp R j Z k n (pc + 1) lv (.int (x &&& y) :: st) M top) : Wp R j Z k n pc lv (.int y :: .int x :: st) M top := by
  intro l E p e s m args below meth c C H locs hl hH ls hv
  exact lv_iand C.2.1 C.2.2.1 hd  (kk l E p e s m args below meth c C H locs hl hH ls hv)
theorem x_land {x y : Int64} (hd : decode (mB j) pc = .ok (.land, 1))  (kk : Wp R j Z k n (pc + 1) lv (.long (x &&& y) :: st) M top) : Wp R j Z k n pc lv (.long y :: .long x :: st) M top := by
  intro l E p e s m args below meth c C H locs hl hH ls hv
  exact lv_land C.2.1 C.2.2.1 hd  (kk l E p e s m args below meth c C H locs hl hH ls hv)
theorem x_lor {x y : Int64} (hd : decode (mB j) pc = .ok (.lor, 1))  (kk : Wp R j Z k n (pc + 1) lv (.long (x ||| y) :: st) M top) : Wp R j Z k n pc lv (.long y :: .long x :: st) M top := by
  intro l E p e s m args below meth c C H locs hl hH ls hv
  exact lv_lor C.2.1 C.2.2.1 hd  (kk l E p e s m args below meth c C H locs hl hH ls hv)
theorem x_idiv {x y : Int32} (hd : decode (mB j) pc = .ok (.idiv, 1)) (hz : ¬ y = 0) (kk : Wp R j Z k n (pc + 1) lv (.int (x / y) :: st) M top) : Wp R j Z k n pc lv (.int y :: .int x :: st) M top := by
  intro l E p e s m args below meth c C H locs hl hH ls hv
  exact lv_idiv C.2.1 C.2.2.1 hd hz (kk l E p e s m args below meth c C H locs hl hH ls hv)
theorem x_irem {x y : Int32} (hd : decode (mB j) pc = .ok (.irem, 1)) (hz : ¬ y = 0) (kk : Wp R j Z k n (pc + 1) lv (.int (x - x / y * y) :: st) M top) : Wp R j Z k n pc lv (.int y :: .int x :: st) M top := by
  intro l E p e s m args below meth c C H locs hl hH ls hv
  exact lv_irem C.2.1 C.2.2.1 hd hz (kk l E p e s m args below meth c C H locs hl hH ls hv)
theorem x_ishl {x y : Int32} (hd : decode (mB j) pc = .ok (.ishl, 1))  (kk : Wp R j Z k n (pc + 1) lv (.int (x <<< (y &&& 31)) :: st) M top) : Wp R j Z k n pc lv (.int y :: .int x :: st) M top := by
  intro l E p e s m args below meth c C H locs hl hH ls hv
  exact lv_ishl C.2.1 C.2.2.1 hd  (kk l E p e s m args below meth c C H locs hl hH ls hv)
theorem x_ishr {x y : Int32} (hd : decode (mB j) pc = .ok (.ishr, 1))  (kk : Wp R j Z k n (pc + 1) lv (.int (x >>> (y &&& 31)) :: st) M top) : Wp R j Z k n pc lv (.int y :: .int x :: st) M top := by
  intro l E p e s m args below meth c C H locs hl hH ls hv
  exact lv_ishr C.2.1 C.2.2.1 hd  (kk l E p e s m args below meth c C H locs hl hH ls hv)
theorem x_iushr {x y : Int32} (hd : decode (mB j) pc = .ok (.iushr, 1))  (kk : Wp R j Z k n (pc + 1) lv (.int (x.toUInt32 >>> (y.toUInt32 &&& Int32.toUInt32 31)).toInt32 :: st) M top) : Wp R j Z k n pc lv (.int y :: .int x :: st) M top := by
  intro l E p e s m args below meth c C H locs hl hH ls hv
  exact lv_iushr C.2.1 C.2.2.1 hd rfl (kk l E p e s m args below meth c C H locs hl hH ls hv)
theorem x_lushr {x : Int64} {y : Int32} (hd : decode (mB j) pc = .ok (.lushr, 1))  (kk : Wp R j Z k n (pc + 1) lv (.long (x.toUInt64 >>> (y.toInt64.toUInt64 &&& Int64.toUInt64 63)).toInt64 :: st) M top) : Wp R j Z k n pc lv (.int y :: .long x :: st) M top := by
  intro l E p e s m args below meth c C H locs hl hH ls hv
  exact lv_lushr C.2.1 C.2.2.1 hd rfl (kk l E p e s m args below meth c C H locs hl hH ls hv)
theorem x_lshl {x : Int64} {y : Int32} (hd : decode (mB j) pc = .ok (.lshl, 1))  (kk : Wp R j Z k n (pc + 1) lv (.long (x <<< (y.toInt64 &&& 63)) :: st) M top) : Wp R j Z k n pc lv (.int y :: .long x :: st) M top := by
  intro l E p e s m args below meth c C H locs hl hH ls hv
  exact lv_lshl C.2.1 C.2.2.1 hd rfl (kk l E p e s m args below meth c C H locs hl hH ls hv)
theorem x_lneg {x : Int64} (hd : decode (mB j) pc = .ok (.lneg, 1))  (kk : Wp R j Z k n (pc + 1) lv (.long (-x) :: st) M top) : Wp R j Z k n pc lv (.long x :: st) M top := by
  intro l E p e s m args below meth c C H locs hl hH ls hv
  exact lv_lneg C.2.1 C.2.2.1 hd  (kk l E p e s m args below meth c C H locs hl hH ls hv)
theorem x_i2l {x : Int32} (hd : decode (mB j) pc = .ok (.i2l, 1))  (kk : Wp R j Z k n (pc + 1) lv (.long x.toInt64 :: st) M top) : Wp R j Z k n pc lv (.int x :: st) M top := by
  intro l E p e s m args below meth c C H locs hl hH ls hv
  exact lv_i2l C.2.1 C.2.2.1 hd rfl (kk l E p e s m args below meth c C H locs hl hH ls hv)
theorem x_l2i {x : Int64} (hd : decode (mB j) pc = .ok (.l2i, 1))  (kk : Wp R j Z k n (pc + 1) lv (.int x.toInt32 :: st) M top) : Wp R j Z k n pc lv (.long x :: st) M top := by
  intro l E p e s m args below meth c C H locs hl hH ls hv
  exact lv_l2i C.2.1 C.2.2.1 hd rfl (kk l E p e s m args below meth c C H locs hl hH ls hv)
theorem x_i2b {x : Int32} (hd : decode (mB j) pc = .ok (.i2b, 1))  (kk : Wp R j Z k n (pc + 1) lv (.int x.toInt8.toInt32 :: st) M top) : Wp R j Z k n pc lv (.int x :: st) M top := by
  intro l E p e s m args below meth c C H locs hl hH ls hv
  exact lv_i2b C.2.1 C.2.2.1 hd rfl (kk l E p e s m args below meth c C H locs hl hH ls hv)
theorem x_lcmp {x y : Int64} (hd : decode (mB j) pc = .ok (.lcmp, 1))  (kk : Wp R j Z k n (pc + 1) lv (.int (lg_cmp x y) :: st) M top) : Wp R j Z k n pc lv (.long y :: .long x :: st) M top := by
  intro l E p e s m args below meth c C H locs hl hH ls hv
  exact W.lcmp C.2.1 C.2.2.1 hd  (kk l E p e s m args below meth c C H locs hl hH ls hv)
theorem x_dup {v : Value} (hd : decode (mB j) pc = .ok (.dup, 1)) (hc : v.category = 1) (kk : Wp R j Z k n (pc + 1) lv (v :: v :: st) M top) : Wp R j Z k n pc lv (v :: st) M top := by
  intro l E p e s m args below meth c C H locs hl hH ls hv
  exact lv_dup C.2.1 C.2.2.1 hd ((tv_cat _ _).trans hc) (kk l E p e s m args below meth c C H locs hl hH ls hv)
theorem x_pop {v : Value} (hd : decode (mB j) pc = .ok (.pop, 1)) (hc : v.category = 1) (kk : Wp R j Z k n (pc + 1) lv st M top) : Wp R j Z k n pc lv (v :: st) M top := by
  intro l E p e s m args below meth c C H locs hl hH ls hv
  exact lv_pop C.2.1 C.2.2.1 hd ((tv_cat _ _).trans hc) (kk l E p e s m args below meth c C H locs hl hH ls hv)
theorem x_dup2 {v w : Value} (hd : decode (mB j) pc = .ok (.dup2, 1)) (hc : v.category = 1) (hc2 : w.category = 1) (kk : Wp R j Z k n (pc + 1) lv (v :: w :: v :: w :: st) M top) : Wp R j Z k n pc lv (v :: w :: st) M top := by
  intro l E p e s m args below meth c C H locs hl hH ls hv
  exact lv_dup2_11 C.2.1 C.2.2.1 hd ((tv_cat _ _).trans hc) ((tv_cat _ _).trans hc2) (kk l E p e s m args below meth c C H locs hl hH ls hv)
theorem x_if_eq {x : Int32} {off : Int} {tgt : Nat} (hd : decode (mB j) pc = .ok (.ifCond .eq off, 3)) (ht : (pc : Int) + off = (tgt : Int)) (kt : x = 0 → Wp R j Z k n tgt lv st M top) (kf : ¬ x = 0 → Wp R j Z k n (pc + 3) lv st M top) : Wp R j Z k n pc lv (.int x :: st) M top := by
  intro l E p e s m args below meth c C H locs hl hH ls hv
  exact lv_if_eq C.2.1 C.2.2.1 hd ht (fun h => kt h l E p e s m args below meth c C H locs hl hH ls hv) (fun h => kf h l E p e s m args below meth c C H locs hl hH ls hv)
theorem x_icmp_eq {x y : Int32} {off : Int} {tgt : Nat} (hd : decode (mB j) pc = .ok (.if_icmp .eq off, 3)) (ht : (pc : Int) + off = (tgt : Int)) (kt : x = y → Wp R j Z k n tgt lv st M top) (kf : ¬ x = y → Wp R j Z k n (pc + 3) lv st M top) : Wp R j Z k n pc lv (.int y :: .int x :: st) M top := by
  intro l E p e s m args below meth c C H locs hl hH ls hv
  exact lv_icmp_eq C.2.1 C.2.2.1 hd ht (fun h => kt h l E p e s m args below meth c C H locs hl hH ls hv) (fun h => kf h l E p e s m args below meth c C H locs hl hH ls hv)
theorem x_if_ne {x : Int32} {off : Int} {tgt : Nat} (hd : decode (mB j) pc = .ok (.ifCond .ne off, 3)) (ht : (pc : Int) + off = (tgt : Int)) (kt : ¬ x = 0 → Wp R j Z k n tgt lv st M top) (kf : x = 0 → Wp R j Z k n (pc + 3) lv st M top) : Wp R j Z k n pc lv (.int x :: st) M top := by
  intro l E p e s m args below meth c C H locs hl hH ls hv
  exact lv_if_ne C.2.1 C.2.2.1 hd ht (fun h => kt h l E p e s m args below meth c C H locs hl hH ls hv) (fun h => kf h l E p e s m args below meth c C H locs hl hH ls hv)
theorem x_icmp_ne {x y : Int32} {off : Int} {tgt : Nat} (hd : decode (mB j) pc = .ok (.if_icmp .ne off, 3)) (ht : (pc : Int) + off = (tgt : Int)) (kt : ¬ x = y → Wp R j Z k n tgt lv st M top) (kf : x = y → Wp R j Z k n (pc + 3) lv st M top) : Wp R j Z k n pc lv (.int y :: .int x :: st) M top := by
  intro l E p e s m args below meth c C H locs hl hH ls hv
  exact lv_icmp_ne C.2.1 C.2.2.1 hd ht (fun h => kt h l E p e s m args below meth c C H locs hl hH ls hv) (fun h => kf h l E p e s m args below meth c C H locs hl hH ls hv)
theorem x_if_lt {x : Int32} {off : Int} {tgt : Nat} (hd : decode (mB j) pc = .ok (.ifCond .lt off, 3)) (ht : (pc : Int) + off = (tgt : Int)) (kt : x < 0 → Wp R j Z k n tgt lv st M top) (kf : ¬ x < 0 → Wp R j Z k n (pc + 3) lv st M top) : Wp R j Z k n pc lv (.int x :: st) M top := by
  intro l E p e s m args below meth c C H locs hl hH ls hv
  exact lv_if_lt C.2.1 C.2.2.1 hd ht (fun h => kt h l E p e s m args below meth c C H locs hl hH ls hv) (fun h => kf h l E p e s m args below meth c C H locs hl hH ls hv)
theorem x_icmp_lt {x y : Int32} {off : Int} {tgt : Nat} (hd : decode (mB j) pc = .ok (.if_icmp .lt off, 3)) (ht : (pc : Int) + off = (tgt : Int)) (kt : x < y → Wp R j Z k n tgt lv st M top) (kf : ¬ x < y → Wp R j Z k n (pc + 3) lv st M top) : Wp R j Z k n pc lv (.int y :: .int x :: st) M top := by
  intro l E p e s m args below meth c C H locs hl hH ls hv
  exact lv_icmp_lt C.2.1 C.2.2.1 hd ht (fun h => kt h l E p e s m args below meth c C H locs hl hH ls hv) (fun h => kf h l E p e s m args below meth c C H locs hl hH ls hv)
theorem x_if_ge {x : Int32} {off : Int} {tgt : Nat} (hd : decode (mB j) pc = .ok (.ifCond .ge off, 3)) (ht : (pc : Int) + off = (tgt : Int)) (kt : 0 ≤ x → Wp R j Z k n tgt lv st M top) (kf : ¬ 0 ≤ x → Wp R j Z k n (pc + 3) lv st M top) : Wp R j Z k n pc lv (.int x :: st) M top := by
  intro l E p e s m args below meth c C H locs hl hH ls hv
  exact lv_if_ge C.2.1 C.2.2.1 hd ht (fun h => kt h l E p e s m args below meth c C H locs hl hH ls hv) (fun h => kf h l E p e s m args below meth c C H locs hl hH ls hv)
theorem x_icmp_ge {x y : Int32} {off : Int} {tgt : Nat} (hd : decode (mB j) pc = .ok (.if_icmp .ge off, 3)) (ht : (pc : Int) + off = (tgt : Int)) (kt : y ≤ x → Wp R j Z k n tgt lv st M top) (kf : ¬ y ≤ x → Wp R j Z k n (pc + 3) lv st M top) : Wp R j Z k n pc lv (.int y :: .int x :: st) M top := by
  intro l E p e s m args below meth c C H locs hl hH ls hv
  exact lv_icmp_ge C.2.1 C.2.2.1 hd ht (fun h => kt h l E p e s m args below meth c C H locs hl hH ls hv) (fun h => kf h l E p e s m args below meth c C H locs hl hH ls hv)
theorem x_if_gt {x : Int32} {off : Int} {tgt : Nat} (hd : decode (mB j) pc = .ok (.ifCond .gt off, 3)) (ht : (pc : Int) + off = (tgt : Int)) (kt : 0 < x → Wp R j Z k n tgt lv st M top) (kf : ¬ 0 < x → Wp R j Z k n (pc + 3) lv st M top) : Wp R j Z k n pc lv (.int x :: st) M top := by
  intro l E p e s m args below meth c C H locs hl hH ls hv
  exact lv_if_gt C.2.1 C.2.2.1 hd ht (fun h => kt h l E p e s m args below meth c C H locs hl hH ls hv) (fun h => kf h l E p e s m args below meth c C H locs hl hH ls hv)
theorem x_icmp_gt {x y : Int32} {off : Int} {tgt : Nat} (hd : decode (mB j) pc = .ok (.if_icmp .gt off, 3)) (ht : (pc : Int) + off = (tgt : Int)) (kt : y < x → Wp R j Z k n tgt lv st M top) (kf : ¬ y < x → Wp R j Z k n (pc + 3) lv st M top) : Wp R j Z k n pc lv (.int y :: .int x :: st) M top := by
  intro l E p e s m args below meth c C H locs hl hH ls hv
  exact lv_icmp_gt C.2.1 C.2.2.1 hd ht (fun h => kt h l E p e s m args below meth c C H locs hl hH ls hv) (fun h => kf h l E p e s m args below meth c C H locs hl hH ls hv)
theorem x_if_le {x : Int32} {off : Int} {tgt : Nat} (hd : decode (mB j) pc = .ok (.ifCond .le off, 3)) (ht : (pc : Int) + off = (tgt : Int)) (kt : x ≤ 0 → Wp R j Z k n tgt lv st M top) (kf : ¬ x ≤ 0 → Wp R j Z k n (pc + 3) lv st M top) : Wp R j Z k n pc lv (.int x :: st) M top := by
  intro l E p e s m args below meth c C H locs hl hH ls hv
  exact lv_if_le C.2.1 C.2.2.1 hd ht (fun h => kt h l E p e s m args below meth c C H locs hl hH ls hv) (fun h => kf h l E p e s m args below meth c C H locs hl hH ls hv)
theorem x_icmp_le {x y : Int32} {off : Int} {tgt : Nat} (hd : decode (mB j) pc = .ok (.if_icmp .le off, 3)) (ht : (pc : Int) + off = (tgt : Int)) (kt : x ≤ y → Wp R j Z k n tgt lv st M top) (kf : ¬ x ≤ y → Wp R j Z k n (pc + 3) lv st M top) : Wp R j Z k n pc lv (.int y :: .int x :: st) M top := by
  intro l E p e s m args below meth c C H locs hl hH ls hv
  exact lv_icmp_le C.2.1 C.2.2.1 hd ht (fun h => kt h l E p e s m args below meth c C H locs hl hH ls hv) (fun h => kf h l E p e s m args below meth c C H locs hl hH ls hv)
theorem x_goto {off : Int} {tgt : Nat} (hd : decode (mB j) pc = .ok (.goto off, 3)) (ht : (pc : Int) + off = (tgt : Int)) (kk : Wp R j Z k n tgt lv st M top) : Wp R j Z k n pc lv st M top := by
  intro l E p e s m args below meth c C H locs hl hH ls hv
  exact lv_goto C.2.1 C.2.2.1 hd ht (kk l E p e s m args below meth c C H locs hl hH ls hv)
theorem x_lookup {dflt : Int} {ps : Array (Int × Int)} {len : Nat} {x : Int32} {off : Int} {tgt : Nat} (hd : decode (mB j) pc = .ok (.lookupswitch dflt ps, len)) (hp0 : (ps.toList.zip (ps.toList.drop 1)).all (fun (a, next) => a.1 < next.1) = true) (ho : Op.lookupswitch.offset ps.toList dflt x.toInt = off) (ht : (pc : Int) + off = (tgt : Int)) (kk : Wp R j Z k n tgt lv st M top) : Wp R j Z k n pc lv (.int x :: st) M top := by
  intro l E p e s m args below meth c C H locs hl hH ls hv
  exact lv_lookup C.2.1 C.2.2.1 hd hp0 ho ht (kk l E p e s m args below meth c C H locs hl hH ls hv)
theorem x_tableOut {dflt lo hi : Int} {offs : Array Int} {len : Nat} {x : Int32} {tgt : Nat} (hd : decode (mB j) pc = .ok (.tableswitch dflt lo hi offs, len)) (h0 : x.toInt < lo ∨ hi < x.toInt) (ht : (pc : Int) + dflt = (tgt : Int)) (kk : Wp R j Z k n tgt lv st M top) : Wp R j Z k n pc lv (.int x :: st) M top := by
  intro l E p e s m args below meth c C H locs hl hH ls hv
  exact lv_tableOut C.2.1 C.2.2.1 hd h0 ht (kk l E p e s m args below meth c C H locs hl hH ls hv)
theorem x_tableIn {dflt lo hi : Int} {offs : Array Int} {len : Nat} {x : Int32} {off : Int} {tgt : Nat} (hd : decode (mB j) pc = .ok (.tableswitch dflt lo hi offs, len)) (h1 : ¬ x.toInt < lo) (h2 : ¬ hi < x.toInt) (ho : offs[(x.toInt - lo).toNat]? = some off) (ht : (pc : Int) + off = (tgt : Int)) (kk : Wp R j Z k n tgt lv st M top) : Wp R j Z k n pc lv (.int x :: st) M top := by
  intro l E p e s m args below meth c C H locs hl hH ls hv
  exact lv_tableIn C.2.1 C.2.2.1 hd h1 h2 ho ht (kk l E p e s m args below meth c C H locs hl hH ls hv)
theorem x_ldc {idx : Nat} {v : Int32} (hw : Cond.constant (mY j).cls idx v ∈ gw) (hd : decode (mB j) pc = .ok (.ldc idx, 2)) (kk : Wp R j Z k n (pc + 2) lv (.int v :: st) M top) : Wp R j Z k n pc lv st M top := by
  intro l E p e s m args below meth c C H locs hl hH ls hv
  exact lv_ldc C.2.1 C.2.2.1 C.2.2.2.2.2.1 (C.2.2.2.2.2.2.1 _ hw) hd (kk l E p e s m args below meth c C H locs hl hH ls hv)
theorem x_ldc2 {idx : Nat} {v : Int64} (hw : Cond.constantLong (mY j).cls idx v ∈ gw) (hd : decode (mB j) pc = .ok (.ldc2_w idx, 3)) (kk : Wp R j Z k n (pc + 3) lv (.long v :: st) M top) : Wp R j Z k n pc lv st M top := by
  intro l E p e s m args below meth c C H locs hl hH ls hv
  exact lv_ldc2 C.2.1 C.2.2.1 C.2.2.2.2.2.1 (C.2.2.2.2.2.2.1 _ hw) hd (kk l E p e s m args below meth c C H locs hl hH ls hv)
/-- a class of the list -/
theorem cl_get {ci : Nat} (h : ci < 10) : (classes : List vw_C)[ci]? = some (clS ci, clT ci, clN ci) := by
  match ci, h with
  | 0, _ => rfl
  | 1, _ => rfl
  | 2, _ => rfl
  | 3, _ => rfl
  | 4, _ => rfl
  | 5, _ => rfl
  | 6, _ => rfl
  | 7, _ => rfl
  | 8, _ => rfl
  | 9, _ => rfl
theorem cl_ws {ci : Nat} (h : ci < 10) : ∀ w ∈ u_ws (clS ci) (clT ci) (clN ci), w ∈ gw := by
  match ci, h with
  | 0, _ => exact fW0
  | 1, _ => exact fW1
  | 2, _ => exact fW2
  | 3, _ => exact fW3
  | 4, _ => exact fW4
  | 5, _ => exact fW5
  | 6, _ => exact fW6
  | 7, _ => exact fW7
  | 8, _ => exact fW8
  | 9, _ => exact fW9
theorem cl_ty {ci : Nat} (h : ci < 10) : ∀ k, k < clN ci → parseFieldDescriptor (clT ci k).2.2.1 = some (clY ci k) := by
  match ci, h with
  | 0, _ => exact fO0
  | 1, _ => exact fO1
  | 2, _ => exact fO2
  | 3, _ => exact fO3
  | 4, _ => exact fO4
  | 5, _ => exact fO5
  | 6, _ => exact fO6
  | 7, _ => exact fO7
  | 8, _ => exact fO8
  | 9, _ => exact fO9
theorem cl_nm {ci : Nat} (h : ci < 10) : ∀ a, a < clN ci → ∀ b, b < clN ci → a ≠ b → (clT ci a).2.1 ≠ (clT ci b).2.1 := by
  match ci, h with
  | 0, _ => exact fN0
  | 1, _ => exact fN1
  | 2, _ => exact fN2
  | 3, _ => exact fN3
  | 4, _ => exact fN4
  | 5, _ => exact fN5
  | 6, _ => exact fN6
  | 7, _ => exact fN7
  | 8, _ => exact fN8
  | 9, _ => exact fN9
theorem x_getf {a ci f idx : Nat} {fs : List Value} {v : Value} (hd : decode (mB j) pc = .ok (.getfield idx, 3)) (hw : Cond.fieldLink (mY j).cls idx (clT ci f).1 (clT ci f).2.1 (clT ci f).2.2.1 ∈ gw) (hci : ci < 10) (hf : f < clN ci) (ha : 3 ≤ a ∧ a < top) (hm : M a = .inr (ci, fs)) (hfv : fs[f]? = some v) (kk : Wp R j Z k n (pc + 3) lv (v :: st) M top) : Wp R j Z k n pc lv (.ref a :: st) M top := by
  intro l E p e s m args below meth c C H locs hl hH ls hv
  have hg := wl_get (E := E) (M := M) ha.1 ha.2
  rw [hm] at hg
  exact va_get (D := eD E) (C := clS ci) (T := clT ci) (N := clN ci) C.2.1 C.2.2.1 C.2.2.2.2.2.2.1 (cl_ws hci) C.2.2.2.2.2.1 C.2.2.2.2.2.2.2.2.2.1.1 hH.1 (a - 3) hg (cl_get hci) f hf (C.2.2.2.2.2.2.1 _ hw) (fun _ h9 => h9) (by rw [List.getElem?_map, hfv]; rfl) hd (kk l E p e s m args below meth c C H locs hl hH ls hv)
theorem tv_ref {ty : FieldType} {i q : Nat} (h : narrow ty (.ref i) = .ref i ∧ fits ty (.ref i) = true) : narrow ty (.ref q) = .ref q ∧ fits ty (.ref q) = true := by
  obtain ⟨h1, h2⟩ := h
  cases ty <;> first | exact ⟨rfl, rfl⟩ | (simp [fits] at h2)
theorem tv_fit {ty : FieldType} {v : Value} (ad : Nat → Nat) (h : narrow ty v = v ∧ fits ty v = true) : narrow ty (tv ad v) = tv ad v ∧ fits ty (tv ad v) = true := by
  cases v with
  | ref i => exact tv_ref h
  | _ => exact h
theorem loc_add {E : En} {locs : List Loc} {a i : Nat} (hl : ∀ q ∈ locs, eS E ≤ q.base) (ha : eS E ≤ a) : ∀ q ∈ locs ++ [(⟨a, i⟩ : Loc)], eS E ≤ q.base := by
  intro q hq
  rcases List.mem_append.mp hq with h | h
  · exact hl q h
  · rw [List.mem_singleton.mp h]; exact ha
theorem ea_ge {E : En} (hE : eOK E) {a : Nat} (h : 3 ≤ a) : eS E ≤ ea E a := by have := hE.1 a h; omega
theorem hp_put {E : En} (hE : eOK E) {M : Me} {top a : Nat} {H H1 : Heap} (h1 : 3 ≤ a) (h2 : a < top) (h : hp E M top H) {c : Ce} (he : va_at (eD E) classes (ea E a, tc (eA E) (ea E) c) H1) (z : H1.size = H.size) (oq : ∀ q : Nat, q ≠ ea E a → H1[q]? = H[q]?) : hp E (va_up M a c) top H1 := by
  have hP := h.1.set (wl_D hE M top) (wl_get h1 h2) he oq
  rw [wl_set h1 rfl] at hP
  refine ⟨hP, ⟨h.2.1.1, by rw [z]; exact h.2.1.2⟩, fun q hq => ?_⟩
  rw [oq q (fun e0 => by have := ea_ge hE h1; omega)]
  exact h.2.2 q hq
theorem hp_push {E : En} (hE : eOK E) {M : Me} {top : Nat} {H H1 : Heap} (h : hp E M top H) {c : Ce} (he : va_at (eD E) classes (H.size, tc (eA E) (ea E) c) H1) (z : H1.size = H.size + 1) (oq : ∀ q : Nat, q < H.size → H1[q]? = H[q]?) : hp E (va_up M top c) (top + 1) H1 ∧ ea E top = H.size := by
  have ht := h.2.1
  have e0 : ea E top = H.size := by have := hE.1 top ht.1; omega
  refine ⟨⟨fun q x hx => ?_, ⟨by omega, by omega⟩, fun q hq => ?_⟩, e0⟩
  · obtain ⟨h1, rfl⟩ := wl_at hx
    by_cases hq : q + 3 = top
    · rw [hq, va_up_self, e0]; exact he
    · have h2 := h.1 q _ (by have := wl_get (E := E) (M := M) (top := top) (a := q + 3) (by omega) (by omega); rw [Nat.add_sub_cancel] at this; exact this)
      rw [va_up_ne _ _ hq]
      exact h2.kept (oq _ h2.lt)
  · rw [oq q (by omega)]; exact h.2.2 q hq
theorem x_putf {a ci f idx : Nat} {fs : List Value} {v : Value} (hd : decode (mB j) pc = .ok (.putfield idx, 3)) (hw : Cond.fieldLink (mY j).cls idx (clT ci f).1 (clT ci f).2.1 (clT ci f).2.2.1 ∈ gw) (hci : ci < 10) (hf : f < clN ci) (hfin : (clT ci f).2.2.2 = false) (ha : 3 ≤ a ∧ a < top) (hm : M a = .inr (ci, fs)) (hn : narrow (clY ci f) v = v ∧ fits (clY ci f) v = true) (hlen : f < fs.length) (kk : Wp R j Z k n (pc + 3) lv st (va_up M a (.inr (ci, fs.set f v))) top) : Wp R j Z k n pc lv (v :: .ref a :: st) M top := by
  intro l E p e s m args below meth c C H locs hl hH ls hv
  have hg := wl_get (E := E) (M := M) ha.1 ha.2
  rw [hm] at hg
  have hK := C.2.2.2.2.2.2.2.2.2.1.1
  have hts := C.2.2.2.2.2.2.1
  have hn2 := tv_fit (ea E) hn
  have hap := va_apart (own := (mY j).cls) hts (cl_ws hci) (clY ci) (cl_ty hci) (cl_nm hci) hK (cl_get hci)
  obtain ⟨r, hr1, cell, q1, q2, q3, q4⟩ := hH.1 (a - 3) _ hg
  have hr : r = (clS ci, clT ci, clN ci) := Option.some.inj (hr1.symm.trans (cl_get hci))
  subst hr
  obtain ⟨hSl, hfc, kC, hkC, hkind⟩ := hK.1 ci _ (cl_get hci)
  obtain ⟨cf, kf, fi, f0, hi, hsl⟩ := hSl f hf
  have hlay := hts _ (cl_ws hci _ (u_in_lay hf))
  unfold u_lay at hlay
  rw [if_neg (by rw [hfin]; decide)] at hlay
  have hst := (u_facts hfc hkC (u_lays hts (cl_ws hci) hf) hi).1
  have h6 := u_store hfc hkC hkind hlay hi (cl_ty hci f hf) hn2.1 hn2.2
  refine W.putK C.2.1 C.2.2.1 (f := f0) ⟨C.2.2.2.2.2.1, hts _ hw, ⟨_, _, _, hi⟩, hst⟩ (by rw [q2]; exact h6) q1 q3 (by rw [hsl]; exact k2_hasslot (q4 f hf)) rfl rfl hd fun H1 e1 e2 e3 => ?_
  rw [hsl] at e1
  refine kk l E p e s m args below meth c C H1 _ (loc_add hl (ea_ge C.1 ha.1)) (hp_put C.1 ha.1 ha.2 hH ⟨_, cl_get hci, t_OB.to (V := updV (vp_V (fs.map (tv (ea E)))) f (tv (ea E) v)) ⟨_, e1, q2, q3, t_set q4 hap hf _⟩ (fun z _ => ?_)⟩ e2 e3) ls hv
  rw [vp_updV_set (by simpa using hlen), ← List.map_set]
theorem x_putF {a ci f idx : Nat} {fs : List Value} {v : Value} (hd : decode (mB j) pc = .ok (.putfield idx, 3)) (hw : Cond.fieldLink (mY j).cls idx (clT ci f).1 (clT ci f).2.1 (clT ci f).2.2.1 ∈ gw) (hci : ci < 10) (hf : f < clN ci) (hfin : (clT ci f).2.2.2 = true) (hini : (mY j).name = "<init>") (hdec : (clT ci f).1 = (mY j).cls) (ha : 3 ≤ a ∧ a < top) (hm : M a = .inr (ci, fs)) (hn : narrow (clY ci f) v = v ∧ fits (clY ci f) v = true) (hlen : f < fs.length) (kk : Wp R j Z k n (pc + 3) lv st (va_up M a (.inr (ci, fs.set f v))) top) : Wp R j Z k n pc lv (v :: .ref a :: st) M top := by
  intro l E p e s m args below meth c C H locs hl hH ls hv
  have hg := wl_get (E := E) (M := M) ha.1 ha.2
  rw [hm] at hg
  have hK := C.2.2.2.2.2.2.2.2.2.1.1
  have hts := C.2.2.2.2.2.2.1
  have hown := C.2.2.2.2.2.1
  have hn2 := tv_fit (ea E) hn
  have hap := va_apart (own := (mY j).cls) hts (cl_ws hci) (clY ci) (cl_ty hci) (cl_nm hci) hK (cl_get hci)
  obtain ⟨r, hr1, cell, q1, q2, q3, q4⟩ := hH.1 (a - 3) _ hg
  have hr : r = (clS ci, clT ci, clN ci) := Option.some.inj (hr1.symm.trans (cl_get hci))
  subst hr
  obtain ⟨hSl, hfc, kC, hkC, hkind⟩ := hK.1 ci _ (cl_get hci)
  obtain ⟨cf, kf, fi, f0, hi, hsl⟩ := hSl f hf
  have hlay := hts _ (cl_ws hci _ (u_in_lay hf))
  unfold u_lay at hlay
  rw [if_pos hfin] at hlay
  have hst := (u_facts hfc hkC (u_lays hts (cl_ws hci) hf) hi).1
  have hcf : m.cls = cf := by
    obtain ⟨_, _, c', _, _, _, -, -, hf', -, -, -, hown2, -⟩ := Cond.laysFinal_spec hlay
    have e1 : c' = cf := by have := hi.symm.trans hf'; simp at this; exact this.1.symm
    rw [hdec] at hown2
    rw [← e1]; exact Option.some.inj (hown.symm.trans hown2)
  have h6 := u_fits hfc hkC hkind (Or.inr hlay) hi (cl_ty hci f hf) hn2.1 hn2.2
  refine W.putFinK C.2.1 C.2.2.1 hown (hts _ hw) hi hst hcf (C.2.2.2.2.2.2.2.2.1 hini) (by rw [q2]; exact h6) q1 q3 (by rw [hsl]; exact k2_hasslot (q4 f hf)) rfl rfl hd fun H1 e1 e2 e3 => ?_
  rw [hsl] at e1
  refine kk l E p e s m args below meth c C H1 _ (loc_add hl (ea_ge C.1 ha.1)) (hp_put C.1 ha.1 ha.2 hH ⟨_, cl_get hci, t_OB.to (V := updV (vp_V (fs.map (tv (ea E)))) f (tv (ea E) v)) ⟨_, e1, q2, q3, t_set q4 hap hf _⟩ (fun z _ => ?_)⟩ e2 e3) ls hv
  rw [vp_updV_set (by simpa using hlen), ← List.map_set]
theorem x_iald {a N : Nat} {f : Nat → Int32} {i : Int32} (hd : decode (mB j) pc = .ok (.iaload, 1)) (ha : 3 ≤ a ∧ a < top) (hm : M a = .inl (0, N, .inl f)) (hi : vp_in i N) (kk : Wp R j Z k n (pc + 1) lv (.int (f i.toNatClampNeg) :: st) M top) : Wp R j Z k n pc lv (.int i :: .ref a :: st) M top := by
  intro l E p e s m args below meth c C H locs hl hH ls hv
  have hg := wl_get (E := E) (M := M) ha.1 ha.2
  rw [hm] at hg
  exact va_iald C.2.1 C.2.2.1 C.2.2.2.2.2.2.2.2.2.1.1 hH.1 (a - 3) 0 hg (tyl_get E (by decide)) hi hd (kk l E p e s m args below meth c C H locs hl hH ls hv)
theorem x_lald {a N : Nat} {f : Nat → Int64} {i : Int32} (hd : decode (mB j) pc = .ok (.laload, 1)) (ha : 3 ≤ a ∧ a < top) (hm : M a = .inl (1, N, .inr (.inl f))) (hi : vp_in i N) (kk : Wp R j Z k n (pc + 1) lv (.long (f i.toNatClampNeg) :: st) M top) : Wp R j Z k n pc lv (.int i :: .ref a :: st) M top := by
  intro l E p e s m args below meth c C H locs hl hH ls hv
  have hg := wl_get (E := E) (M := M) ha.1 ha.2
  rw [hm] at hg
  exact va_lald C.2.1 C.2.2.1 C.2.2.2.2.2.2.2.2.2.1.1 hH.1 (a - 3) 1 hg (tyl_get E (by decide)) hi hd (kk l E p e s m args below meth c C H locs hl hH ls hv)
theorem x_zald {a N : Nat} {f : Nat → Int32} {i : Int32} (hd : decode (mB j) pc = .ok (.baload, 1)) (ha : 3 ≤ a ∧ a < top) (hm : M a = .inl (2, N, .inl f)) (hi : vp_in i N) (kk : Wp R j Z k n (pc + 1) lv (.int (f i.toNatClampNeg) :: st) M top) : Wp R j Z k n pc lv (.int i :: .ref a :: st) M top := by
  intro l E p e s m args below meth c C H locs hl hH ls hv
  have hg := wl_get (E := E) (M := M) ha.1 ha.2
  rw [hm] at hg
  exact va_zald C.2.1 C.2.2.1 C.2.2.2.2.2.2.2.2.2.1.1 hH.1 (a - 3) 2 hg (tyl_get E (by decide)) hi hd (kk l E p e s m args below meth c C H locs hl hH ls hv)
theorem x_bald {a N : Nat} {f : Nat → Int32} {i : Int32} (hd : decode (mB j) pc = .ok (.baload, 1)) (ha : 3 ≤ a ∧ a < top) (hm : M a = .inl (3, N, .inl f)) (hi : vp_in i N) (kk : Wp R j Z k n (pc + 1) lv (.int (f i.toNatClampNeg) :: st) M top) : Wp R j Z k n pc lv (.int i :: .ref a :: st) M top := by
  intro l E p e s m args below meth c C H locs hl hH ls hv
  have hg := wl_get (E := E) (M := M) ha.1 ha.2
  rw [hm] at hg
  exact va_bald C.2.1 C.2.2.1 C.2.2.2.2.2.2.2.2.2.1.1 hH.1 (a - 3) 3 hg (tyl_get E (by decide)) hi hd (kk l E p e s m args below meth c C H locs hl hH ls hv)
theorem tv_rf (ad : Nat → Nat) (o : Option Nat) : tv ad (va_rf o) = va_rf (o.map ad) := by cases o <;> rfl
theorem x_aald {a N t : Nat} {f : Nat → Option Nat} {i : Int32} (ht : 4 ≤ t ∧ t < 7) (hd : decode (mB j) pc = .ok (.aaload, 1)) (ha : 3 ≤ a ∧ a < top) (hm : M a = .inl (t, N, .inr (.inr (.inr (.inr f))))) (hi : vp_in i N) (kk : Wp R j Z k n (pc + 1) lv (va_rf (f i.toNatClampNeg) :: st) M top) : Wp R j Z k n pc lv (.int i :: .ref a :: st) M top := by
  intro l E p e s m args below meth c C H locs hl hH ls hv
  have hg := wl_get (E := E) (M := M) ha.1 ha.2
  rw [hm] at hg
  have hq : ∃ C0 : String, tyO t = .object C0 := by
    obtain ⟨h1, h2⟩ := ht
    rcases (by omega : t = 4 ∨ t = 5 ∨ t = 6) with rfl | rfl | rfl <;> exact ⟨_, rfl⟩
  obtain ⟨C0, hC0⟩ := hq
  have ht2 := tyl_get E ht.2
  rw [hC0] at ht2
  have hk := kk l E p e s m args below meth c C H locs hl hH ls hv
  rw [List.map_cons, tv_rf] at hk
  exact va_aldq C.2.1 C.2.2.1 C.2.2.2.2.2.2.2.2.2.1.1 hH.1 (a - 3) t hg ht2 hi hd hk
theorem x_iast {a N : Nat} {f : Nat → Int32} {i : Int32} {v : Int32} (hd : decode (mB j) pc = .ok (.iastore, 1)) (ha : 3 ≤ a ∧ a < top) (hm : M a = .inl (0, N, .inl f)) (hi : vp_in i N) (kk : Wp R j Z k n (pc + 1) lv st (va_up M a (.inl (0, N, .inl (upd f i.toNatClampNeg v)))) top) : Wp R j Z k n pc lv (.int v :: .int i :: .ref a :: st) M top := by
  intro l E p e s m args below meth c C H locs hl hH ls hv
  have hg := wl_get (E := E) (M := M) ha.1 ha.2
  rw [hm] at hg
  refine W.iast C.2.1 C.2.2.1 (hH.1 (a - 3) _ hg) ((C.2.2.2.2.2.2.2.2.2.1.1.2 0 _ (tyl_get E (by decide))).1 N (fun q => .int (f q))) (fun q => by cases q) (by show ¬ (i < 0 ∨ (arrV _ _ _).slots.size ≤ _); rw [arrV_size]; exact hi) rfl rfl hd fun H1 e1 z1 oq => ?_
  refine kk l E p e s m args below meth c C H1 _ (loc_add hl (ea_ge C.1 ha.1)) (hp_put C.1 ha.1 ha.2 hH ?_ z1 oq) ls hv
  show H1[ea E a]? = some (vp_cell (eA E 0) (N, .inl (upd f i.toNatClampNeg v)))
  rw [e1]
  show some ((vp_cell (eA E 0) (N, .inl f)).setSlot _ _) = _
  rw [vp_cell_i, vp_cell_i, arrV_store]
  congr 2
  funext q
  by_cases hq : q = i.toNatClampNeg
  · subst hq
    simp [updV, upd]
    try rfl
  · simp [updV, upd, hq]
theorem x_zast {a N : Nat} {f : Nat → Int32} {i : Int32} {v : Int32} (hd : decode (mB j) pc = .ok (.bastore, 1)) (ha : 3 ≤ a ∧ a < top) (hm : M a = .inl (2, N, .inl f)) (hi : vp_in i N) (kk : Wp R j Z k n (pc + 1) lv st (va_up M a (.inl (2, N, .inl (upd f i.toNatClampNeg (vp_nar .boolean v))))) top) : Wp R j Z k n pc lv (.int v :: .int i :: .ref a :: st) M top := by
  intro l E p e s m args below meth c C H locs hl hH ls hv
  have hg := wl_get (E := E) (M := M) ha.1 ha.2
  rw [hm] at hg
  refine W.zast C.2.1 C.2.2.1 (hH.1 (a - 3) _ hg) ((C.2.2.2.2.2.2.2.2.2.1.1.2 2 _ (tyl_get E (by decide))).1 N (fun q => .int (f q))) (fun q => by cases q) (by show ¬ (i < 0 ∨ (arrV _ _ _).slots.size ≤ _); rw [arrV_size]; exact hi) rfl rfl hd fun H1 e1 z1 oq => ?_
  refine kk l E p e s m args below meth c C H1 _ (loc_add hl (ea_ge C.1 ha.1)) (hp_put C.1 ha.1 ha.2 hH ?_ z1 oq) ls hv
  show H1[ea E a]? = some (vp_cell (eA E 2) (N, .inl (upd f i.toNatClampNeg (vp_nar .boolean v))))
  rw [e1]
  show some ((vp_cell (eA E 2) (N, .inl f)).setSlot _ _) = _
  rw [vp_cell_i, vp_cell_i, arrV_store]
  congr 2
  funext q
  by_cases hq : q = i.toNatClampNeg
  · subst hq
    simp [updV, upd, vp_nar]
    try rfl
  · simp [updV, upd, hq]
theorem x_bast {a N : Nat} {f : Nat → Int32} {i : Int32} {v : Int32} (hd : decode (mB j) pc = .ok (.bastore, 1)) (ha : 3 ≤ a ∧ a < top) (hm : M a = .inl (3, N, .inl f)) (hi : vp_in i N) (kk : Wp R j Z k n (pc + 1) lv st (va_up M a (.inl (3, N, .inl (upd f i.toNatClampNeg (vp_nar .byte v))))) top) : Wp R j Z k n pc lv (.int v :: .int i :: .ref a :: st) M top := by
  intro l E p e s m args below meth c C H locs hl hH ls hv
  have hg := wl_get (E := E) (M := M) ha.1 ha.2
  rw [hm] at hg
  refine W.bast C.2.1 C.2.2.1 (hH.1 (a - 3) _ hg) ((C.2.2.2.2.2.2.2.2.2.1.1.2 3 _ (tyl_get E (by decide))).1 N (fun q => .int (f q))) (fun q => by cases q) (by show ¬ (i < 0 ∨ (arrV _ _ _).slots.size ≤ _); rw [arrV_size]; exact hi) rfl rfl hd fun H1 e1 z1 oq => ?_
  refine kk l E p e s m args below meth c C H1 _ (loc_add hl (ea_ge C.1 ha.1)) (hp_put C.1 ha.1 ha.2 hH ?_ z1 oq) ls hv
  show H1[ea E a]? = some (vp_cell (eA E 3) (N, .inl (upd f i.toNatClampNeg (vp_nar .byte v))))
  rw [e1]
  show some ((vp_cell (eA E 3) (N, .inl f)).setSlot _ _) = _
  rw [vp_cell_i, vp_cell_i, arrV_store]
  congr 2
  funext q
  by_cases hq : q = i.toNatClampNeg
  · subst hq
    simp [updV, upd, vp_nar]
    try rfl
  · simp [updV, upd, hq]
theorem x_last {a N : Nat} {f : Nat → Int64} {i : Int32} {v : Int64} (hd : decode (mB j) pc = .ok (.lastore, 1)) (ha : 3 ≤ a ∧ a < top) (hm : M a = .inl (1, N, .inr (.inl f))) (hi : vp_in i N) (kk : Wp R j Z k n (pc + 1) lv st (va_up M a (.inl (1, N, .inr (.inl (vp_updL f i.toNatClampNeg v))))) top) : Wp R j Z k n pc lv (.long v :: .int i :: .ref a :: st) M top := by
  intro l E p e s m args below meth c C H locs hl hH ls hv
  have hg := wl_get (E := E) (M := M) ha.1 ha.2
  rw [hm] at hg
  refine W.last C.2.1 C.2.2.1 (hH.1 (a - 3) _ hg) ((C.2.2.2.2.2.2.2.2.2.1.1.2 1 _ (tyl_get E (by decide))).1 N (fun q => .long (f q))) (fun q => by cases q) (by show ¬ (i < 0 ∨ (arrV _ _ _).slots.size ≤ _); rw [arrV_size]; exact hi) rfl rfl hd fun H1 e1 z1 oq => ?_
  refine kk l E p e s m args below meth c C H1 _ (loc_add hl (ea_ge C.1 ha.1)) (hp_put C.1 ha.1 ha.2 hH ?_ z1 oq) ls hv
  show H1[ea E a]? = some (vp_cell (eA E 1) (N, .inr (.inl (vp_updL f i.toNatClampNeg v))))
  rw [e1]
  show some ((vp_cell (eA E 1) (N, .inr (.inl f))).setSlot _ _) = _
  rw [vp_cell_l, vp_cell_l, arrV_store]
  congr 2
  funext q
  by_cases hq : q = i.toNatClampNeg
  · subst hq
    simp [updV, vp_updL]
    try rfl
  · simp [updV, vp_updL, hq]
theorem x_aast {a N t ci v : Nat} {f : Nat → Option Nat} {fs : List Value} {i : Int32} (ht : t < 7) (htc : tyO t = .object (clS ci)) (hci : ci < 10) (hd : decode (mB j) pc = .ok (.aastore, 1)) (ha : 3 ≤ a ∧ a < top) (hm : M a = .inl (t, N, .inr (.inr (.inr (.inr f))))) (hv0 : 3 ≤ v ∧ v < top) (hmv : M v = .inr (ci, fs)) (hi : vp_in i N) (kk : Wp R j Z k n (pc + 1) lv st (va_up M a (.inl (t, N, .inr (.inr (.inr (.inr (va_up f i.toNatClampNeg (some v)))))))) top) : Wp R j Z k n pc lv (.ref v :: .int i :: .ref a :: st) M top := by
  intro l E p e s m args below meth c C H locs hl hH ls hv
  have hg := wl_get (E := E) (M := M) ha.1 ha.2
  rw [hm] at hg
  have hgv := wl_get (E := E) (M := M) hv0.1 hv0.2
  rw [hmv] at hgv
  have hK := C.2.2.2.2.2.2.2.2.2.1.1
  have ht2 := tyl_get E ht
  rw [htc] at ht2
  have hlt : i.toNatClampNeg < N := Nat.not_le.mp fun q => hi (Or.inr q)
  have h0 : ¬ i < 0 := fun q => hi (Or.inl q)
  obtain ⟨r', hr', cellV, g1, g2, g3, -⟩ := hH.1 (v - 3) _ hgv
  have hcls := (hK.1 ci _ (cl_get hci)).2
  obtain ⟨kA, comp, k1, k2, k3, -⟩ := (hK.2 t _ ht2).2
  have hcomp : comp = (eD E).1 ci := Option.some.inj (k3.symm.trans hcls.1)
  subst hcomp
  obtain ⟨kC, hkC, -⟩ := hcls.2
  refine W.aast C.2.1 C.2.2.1 (hH.1 (a - 3) _ hg) (fun q h => by cases h) (fun h => by cases h) k1 k2 rfl hkC ⟨h0, by show _ < (arrV _ _ _).slots.size; rw [arrV_size]; exact hlt⟩ g1 (fun q h => by rw [g3] at h; cases h) (by rw [g2]; exact hkC) (by rw [g2]; exact va_assign hcls) rfl rfl hd fun H1 e1 z1 oq => ?_
  refine kk l E p e s m args below meth c C H1 _ (loc_add hl (ea_ge C.1 ha.1)) (hp_put C.1 ha.1 ha.2 hH ?_ z1 oq) ls hv
  show H1[ea E a]? = some (vp_cell (eA E t) (N, .inr (.inr (.inr (.inr (fun q => (va_up f i.toNatClampNeg (some v) q).map (ea E)))))))
  rw [e1]
  show some ((vp_cell (eA E t) (N, .inr (.inr (.inr (.inr (fun q => (f q).map (ea E))))))).setSlot _ _) = _
  rw [vp_cell_q, vp_cell_q, arrV_store]
  congr 2
  funext q
  by_cases hq : q = i.toNatClampNeg
  · subst hq
    simp [updV, va_up, va_rf]
  · simp [updV, va_up, hq]
end XR
