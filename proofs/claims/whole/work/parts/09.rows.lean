/-! rows with places as natural numbers; the rows of a THREAD -/
section NR
variable {R : Room} {j : Nat} {Z : Zt} {k n pc : Nat} {lv lv' : List (Nat × Value)} {st : List Value} {s : St} {M : Me} {top : Nat}
def lvs : List (Nat × Value) → List (Nat × Value) → Prop
  | [], _ => True
  | q :: l, lv => gl lv q.1 = some q.2 ∧ lvs l lv
theorem lvs_mem {lv lv' : List (Nat × Value)} (h : lvs lv' lv) : ∀ q ∈ lv', q ∈ lv := by
  induction lv' with
  | nil => intro q hq; cases hq
  | cons a l ih =>
    intro q hq
    rcases List.mem_cons.mp hq with rfl | hq
    · exact gl_mem h.1
    · exact ih h.2 q hq
/-- fewer locals, in another order -/
theorem wp_lv (h : lvs lv' lv) (kk : Wp R j Z k n pc lv' st M top) : Wp R j Z k n pc lv st M top := by
  intro l E p e s m args below meth c C H locs hl hH ls hv
  exact kk l E p e s m args below meth c C H locs hl hH ls ⟨hv.1, hv.2.1, fun q hq => by
    obtain ⟨x, hx, rfl⟩ := List.mem_map.mp hq
    exact hv.2.2 _ (List.mem_map.mpr ⟨x, lvs_mem h x hx, rfl⟩)⟩
theorem y_ialdN {a N id o q : Nat} (hd : decode (mB j) pc = .ok (.iaload, 1)) (hs : sh a = .inr (0, N, id, o)) (hq : q < N) (hN : N < 2 ^ 31) {z : Int32} (hz : z = nI q) (kk : Wp R j Z k n (pc + 1) lv (.int (s.1 id o q) :: st) (mk s) TT) : Wp R j Z k n pc lv (.int z :: .ref a :: st) (mk s) TT := by
  subst hz
  refine y_iald hd hs (vp_in_nI hq hN) ?_
  rw [nI_clamp (by omega)]; exact kk
theorem y_zaldN {a N id o q : Nat} (hd : decode (mB j) pc = .ok (.baload, 1)) (hs : sh a = .inr (2, N, id, o)) (hq : q < N) (hN : N < 2 ^ 31) {z : Int32} (hz : z = nI q) (kk : Wp R j Z k n (pc + 1) lv (.int (s.1 id o q) :: st) (mk s) TT) : Wp R j Z k n pc lv (.int z :: .ref a :: st) (mk s) TT := by
  subst hz
  refine y_zald hd hs (vp_in_nI hq hN) ?_
  rw [nI_clamp (by omega)]; exact kk
theorem y_baldN {a N id o q : Nat} (hd : decode (mB j) pc = .ok (.baload, 1)) (hs : sh a = .inr (3, N, id, o)) (hq : q < N) (hN : N < 2 ^ 31) {z : Int32} (hz : z = nI q) (kk : Wp R j Z k n (pc + 1) lv (.int (s.1 id o q) :: st) (mk s) TT) : Wp R j Z k n pc lv (.int z :: .ref a :: st) (mk s) TT := by
  subst hz
  refine y_bald hd hs (vp_in_nI hq hN) ?_
  rw [nI_clamp (by omega)]; exact kk
theorem y_laldN {a N id o q : Nat} (hd : decode (mB j) pc = .ok (.laload, 1)) (hs : sh a = .inr (1, N, id, o)) (hq : q < N) (hN : N < 2 ^ 31) {z : Int32} (hz : z = nI q) (kk : Wp R j Z k n (pc + 1) lv (.long (s.2 id o q) :: st) (mk s) TT) : Wp R j Z k n pc lv (.int z :: .ref a :: st) (mk s) TT := by
  subst hz
  refine y_lald hd hs (vp_in_nI hq hN) ?_
  rw [nI_clamp (by omega)]; exact kk
theorem y_iastN {a N id o q : Nat} {v : Int32} (hd : decode (mB j) pc = .ok (.iastore, 1)) (hs : sh a = .inr (0, N, id, o)) (hq : q < N) (hN : N < 2 ^ 31) {z : Int32} (hz : z = nI q) (kk : Wp R j Z k n (pc + 1) lv st (mk (si s id o q v)) TT) : Wp R j Z k n pc lv (.int v :: .int z :: .ref a :: st) (mk s) TT := by
  subst hz
  refine y_iast hd hs (vp_in_nI hq hN) ?_
  rw [nI_clamp (by omega)]; exact kk
theorem y_zastN {a N id o q : Nat} {v : Int32} (hd : decode (mB j) pc = .ok (.bastore, 1)) (hs : sh a = .inr (2, N, id, o)) (hq : q < N) (hN : N < 2 ^ 31) {z : Int32} (hz : z = nI q) (kk : Wp R j Z k n (pc + 1) lv st (mk (si s id o q (vp_nar .boolean v))) TT) : Wp R j Z k n pc lv (.int v :: .int z :: .ref a :: st) (mk s) TT := by
  subst hz
  refine y_zast hd hs (vp_in_nI hq hN) ?_
  rw [nI_clamp (by omega)]; exact kk
theorem y_bastN {a N id o q : Nat} {v : Int32} (hd : decode (mB j) pc = .ok (.bastore, 1)) (hs : sh a = .inr (3, N, id, o)) (hq : q < N) (hN : N < 2 ^ 31) {z : Int32} (hz : z = nI q) (kk : Wp R j Z k n (pc + 1) lv st (mk (si s id o q (vp_nar .byte v))) TT) : Wp R j Z k n pc lv (.int v :: .int z :: .ref a :: st) (mk s) TT := by
  subst hz
  refine y_bast hd hs (vp_in_nI hq hN) ?_
  rw [nI_clamp (by omega)]; exact kk
theorem y_lastN {a N id o q : Nat} {v : Int64} (hd : decode (mB j) pc = .ok (.lastore, 1)) (hs : sh a = .inr (1, N, id, o)) (hq : q < N) (hN : N < 2 ^ 31) {z : Int32} (hz : z = nI q) (kk : Wp R j Z k n (pc + 1) lv st (mk (sl s id o q v)) TT) : Wp R j Z k n pc lv (.long v :: .int z :: .ref a :: st) (mk s) TT := by
  subst hz
  refine y_last hd hs (vp_in_nI hq hN) ?_
  rw [nI_clamp (by omega)]; exact kk
theorem y_aaldPN {q : Nat} (hd : decode (mB j) pc = .ok (.aaload, 1)) (hb : q < 12) {z : Int32} (hz : z = nI q) (kk : Wp R j Z k n (pc + 1) lv (.ref (PA q) :: st) (mk s) TT) : Wp R j Z k n pc lv (.int z :: .ref 10 :: st) (mk s) TT := by
  subst hz
  refine y_aaldP hd (vp_in_nI hb (by decide)) ?_
  rw [nI_clamp (by omega)]; exact kk
theorem y_aaldFN {q : Nat} (hd : decode (mB j) pc = .ok (.aaload, 1)) (hb : q < 6) {z : Int32} (hz : z = nI q) (kk : Wp R j Z k n (pc + 1) lv (.ref (FA q) :: st) (mk s) TT) : Wp R j Z k n pc lv (.int z :: .ref 162 :: st) (mk s) TT := by
  subst hz
  refine y_aaldF hd (vp_in_nI hb (by decide)) ?_
  rw [nI_clamp (by omega)]; exact kk
theorem y_aaldBN {i q : Nat} (hq : i < 7) (hd : decode (mB j) pc = .ok (.aaload, 1)) (hb : q < 9) {z : Int32} (hz : z = nI q) (kk : Wp R j Z k n (pc + 1) lv (.ref (RW i + 6 + q) :: st) (mk s) TT) : Wp R j Z k n pc lv (.int z :: .ref (RW i + 5) :: st) (mk s) TT := by
  subst hz
  refine y_aaldB hq hd (vp_in_nI hb (by decide)) ?_
  rw [nI_clamp (by omega)]; exact kk
end NR
def shf1 (i k : Nat) (s : St) : St := sl (si (si s 81 i k (s.1 81 i (k + 1))) 82 i k (s.1 82 i (k + 1))) 83 i k (s.2 83 i (k + 1))
def shf (i : Nat) : Nat → Nat → St → St
  | 0, _, s => s
  | m + 1, k, s => shf i m (k + 1) (shf1 i k s)
theorem shf_80 (i : Nat) : ∀ m k s, (shf i m k s).1 80 = s.1 80
  | 0, _, _ => rfl
  | m + 1, k, s => (shf_80 i m (k + 1) _).trans (by funext a b; simp [shf1, sl_1, si_r])
set_option maxRecDepth 100000 in
theorem lp_removeAt {R : Room} {Z : Zt} (i : Nat) (hi : i < 7) (x : Int32) (c : Nat) (hc : c ≤ 22) : ∀ (m k : Nat) (s : St), k + 1 + m = c → s.1 80 i 0 = nI c → Wp R 78 Z 0 0 73 [(2, .int (nI c)), (0, .ref (RW i)), (1, .int x)] [] (mk (shf i m k s)) TT → Wp R 78 Z 0 0 17 [(2, .int (nI (k + 1))), (0, .ref (RW i)), (1, .int x)] [] (mk s) TT := by
  intro m
  induction m with
  | zero =>
    intro k s hk h80 hx
    refine x_iload_n (pc := 17) d78_17 rfl ?_
    refine x_aload_n (pc := 18) d78_18 rfl ?_
    refine y_geti (pc := 19) d78_19 fk5_22 (shR i hi) rfl ?_
    refine x_icmp_ge (pc := 22) (tgt := 73) d78_22 (by decide) (fun c22 => ?_) (fun c22 => absurd (by rw [h80]; exact nI_le (by omega) (by omega)) c22)
    have e9 : k + 1 = c := by omega
    rw [e9]
    exact hx
  | succ m ih =>
    intro k s hk h80 hx
    refine x_iload_n (pc := 17) d78_17 rfl ?_
    refine x_aload_n (pc := 18) d78_18 rfl ?_
    refine y_geti (pc := 19) d78_19 fk5_22 (shR i hi) rfl ?_
    refine x_icmp_ge (pc := 22) (tgt := 73) d78_22 (by decide) (fun c22 => absurd c22 (by rw [h80]; exact nI_ge (by omega) (by omega))) (fun c22 => ?_)
    refine x_aload_n (pc := 25) d78_25 rfl ?_
    refine y_getr (pc := 26) d78_26 fk5_9 (shR i hi) rfl ?_
    refine x_iload_n (pc := 29) d78_29 rfl ?_
    refine x_iconst (pc := 30) (v := (1)) d78_30 (by decide) ?_
    refine x_isub (pc := 31) d78_31 ?_
    rw [nI_pred]
    refine x_aload_n (pc := 32) d78_32 rfl ?_
    refine y_getr (pc := 33) d78_33 fk5_9 (shR i hi) rfl ?_
    refine x_iload_n (pc := 36) d78_36 rfl ?_
    refine y_ialdN (pc := 37) (q := k + 1) d78_37 (shR1 i hi) (by omega) (by decide) (rfl) ?_
    refine y_iastN (pc := 38) (q := k) d78_38 (shR1 i hi) (by omega) (by decide) (rfl) ?_
    refine x_aload_n (pc := 39) d78_39 rfl ?_
    refine y_getr (pc := 40) d78_40 fk5_15 (shR i hi) rfl ?_
    refine x_iload_n (pc := 43) d78_43 rfl ?_
    refine x_iconst (pc := 44) (v := (1)) d78_44 (by decide) ?_
    refine x_isub (pc := 45) d78_45 ?_
    rw [nI_pred]
    refine x_aload_n (pc := 46) d78_46 rfl ?_
    refine y_getr (pc := 47) d78_47 fk5_15 (shR i hi) rfl ?_
    refine x_iload_n (pc := 50) d78_50 rfl ?_
    refine y_ialdN (pc := 51) (q := k + 1) d78_51 (shR2 i hi) (by omega) (by decide) (rfl) ?_
    refine y_iastN (pc := 52) (q := k) d78_52 (shR2 i hi) (by omega) (by decide) (rfl) ?_
    refine x_aload_n (pc := 53) d78_53 rfl ?_
    refine y_getr (pc := 54) d78_54 fk5_18 (shR i hi) rfl ?_
    refine x_iload_n (pc := 57) d78_57 rfl ?_
    refine x_iconst (pc := 58) (v := (1)) d78_58 (by decide) ?_
    refine x_isub (pc := 59) d78_59 ?_
    rw [nI_pred]
    refine x_aload_n (pc := 60) d78_60 rfl ?_
    refine y_getr (pc := 61) d78_61 fk5_18 (shR i hi) rfl ?_
    refine x_iload_n (pc := 64) d78_64 rfl ?_
    refine y_laldN (pc := 65) (q := k + 1) d78_65 (shR3 i hi) (by omega) (by decide) (rfl) ?_
    refine y_lastN (pc := 66) (q := k) d78_66 (shR3 i hi) (by omega) (by decide) (rfl) ?_
    refine y_inc (pc := 67) (c := (1)) d78_67 (by decide) (by decide) rfl ?_
    refine x_goto (pc := 70) (tgt := 17) d78_70 (by decide) ?_
    rw [nI_1]
    exact ih (k + 1) _ (by omega) (by simpa [shf1, sl_1, si_r] using h80) hx
/-- the row without its q-th -/
def remS (s : St) (i c q : Nat) : St := si (shf i (c - 1 - q) q s) 80 i 0 (nI (c - 1))
set_option maxRecDepth 100000 in
theorem c_removeAt (i : Nat) (hi : i < 7) (s : St) (x : Int32) (c : Nat) (hc : c ≤ 22) (h80 : s.1 80 i 0 = nI c) : Rv 0 78 [.ref (RW i), .int x] s (fun s1 => (∀ q, q < c → x = nI q → s1 = remS s i c q) ∧ ((x < 0 ∨ nI c ≤ x) → s1 = s)) := by
  refine ct_of (by decide +kernel) (Nat.le_of_ble_eq_true rfl) ?_
  show Wp _ _ _ _ _ _ [(0, .ref (RW i)), (1, .int x)] _ _ _
  refine x_iload_n (pc := 0) d78_0 rfl ?_
  refine x_if_lt (pc := 1) (tgt := 12) d78_1 (by decide) (fun c1 => ?_) (fun c1 => ?_)
  · skip
    exact y_vret (pc := 12) d78_12 rfl (⟨fun q hq e => by first | exact absurd c1 (by rw [e]; exact nI_pos (by omega)) | exact absurd (by rw [e, h80]; exact nI_lt hq (by omega)) c9, fun _ => rfl⟩)
  · skip
    refine x_iload_n (pc := 4) d78_4 rfl ?_
    refine x_aload_n (pc := 5) d78_5 rfl ?_
    refine y_geti (pc := 6) d78_6 fk5_22 (shR i hi) rfl ?_
    refine x_icmp_lt (pc := 9) (tgt := 13) d78_9 (by decide) (fun c9 => ?_) (fun c9 => ?_)
    · skip
      refine x_iload_n (pc := 13) d78_13 rfl ?_
      refine x_iconst (pc := 14) (v := (1)) d78_14 (by decide) ?_
      refine x_iadd (pc := 15) d78_15 ?_
      obtain ⟨q, hq, ex, -⟩ := pk_mu (L := c) c1 (by rw [← h80]; exact Int32.not_le.mpr c9) (by omega)
      rw [ex, nI_1]
      refine x_istore_n (pc := 16) d78_16 (by decide) ?_
      refine wp_lv (lv' := [(2, .int (nI (q + 1))), (0, .ref (RW i)), (1, .int (nI q))]) ⟨rfl, rfl, rfl, trivial⟩ ?_
      refine lp_removeAt i hi (nI q) c hc (c - 1 - q) q s (by omega) h80 ?_
      refine x_aload_n (pc := 73) d78_73 rfl ?_
      refine x_dup (pc := 74) d78_74 rfl ?_
      refine y_geti (pc := 75) d78_75 fk5_22 (shR i hi) rfl ?_
      refine x_iconst (pc := 78) (v := (1)) d78_78 (by decide) ?_
      refine x_isub (pc := 79) d78_79 ?_
      refine y_puti (pc := 80) d78_80 fk5_22 (shR i hi) rfl rfl ⟨rfl, rfl⟩ ?_
      exact y_vret (pc := 83) d78_83 rfl (⟨fun q2 hq2 e => by have e2 : q = q2 := (nI_eq (by omega) (by omega)).mp e; subst e2; unfold remS; rw [shf_80, h80, show c = c - 1 + 1 by omega, nI_pred, Nat.add_sub_cancel], fun h => h.elim (fun h => absurd h (nI_pos (by omega))) (fun h => absurd h (nI_ge hq (by omega)))⟩)
    · skip
      exact y_vret (pc := 12) d78_12 rfl (⟨fun q hq e => by first | exact absurd c1 (by rw [e]; exact nI_pos (by omega)) | exact absurd (by rw [e, h80]; exact nI_lt hq (by omega)) c9, fun _ => rfl⟩)
/-- the first place from k on, of m, that has x -/
def pl81 (s : St) (i : Nat) (x : Int32) : Nat → Nat → Int32
  | 0, _ => -1
  | m + 1, k => if s.1 81 i k = x then nI k else pl81 s i x m (k + 1)
set_option maxRecDepth 100000 in
theorem lp_placeFrom (i : Nat) (hi : i < 7) (s : St) (x : Int32) (c : Nat) (hc : c ≤ 22) (h80 : s.1 80 i 0 = nI c) : ∀ (m k : Nat), k + m = c → Wp (rmd 0 0 0) 82 (zi (fun v s1 => v = pl81 s i x m k ∧ s1 = s)) 0 0 2 [(2, .int (nI k)), (0, .ref (RW i)), (1, .int x)] [] (mk s) TT := by
  intro m
  induction m with
  | zero =>
    intro k hk
    refine x_iload_n (pc := 2) d82_2 rfl ?_
    refine x_aload_n (pc := 3) d82_3 rfl ?_
    refine y_geti (pc := 4) d82_4 fk5_22 (shR i hi) rfl ?_
    refine x_icmp_ge (pc := 7) (tgt := 28) d82_7 (by decide) (fun c7 => ?_) (fun c7 => absurd (by rw [h80]; exact nI_le (by omega) (by omega)) c7)
    refine x_iconst (pc := 28) (v := (-1)) d82_28 (by decide) ?_
    exact y_iret (pc := 29) d82_29 rfl (⟨rfl, rfl⟩)
  | succ m ih =>
    intro k hk
    refine x_iload_n (pc := 2) d82_2 rfl ?_
    refine x_aload_n (pc := 3) d82_3 rfl ?_
    refine y_geti (pc := 4) d82_4 fk5_22 (shR i hi) rfl ?_
    refine x_icmp_ge (pc := 7) (tgt := 28) d82_7 (by decide) (fun c7 => absurd c7 (by rw [h80]; exact nI_ge (by omega) (by omega))) (fun c7 => ?_)
    refine x_aload_n (pc := 10) d82_10 rfl ?_
    refine y_getr (pc := 11) d82_11 fk5_9 (shR i hi) rfl ?_
    refine x_iload_n (pc := 14) d82_14 rfl ?_
    refine y_ialdN (pc := 15) (q := k) d82_15 (shR1 i hi) (by omega) (by decide) (rfl) ?_
    refine x_iload_n (pc := 16) d82_16 rfl ?_
    refine x_icmp_ne (pc := 17) (tgt := 22) d82_17 (by decide) (fun c17 => ?_) (fun c17 => ?_)
    · skip
      refine y_inc (pc := 22) (c := (1)) d82_22 (by decide) (by decide) rfl ?_
      refine x_goto (pc := 25) (tgt := 2) d82_25 (by decide) ?_
      rw [nI_1]
      have h9 := ih (k + 1) (by omega)
      unfold pl81
      rw [if_neg c17]
      exact h9
    · skip
      refine x_iload_n (pc := 20) d82_20 rfl ?_
      exact y_iret (pc := 21) d82_21 rfl (⟨by unfold pl81; rw [if_pos c17], rfl⟩)
set_option maxRecDepth 100000 in
theorem c_placeFrom (i : Nat) (hi : i < 7) (s : St) (x : Int32) (c : Nat) (hc : c ≤ 22) (h80 : s.1 80 i 0 = nI c) : Ri 0 82 [.ref (RW i), .int x] s (fun v s1 => v = pl81 s i x c 0 ∧ s1 = s) := by
  refine ct_of (by decide +kernel) (Nat.le_of_ble_eq_true rfl) ?_
  show Wp _ _ _ _ _ _ [(0, .ref (RW i)), (1, .int x)] _ _ _
  refine x_iconst (pc := 0) (v := (0)) d82_0 (by decide) ?_
  refine x_istore_n (pc := 1) d82_1 (by decide) ?_
  exact lp_placeFrom i hi s x c hc h80 c 0 (by omega)
/-- the first place from k on, of m, that has x -/
def pl82 (s : St) (i : Nat) (x : Int32) : Nat → Nat → Int32
  | 0, _ => -1
  | m + 1, k => if s.1 82 i k = x then nI k else pl82 s i x m (k + 1)
set_option maxRecDepth 100000 in
theorem lp_placeOfTimeout (i : Nat) (hi : i < 7) (s : St) (x : Int32) (c : Nat) (hc : c ≤ 22) (h80 : s.1 80 i 0 = nI c) : ∀ (m k : Nat), k + m = c → Wp (rmd 0 0 0) 77 (zi (fun v s1 => v = pl82 s i x m k ∧ s1 = s)) 0 0 2 [(2, .int (nI k)), (0, .ref (RW i)), (1, .int x)] [] (mk s) TT := by
  intro m
  induction m with
  | zero =>
    intro k hk
    refine x_iload_n (pc := 2) d77_2 rfl ?_
    refine x_aload_n (pc := 3) d77_3 rfl ?_
    refine y_geti (pc := 4) d77_4 fk5_22 (shR i hi) rfl ?_
    refine x_icmp_ge (pc := 7) (tgt := 28) d77_7 (by decide) (fun c7 => ?_) (fun c7 => absurd (by rw [h80]; exact nI_le (by omega) (by omega)) c7)
    refine x_iconst (pc := 28) (v := (-1)) d77_28 (by decide) ?_
    exact y_iret (pc := 29) d77_29 rfl (⟨rfl, rfl⟩)
  | succ m ih =>
    intro k hk
    refine x_iload_n (pc := 2) d77_2 rfl ?_
    refine x_aload_n (pc := 3) d77_3 rfl ?_
    refine y_geti (pc := 4) d77_4 fk5_22 (shR i hi) rfl ?_
    refine x_icmp_ge (pc := 7) (tgt := 28) d77_7 (by decide) (fun c7 => absurd c7 (by rw [h80]; exact nI_ge (by omega) (by omega))) (fun c7 => ?_)
    refine x_aload_n (pc := 10) d77_10 rfl ?_
    refine y_getr (pc := 11) d77_11 fk5_15 (shR i hi) rfl ?_
    refine x_iload_n (pc := 14) d77_14 rfl ?_
    refine y_ialdN (pc := 15) (q := k) d77_15 (shR2 i hi) (by omega) (by decide) (rfl) ?_
    refine x_iload_n (pc := 16) d77_16 rfl ?_
    refine x_icmp_ne (pc := 17) (tgt := 22) d77_17 (by decide) (fun c17 => ?_) (fun c17 => ?_)
    · skip
      refine y_inc (pc := 22) (c := (1)) d77_22 (by decide) (by decide) rfl ?_
      refine x_goto (pc := 25) (tgt := 2) d77_25 (by decide) ?_
      rw [nI_1]
      have h9 := ih (k + 1) (by omega)
      unfold pl82
      rw [if_neg c17]
      exact h9
    · skip
      refine x_iload_n (pc := 20) d77_20 rfl ?_
      exact y_iret (pc := 21) d77_21 rfl (⟨by unfold pl82; rw [if_pos c17], rfl⟩)
set_option maxRecDepth 100000 in
theorem c_placeOfTimeout (i : Nat) (hi : i < 7) (s : St) (x : Int32) (c : Nat) (hc : c ≤ 22) (h80 : s.1 80 i 0 = nI c) : Ri 0 77 [.ref (RW i), .int x] s (fun v s1 => v = pl82 s i x c 0 ∧ s1 = s) := by
  refine ct_of (by decide +kernel) (Nat.le_of_ble_eq_true rfl) ?_
  show Wp _ _ _ _ _ _ [(0, .ref (RW i)), (1, .int x)] _ _ _
  refine x_iconst (pc := 0) (v := (0)) d77_0 (by decide) ?_
  refine x_istore_n (pc := 1) d77_1 (by decide) ?_
  exact lp_placeOfTimeout i hi s x c hc h80 c 0 (by omega)
/-- how many from k on, of m, are x's -/
def cn81 (s : St) (i : Nat) (x : Int32) : Nat → Nat → Nat
  | 0, _ => 0
  | m + 1, k => (if s.1 81 i k = x then 1 else 0) + cn81 s i x m (k + 1)
set_option maxRecDepth 100000 in
theorem lp_countFrom (i : Nat) (hi : i < 7) (s : St) (x : Int32) (c : Nat) (hc : c ≤ 22) (h80 : s.1 80 i 0 = nI c) : ∀ (m k f : Nat), k + m = c → Wp (rmd 0 0 0) 98 (zi (fun v s1 => v = nI (f + cn81 s i x m k) ∧ s1 = s)) 0 0 4 [(3, .int (nI k)), (2, .int (nI f)), (0, .ref (RW i)), (1, .int x)] [] (mk s) TT := by
  intro m
  induction m with
  | zero =>
    intro k f hk
    refine x_iload_n (pc := 4) d98_4 rfl ?_
    refine x_aload_n (pc := 5) d98_5 rfl ?_
    refine y_geti (pc := 6) d98_6 fk5_22 (shR i hi) rfl ?_
    refine x_icmp_ge (pc := 9) (tgt := 31) d98_9 (by decide) (fun c9 => ?_) (fun c9 => absurd (by rw [h80]; exact nI_le (by omega) (by omega)) c9)
    refine x_iload_n (pc := 31) d98_31 rfl ?_
    exact y_iret (pc := 32) d98_32 rfl (⟨rfl, rfl⟩)
  | succ m ih =>
    intro k f hk
    refine x_iload_n (pc := 4) d98_4 rfl ?_
    refine x_aload_n (pc := 5) d98_5 rfl ?_
    refine y_geti (pc := 6) d98_6 fk5_22 (shR i hi) rfl ?_
    refine x_icmp_ge (pc := 9) (tgt := 31) d98_9 (by decide) (fun c9 => absurd c9 (by rw [h80]; exact nI_ge (by omega) (by omega))) (fun c9 => ?_)
    refine x_aload_n (pc := 12) d98_12 rfl ?_
    refine y_getr (pc := 13) d98_13 fk5_9 (shR i hi) rfl ?_
    refine x_iload_n (pc := 16) d98_16 rfl ?_
    refine y_ialdN (pc := 17) (q := k) d98_17 (shR1 i hi) (by omega) (by decide) (rfl) ?_
    refine x_iload_n (pc := 18) d98_18 rfl ?_
    refine x_icmp_ne (pc := 19) (tgt := 25) d98_19 (by decide) (fun c19 => ?_) (fun c19 => ?_)
    · skip
      refine y_inc (pc := 25) (c := (1)) d98_25 (by decide) (by decide) rfl ?_
      refine x_goto (pc := 28) (tgt := 4) d98_28 (by decide) ?_
      first | rw [nI_1, nI_1] | rw [nI_1]
      refine wp_lv (lv' := [(3, .int (nI (k + 1))), (2, .int (nI _)), (0, .ref (RW i)), (1, .int x)]) ⟨rfl, rfl, rfl, rfl, trivial⟩ ?_
      have h9 := fun f => ih (k + 1) f (by omega)
      unfold cn81
      first | (rw [if_pos c19, ← Nat.add_assoc]; exact h9 _) | (rw [if_neg c19, Nat.zero_add]; exact h9 _)
    · skip
      refine y_inc (pc := 22) (c := (1)) d98_22 (by decide) (by decide) rfl ?_
      refine y_inc (pc := 25) (c := (1)) d98_25 (by decide) (by decide) rfl ?_
      refine x_goto (pc := 28) (tgt := 4) d98_28 (by decide) ?_
      first | rw [nI_1, nI_1] | rw [nI_1]
      refine wp_lv (lv' := [(3, .int (nI (k + 1))), (2, .int (nI _)), (0, .ref (RW i)), (1, .int x)]) ⟨rfl, rfl, rfl, rfl, trivial⟩ ?_
      have h9 := fun f => ih (k + 1) f (by omega)
      unfold cn81
      first | (rw [if_pos c19, ← Nat.add_assoc]; exact h9 _) | (rw [if_neg c19, Nat.zero_add]; exact h9 _)
set_option maxRecDepth 100000 in
theorem c_countFrom (i : Nat) (hi : i < 7) (s : St) (x : Int32) (c : Nat) (hc : c ≤ 22) (h80 : s.1 80 i 0 = nI c) : Ri 0 98 [.ref (RW i), .int x] s (fun v s1 => v = nI (cn81 s i x c 0) ∧ s1 = s) := by
  refine ct_of (by decide +kernel) (Nat.le_of_ble_eq_true rfl) ?_
  show Wp _ _ _ _ _ _ [(0, .ref (RW i)), (1, .int x)] _ _ _
  refine x_iconst (pc := 0) (v := (0)) d98_0 (by decide) ?_
  refine x_istore_n (pc := 1) d98_1 (by decide) ?_
  refine x_iconst (pc := 2) (v := (0)) d98_2 (by decide) ?_
  refine x_istore_n (pc := 3) d98_3 (by decide) ?_
  have h9 := lp_countFrom i hi s x c hc h80 c 0 0 (by omega)
  rw [Nat.zero_add] at h9
  exact h9
