/-! texts on both sides: one token after another -/
theorem BS.to {sT s u s' u' : St} {z cnt p k n un f e d : Nat} {E : Nat → Nat} (h : BS sT z cnt E p s u k n un f e d) (es : ∀ id, id = 49 ∨ id = 50 ∨ (64 ≤ id ∧ id ≤ 67) ∨ (96 ≤ id ∧ id ≤ 98) → s'.1 id = s.1 id) (eu : ∀ id, (200 ≤ id ∧ id ≤ 208) ∨ (211 ≤ id ∧ id ≤ 213) ∨ id = 215 ∨ id = 227 ∨ id = 236 → u'.1 id = u.1 id) (e2 : u'.2 206 = u.2 206) : BS sT z cnt E p s' u' k n un f e d :=
  ⟨h.at.to (by rw [es 50 (by omega)]) (fun id a b => es id (by omega)) (fun id a b => eu id (by omega)) e2, by rw [es 49 (by omega)]; exact h.pp, by rw [eu 227 (by omega)]; exact h.rd, by rw [es 64 (by omega)]; exact h.n1, by rw [eu 211 (by omega)]; exact h.n2, h.n4, by rw [es 65 (by omega)]; exact h.u1, by rw [eu 212 (by omega)]; exact h.u2, h.u6, by rw [es 66 (by omega), eu 213 (by omega)]; exact h.dp, by rw [eu 208 (by omega)]; exact h.bd, by rw [es 67 (by omega)]; exact h.cc, h.ff, by rw [eu 215 (by omega)]; exact h.ac, h.ee, by rw [eu 236 (by omega)]; exact h.wi, h.d8⟩
theorem BS.nx {sT s u : St} {z cnt p k n un f e d : Nat} {E : Nat → Nat} (X : CX sT z cnt E) (h : BS sT z cnt E p s u k n un f e d) (hK : ¬ KK sT k = 0) : ∃ u', r_next u = some u' ∧ FX u u' ∧ BS sT z cnt E p (si s 50 0 0 (nI (k + 1))) u' (k + 1) n un f e d := by
  obtain ⟨u', r1, r2, r3⟩ := h.at.nxt X hK
  refine ⟨u', r1, r2, r3, by rw [si_o (by decide)]; exact h.pp, by rw [r2.1 227 (by omega)]; exact h.rd, by rw [si_o (by decide)]; exact h.n1, by rw [r2.1 211 (by omega)]; exact h.n2, h.n4, by rw [si_o (by decide)]; exact h.u1, by rw [r2.1 212 (by omega)]; exact h.u2, h.u6, by rw [si_o (by decide), r2.1 213 (by omega)]; exact h.dp, by rw [r2.1 208 (by omega)]; exact h.bd, by rw [si_o (by decide)]; exact h.cc, h.ff, by rw [r2.1 215 (by omega)]; exact h.ac, h.ee, by rw [r2.1 236 (by omega)]; exact h.wi, h.d8⟩
theorem mis_b {u : St} : (misU u).1 208 0 0 = 1 := by unfold misU; rw [si_o (by decide), si_eq]
theorem mis_id {u : St} {id : Nat} (h : ¬ (id = 208 ∨ id = 209)) : (misU u).1 id = u.1 id := by unfold misU; rw [si_id (by omega), si_id (by omega)]
theorem mis_rb {X : Nat → Nat → Prop} {p n e d : Nat} {u : St} : RB X p n e d u (misU u) :=
  ⟨fun id z => mis_id (by omega), fun _ _ => rfl, fun a b c d e => by rw [mis_id (by omega)], fun a => by rw [mis_id (by omega)], fun a b c d e f' g i => by rw [mis_id (by omega)], fun a b c d e => by rw [mis_id (by omega)], fun a b c d => by rw [mis_id (by omega)], fun _ _ => rfl, fun a b c d e f' => by rw [mis_id (by omega)], fun z => absurd (mis_b.symm.trans z) (by decide)⟩
theorem fl_here {sT s u : St} {z cnt p k n un f e d : Nat} {E : Nat → Nat} (h : BS sT z cnt E p s u k n un f e d) : FL sT cnt k s (misU u) := ⟨k, Nat.le_refl _, h.at.kl, h.at.at5, mis_b, by unfold misU; rw [si_eq]; exact h.at.tv.1⟩
/-- once it is BAD, nothing is read -/
theorem sg_any (x : Int32) (u : St) : ∃ v, r_isSign x u = some (v, u) := by
  unfold r_isSign r_isSign_20
  rw [bnd_d, bnd_d]
  split
  · split
    · exact ⟨_, rfl⟩
    · exact ⟨_, rfl⟩
  · exact ⟨_, rfl⟩
theorem lc_any (u : St) : ∃ v, r_isLocal u = some (v, u) := by
  unfold r_isLocal r_isLocal_21
  rw [bnd_d, bnd_d]
  split
  · split
    · exact ⟨_, rfl⟩
    · exact ⟨_, rfl⟩
  · exact ⟨_, rfl⟩
theorem b_take {x : Int32} {u : St} (h : u.1 208 0 0 = 1) : r_take x u = some u := by
  obtain ⟨v, hv⟩ := sg_any x u
  have h12 : r_take_12 u = some u := by unfold r_take_12; rw [bnd_d, h, if_neg (by decide)]
  unfold r_take
  rw [hv, cal2_s, r_mis1 h, cal_s, h12]
  split <;> rfl
theorem b_word {x : Int32} {u : St} (h : u.1 208 0 0 = 1) : r_takeWord x u = some u := by
  have h12 : r_takeWord_15 u = some u := by unfold r_takeWord_15; rw [bnd_d, h, if_neg (by decide)]
  unfold r_takeWord
  rw [bnd_d, r_mis1 h, cal_s, h12]
  split <;> rfl
theorem b_loc {u : St} (h : u.1 208 0 0 = 1) : r_takeLocal u = some u := by
  obtain ⟨v, hv⟩ := lc_any u
  have h12 : r_takeLocal_11 u = some u := by unfold r_takeLocal_11; rw [bnd_d, h, if_neg (by decide)]
  unfold r_takeLocal
  rw [hv, cal2_s, r_mis1 h, cal_s, h12]
  split <;> rfl
theorem b_open {x y : Int32} {u : St} (h : u.1 208 0 0 = 1) : r_openBody x y u = some u := by
  unfold r_openBody r_openBody_25
  rw [bnd_d, h, if_neg (by decide), r_mis1 h, cal_s]
theorem b_end {x : Int32} {u : St} (h : u.1 208 0 0 = 1) : r_readEnd x u = some u := by
  unfold r_readEnd r_readEnd_17
  rw [bnd_d, h, if_neg (by decide), b_take h, cal_s]
/-! the items -/
theorem it_sign {sT s u : St} {z cnt p k n un f e d c : Nat} {E : Nat → Nat} (X : CX sT z cnt E) (h : BS sT z cnt E p s u k n un f e d) (hc : isG c = true) :
    ∃ v s' u', k_is (nI c) s = some (v, s') ∧ r_take (nI c) u = some u' ∧ CB X0 p n f s s' ∧ RB X0 p n e d u u' ∧ ((v = 1 ∧ BS sT z cnt E p s' u' (k + 1) n un f e d) ∨ (v = 0 ∧ FL sT cnt k s' u')) := by
  have hc2 := isG_lt hc
  have hs := tv_sign h.at.tv hc
  rw [k_is_eq X h.at]
  unfold r_take
  rw [hs, cal2_s]
  by_cases q : KK sT k = nI c
  · obtain ⟨u', r1, r2, r3⟩ := h.nx X (fun z => by rw [z] at q; have := (nI_eq (a := 0) (by decide) (by omega)).mp q; omega)
    rw [if_pos q, if_pos (show sT.1 96 0 k = nI c from q), if_neg (by decide)]
    refine ⟨1, _, u', rfl, ?_, CB_at (CB.refl s), (RB.refl u).fx r2, Or.inl ⟨rfl, r3⟩⟩
    unfold r_take_12
    rw [bnd_d, h.bd, if_pos rfl, r1, cal_s]
  · rw [if_neg q, if_neg (show ¬ sT.1 96 0 k = nI c from q), if_pos rfl]
    refine ⟨0, s, misU u, rfl, ?_, CB.refl s, mis_rb, Or.inr ⟨rfl, fl_here h⟩⟩
    unfold r_take_12
    rw [r_mis h.bd, cal_s, bnd_d, mis_b, if_neg (by decide)]
theorem tv_word {K V P : Int32} {u : St} {w : Nat} (h : TkV K V P u) (hw : w < 19) : u.1 203 0 0 = nI (10 + w) ↔ K = nI (5 + w) := by
  have no : ∀ q r : Nat, q < 100 → r < 100 → nI q = nI r → q = r := fun q r hq hr e => (nI_eq (by omega) (by omega)).mp e
  rcases h.2 with ⟨a, b⟩ | ⟨a, b | ⟨b, -⟩⟩ | ⟨a, _, _, _, b, _⟩ | ⟨a, _, _, _, b, _⟩ | ⟨a, _, _, _, b, _⟩ | ⟨g, w1, a, b⟩ | ⟨g, g1, a, b, d⟩
  · rw [a, b]; exact ⟨fun q => by have := no 0 _ (by omega) (by omega) q; omega, fun q => by have := no 0 _ (by omega) (by omega) q; omega⟩
  · rw [a, b]; exact ⟨fun q => by have := no 1 _ (by omega) (by omega) q; omega, fun q => by have := no 1 _ (by omega) (by omega) q; omega⟩
  · rw [a, b]; exact ⟨fun q => by have := no 2 _ (by omega) (by omega) q; omega, fun q => by have := no 1 _ (by omega) (by omega) q; omega⟩
  · rw [a, b]; exact ⟨fun q => by have := no 2 _ (by omega) (by omega) q; omega, fun q => by have := no 2 _ (by omega) (by omega) q; omega⟩
  · rw [a, b]; exact ⟨fun q => by have := no 2 _ (by omega) (by omega) q; omega, fun q => by have := no 3 _ (by omega) (by omega) q; omega⟩
  · rw [a, b]; exact ⟨fun q => by have := no 3 _ (by omega) (by omega) q; omega, fun q => by have := no 4 _ (by omega) (by omega) q; omega⟩
  · rw [a, b]; exact ⟨fun q => by have := no _ _ (by omega) (by omega) q; rw [show g = w by omega], fun q => by have := no _ _ (by omega) (by omega) q; rw [show g = w by omega]⟩
  · have := isG_lt g1
    rw [a, b]; exact ⟨fun q => by have := no 4 _ (by omega) (by omega) q; omega, fun q => by have := (nI_eq (by omega) (by omega)).mp q; omega⟩
theorem it_word {sT s u : St} {z cnt p k n un f e d w : Nat} {E : Nat → Nat} (X : CX sT z cnt E) (h : BS sT z cnt E p s u k n un f e d) (hw : w < 19) :
    ∃ v s' u', k_is (nI (5 + w)) s = some (v, s') ∧ r_takeWord (nI w) u = some u' ∧ CB X0 p n f s s' ∧ RB X0 p n e d u u' ∧ ((v = 1 ∧ BS sT z cnt E p s' u' (k + 1) n un f e d) ∨ (v = 0 ∧ FL sT cnt k s' u')) := by
  have hs := tv_word h.at.tv hw
  rw [k_is_eq X h.at]
  unfold r_takeWord
  rw [bnd_d, show (10 : Int32) + nI w = nI (10 + w) from nI_add 10 w]
  by_cases q : KK sT k = nI (5 + w)
  · obtain ⟨u', r1, r2, r3⟩ := h.nx X (fun z => by rw [z] at q; have := (nI_eq (a := 0) (by decide) (by omega)).mp q; omega)
    rw [if_pos q, if_pos (hs.mpr q)]
    refine ⟨1, _, u', rfl, ?_, CB_at (CB.refl s), (RB.refl u).fx r2, Or.inl ⟨rfl, r3⟩⟩
    unfold r_takeWord_15
    rw [bnd_d, h.bd, if_pos rfl, r1, cal_s]
  · rw [if_neg q, if_neg (fun z => q (hs.mp z))]
    refine ⟨0, s, misU u, rfl, ?_, CB.refl s, mis_rb, Or.inr ⟨rfl, fl_here h⟩⟩
    unfold r_takeWord_15
    rw [r_mis h.bd, cal_s, bnd_d, mis_b, if_neg (by decide)]
def Xc (id o : Nat) : Nat → Nat → Prop := fun a i => a = id ∧ i = o
theorem it_loc {sT s u : St} {z cnt p k n un f e d o : Nat} {E : Nat → Nat} (X : CX sT z cnt E) (hp : p < 12) (h : BS sT z cnt E p s u k n un f e d) (ho : o < 40) :
    ∃ v s' u', k_isLocal (nI o) s = some (v, s') ∧ r_takeLocal u = some u' ∧ CB (Xc 69 o) p n f s s' ∧ RB X0 p n e d u u' ∧ ((v = 1 ∧ BS sT z cnt E p s' u' (k + 1) n un f e d ∧ ∃ b, b < 10 ∧ s'.1 69 p o = nI b ∧ u.1 205 0 0 = nI (16 + b)) ∨ (v = 0 ∧ FL sT cnt k s' u')) := by
  have c8 := X.c8; have kl := h.at.kl
  have hs := tv_loc h.at.tv
  have h4 : BS sT z cnt E p (si s 69 p o (sT.1 97 0 k)) u k n un f e d := h.to (fun id q => si_id (by omega)) (fun _ _ => rfl) rfl
  have C4 : CB (Xc 69 o) p n f s (si s 69 p o (sT.1 97 0 k)) := (CB.refl s).si (Or.inr (Or.inl ⟨by omega, by omega, Or.inr ⟨rfl, rfl⟩⟩)) trivial
  unfold k_isLocal r_takeLocal
  rw [h.pp, gI (by omega) (by decide), nI_clamp (by omega), bnd_d, h.at.at5, gI (by omega) (by decide), nI_clamp (by omega), h.at.t7, gI ho (by decide), nI_clamp (by omega), k_is_eq X h4.at, hs, cal2_s]
  by_cases q : KK sT k = 2
  · obtain ⟨u', r1, r2, r3⟩ := h4.nx X (fun z => by rw [z] at q; exact absurd q (by decide))
    rw [if_pos q, cal2_s, gz zo1, if_pos (show sT.1 96 0 k = 2 from q), if_neg (by decide)]
    refine ⟨1, _, u', rfl, ?_, CB_at C4, (RB.refl u).fx r2, Or.inl ⟨rfl, r3, ?_⟩⟩
    · unfold r_takeLocal_11
      rw [bnd_d, h.bd, if_pos rfl, r1, cal_s]
    · rw [si_o (by decide), si_eq]
      rcases h.at.tv.2 with ⟨t, _⟩ | ⟨t, _⟩ | ⟨_, b, b1, b2, _, b3⟩ | ⟨t, _⟩ | ⟨t, _⟩ | ⟨w', w1, t, _⟩ | ⟨g, g1, t, _⟩
      · exact absurd (t.symm.trans q) (by decide)
      · exact absurd (t.symm.trans q) (by decide)
      · exact ⟨b, b1, b2, b3⟩
      · exact absurd (t.symm.trans q) (by decide)
      · exact absurd (t.symm.trans q) (by decide)
      · have := (nI_eq (b := 2) (by omega) (by decide)).mp (t.symm.trans q); omega
      · have := isG_lt g1
        have := (nI_eq (b := 2) (by omega) (by decide)).mp (t.symm.trans q); omega
  · rw [if_neg q, cal2_s, gz zo0, if_neg (show ¬ sT.1 96 0 k = 2 from q), if_pos rfl]
    refine ⟨0, _, misU u, rfl, ?_, C4, mis_rb, Or.inr ⟨rfl, fl_here h4⟩⟩
    unfold r_takeLocal_11
    rw [r_mis h.bd, cal_s, bnd_d, mis_b, if_neg (by decide)]
theorem tv_3 {K V P : Int32} {u : St} (h : TkV K V P u) (q : K = 3) : ∃ b, b < 8 ∧ V = nI b ∧ u.1 203 0 0 = 2 ∧ u.1 205 0 0 = nI b := by
  rcases h.2 with ⟨t, _⟩ | ⟨t, _⟩ | ⟨t, _⟩ | ⟨_, b, b1, b2, b3, b4⟩ | ⟨t, _⟩ | ⟨w', w1, t, _⟩ | ⟨g, g1, t, _⟩
  · exact absurd (t.symm.trans q) (by decide)
  · exact absurd (t.symm.trans q) (by decide)
  · exact absurd (t.symm.trans q) (by decide)
  · exact ⟨b, b1, b2, b3, b4⟩
  · exact absurd (t.symm.trans q) (by decide)
  · have := (nI_eq (b := 3) (by omega) (by decide)).mp (t.symm.trans q); omega
  · have := isG_lt g1
    have := (nI_eq (b := 3) (by omega) (by decide)).mp (t.symm.trans q); omega
theorem tv_n3 {K V P : Int32} {u : St} (h : TkV K V P u) (q : ¬ K = 3) : ¬ u.1 203 0 0 = 2 ∨ ∃ l, 8 ≤ l ∧ l < 100 ∧ u.1 205 0 0 = nI l := by
  rcases h.2 with ⟨t, b⟩ | ⟨t, b | ⟨b, l, l1, l2, l3⟩⟩ | ⟨t, b, b1, b2, b3, b4⟩ | ⟨t, _⟩ | ⟨t, _, _, _, b, _⟩ | ⟨w', w1, t, b⟩ | ⟨g, g1, t, b, _⟩
  · exact Or.inl (by rw [b]; decide)
  · exact Or.inl (by rw [b]; decide)
  · exact Or.inr ⟨l, l1, by omega, l3⟩
  · exact Or.inr ⟨16 + b, by omega, by omega, b4⟩
  · exact absurd t q
  · exact Or.inl (by rw [b]; decide)
  · exact Or.inl (by rw [b]; exact fun q => by have := (nI_eq (b := 2) (by omega) (by decide)).mp q; omega)
  · exact Or.inl (by rw [b]; decide)
theorem tv_4 {K V P : Int32} {u : St} (h : TkV K V P u) (q : K = 4) : ∃ v, v < 1000000000 ∧ V = nI v ∧ u.1 203 0 0 = 3 ∧ u.2 206 0 0 = (nI v).toInt64 := by
  rcases h.2 with ⟨t, _⟩ | ⟨t, _⟩ | ⟨t, _⟩ | ⟨t, _⟩ | ⟨_, b⟩ | ⟨w', w1, t, _⟩ | ⟨g, g1, t, _⟩
  · exact absurd (t.symm.trans q) (by decide)
  · exact absurd (t.symm.trans q) (by decide)
  · exact absurd (t.symm.trans q) (by decide)
  · exact absurd (t.symm.trans q) (by decide)
  · exact b
  · have := (nI_eq (b := 4) (by omega) (by decide)).mp (t.symm.trans q); omega
  · have := isG_lt g1
    have := (nI_eq (b := 4) (by omega) (by decide)).mp (t.symm.trans q); omega
/-- the class's half of a number or a box -/
theorem k_nmb {sT s u : St} {z cnt p k n un f e d o : Nat} {E : Nat → Nat} {x b : Int32} (X : CX sT z cnt E) (hp : p < 12) (h : BS sT z cnt E p s u k n un f e d) (ho : o < 40) : k_isNumberOf (nI o) x b s = if b ≤ sT.1 97 0 k then some (0, si s 70 p o (sT.1 97 0 k)) else if KK sT k = x then some (1, si (si s 70 p o (sT.1 97 0 k)) 50 0 0 (nI (k + 1))) else some (0, si s 70 p o (sT.1 97 0 k)) := by
  have c8 := X.c8; have kl := h.at.kl
  have h4 : BS sT z cnt E p (si s 70 p o (sT.1 97 0 k)) u k n un f e d := h.to (fun id q => si_id (by omega)) (fun _ _ => rfl) rfl
  unfold k_isNumberOf k_isNumberOf_49
  rw [h.pp, gI (by omega) (by decide), nI_clamp (by omega), bnd_d, h.at.at5, gI (by omega) (by decide), nI_clamp (by omega), h.at.t7, gI ho (by decide), nI_clamp (by omega), bnd_d, h4.at.at5, gI (by omega) (by decide), nI_clamp (by omega), h4.at.t7, k_is_eq X h4.at]
  by_cases q1 : b ≤ sT.1 97 0 k
  · rw [if_pos q1, if_pos q1]
  · rw [if_neg q1, if_neg q1]
    by_cases q2 : KK sT k = x
    · rw [if_pos q2, cal2_s, if_neg (by decide)]
    · rw [if_neg q2, cal2_s, if_pos rfl]
theorem it_box {sT s u : St} {z cnt p k n un f e d o : Nat} {E : Nat → Nat} (X : CX sT z cnt E) (hp : p < 12) (h : BS sT z cnt E p s u k n un f e d) (ho : o < 40) :
    ∃ v s' u', k_isNumberOf (nI o) 3 8 s = some (v, s') ∧ r_takeBox (nI (40 * p + o)) u = some u' ∧ CB (Xc 70 o) p n f s s' ∧ RB (Xc 222 (40 * p + o)) p n e d u u' ∧ ((v = 1 ∧ BS sT z cnt E p s' u' (k + 1) n un f e d ∧ ∃ b, b < 8 ∧ s'.1 70 p o = nI b ∧ u'.1 222 0 (40 * p + o) = nI b) ∨ (v = 0 ∧ FL sT cnt k s' u')) := by
  have c8 := X.c8; have kl := h.at.kl
  have h4 : BS sT z cnt E p (si s 70 p o (sT.1 97 0 k)) (si u 222 0 (40 * p + o) (u.1 205 0 0)) k n un f e d := h.to (fun id q => si_id (by omega)) (fun id q => si_id (by omega)) rfl
  have C4 : CB (Xc 70 o) p n f s (si s 70 p o (sT.1 97 0 k)) := (CB.refl s).si (Or.inr (Or.inl ⟨by omega, by omega, Or.inr ⟨rfl, rfl⟩⟩)) trivial
  have R4 : ∀ v x, RB (Xc 222 (40 * p + o)) p n e d u v → RB (Xc 222 (40 * p + o)) p n e d u (si v 222 0 (40 * p + o) x) := fun v x hv => hv.si (Or.inr (Or.inr (Or.inr (Or.inl ⟨by omega, by omega, by omega, by omega, Or.inr ⟨rfl, rfl⟩⟩))))
  rw [k_nmb X hp h ho]
  unfold r_takeBox
  rw [bnd_d, bnd_d]
  by_cases q : KK sT k = 3
  · obtain ⟨b, b1, b2, b3, b4⟩ := tv_3 h.at.tv q
    obtain ⟨u', r1, r2, r3⟩ := h4.nx X (fun z => by rw [z] at q; exact absurd q (by decide))
    rw [b2, if_neg (show ¬ (8 : Int32) ≤ nI b from nI_ge (b := 8) b1 (by decide)), if_pos q, if_pos b3, b4, if_pos (show nI b < 8 from nI_lt (b := 8) b1 (by decide))]
    rw [b2] at r3 C4
    refine ⟨1, _, u', rfl, ?_, CB_at C4, (R4 u _ (RB.refl u)).fx r2, Or.inl ⟨rfl, r3, b, b1, by rw [si_o (by decide), si_eq], by rw [r2.1 222 (by omega), si_eq]; exact b4⟩⟩
    unfold r_takeBox_21
    rw [bnd_d, gI (by omega) (by decide), nI_clamp (by omega), bnd_d, si_o (by decide), h.bd, if_pos rfl, r1, cal_s]
  · have hC : ∃ s', (if (8 : Int32) ≤ sT.1 97 0 k then some ((0 : Int32), si s 70 p o (sT.1 97 0 k)) else if KK sT k = 3 then some (1, si (si s 70 p o (sT.1 97 0 k)) 50 0 0 (nI (k + 1))) else some (0, si s 70 p o (sT.1 97 0 k))) = some (0, s') ∧ s' = si s 70 p o (sT.1 97 0 k) := by
      rw [if_neg q]
      split <;> exact ⟨_, rfl, rfl⟩
    obtain ⟨s', hC, rfl⟩ := hC
    rw [hC]
    have m4 : BS sT z cnt E p (si s 70 p o (sT.1 97 0 k)) u k n un f e d := h.to (fun id q => si_id (by omega)) (fun _ _ => rfl) rfl
    have h17 : r_takeBox_17 (nI (40 * p + o)) u = some (si (misU u) 222 0 (40 * p + o) (u.1 205 0 0)) := by
      unfold r_takeBox_17 r_takeBox_21
      rw [r_mis h.bd, cal_s, bnd_d, mis_id (id := 205) (by decide), gI (by omega) (by decide), nI_clamp (by omega), bnd_d, si_o (by decide), mis_b, if_neg (by decide)]
    refine ⟨0, _, si (misU u) 222 0 (40 * p + o) (u.1 205 0 0), rfl, ?_, C4, R4 _ _ mis_rb, Or.inr ⟨rfl, ?_⟩⟩
    · rcases tv_n3 h.at.tv q with t | ⟨l, l1, l2, l3⟩
      · rw [if_neg t]; exact h17
      · have l4 : ¬ u.1 205 0 0 < 8 := by rw [l3]; exact nI_nlt (b := 8) l1 (by omega)
        rw [if_neg l4]
        split
        · exact h17
        · exact h17
    · obtain ⟨k', f1, f2, f3, f4, f5⟩ := fl_here m4
      exact ⟨k', f1, f2, f3, by rw [si_o (by decide)]; exact f4, by rw [si_o (by decide)]; exact f5⟩
theorem it_num {sT s u : St} {z cnt p k n un f e d o B : Nat} {E : Nat → Nat} {b : Int64} (X : CX sT z cnt E) (hp : p < 12) (h : BS sT z cnt E p s u k n un f e d) (ho : o < 40) (hB : B ≤ 1000000000) (hb : ∀ v, v < 1000000000 → (b < (nI v).toInt64 ↔ B ≤ v)) :
    ∃ v s' u', k_isNumberOf (nI o) 4 (nI B) s = some (v, s') ∧ r_takeNumber (nI (40 * p + o)) b u = some u' ∧ CB (Xc 70 o) p n f s s' ∧ RB (Xc 223 (40 * p + o)) p n e d u u' ∧ ((v = 1 ∧ BS sT z cnt E p s' u' (k + 1) n un f e d ∧ ∃ b, b < B ∧ s'.1 70 p o = nI b ∧ u'.1 223 0 (40 * p + o) = nI b) ∨ (v = 0 ∧ FL sT cnt k s' u')) := by
  have c8 := X.c8; have kl := h.at.kl
  have m4 : BS sT z cnt E p (si s 70 p o (sT.1 97 0 k)) u k n un f e d := h.to (fun id q => si_id (by omega)) (fun _ _ => rfl) rfl
  have C4 : CB (Xc 70 o) p n f s (si s 70 p o (sT.1 97 0 k)) := (CB.refl s).si (Or.inr (Or.inl ⟨by omega, by omega, Or.inr ⟨rfl, rfl⟩⟩)) trivial
  have h17 : r_takeNumber_17 (nI (40 * p + o)) u = some (misU u) := by
    unfold r_takeNumber_17 r_takeNumber_21
    rw [r_mis h.bd, cal_s, bnd_d, mis_b, if_neg (by decide)]
  have tn := tv_num h.at.tv
  rw [k_nmb X hp h ho]
  unfold r_takeNumber
  rw [bnd_d, bnd_d]
  by_cases q : KK sT k = 4
  · obtain ⟨v, v1, v2, v3, v4⟩ := tv_4 h.at.tv q
    rw [v2, if_pos v3, v4]
    rw [v2] at m4 C4
    by_cases t : B ≤ v
    · rw [if_pos (nI_le t (by omega)), if_pos ((hb v v1).mpr t), h17]
      exact ⟨0, _, _, rfl, rfl, C4, mis_rb, Or.inr ⟨rfl, fl_here m4⟩⟩
    · have h4 : BS sT z cnt E p (si s 70 p o (nI v)) (si u 223 0 (40 * p + o) (nI v)) k n un f e d := h.to (fun id q => si_id (by omega)) (fun id q => si_id (by omega)) rfl
      obtain ⟨u', r1, r2, r3⟩ := h4.nx X (fun z => by rw [z] at q; exact absurd q (by decide))
      rw [if_neg (nI_ge (by omega) (by omega)), if_pos q, if_neg (fun z => t ((hb v v1).mp z))]
      refine ⟨1, _, u', rfl, ?_, CB_at C4, ((RB.refl u).si (Or.inr (Or.inr (Or.inr (Or.inl ⟨by omega, by omega, by omega, by omega, Or.inr ⟨rfl, rfl⟩⟩))))).fx r2, Or.inl ⟨rfl, r3, v, by omega, by rw [si_o (by decide), si_eq], by rw [r2.1 223 (by omega), si_eq]⟩⟩
      unfold r_takeNumber_21
      rw [bnd_d, h.bd, if_pos rfl, bnd_d, v4, gI (by omega) (by decide), nI_clamp (by omega), show ((nI v).toInt64).toInt32 = nI v from Int32.toInt32_toInt64 _, r1, cal_s]
  · have hC : ∃ s', (if nI B ≤ sT.1 97 0 k then some ((0 : Int32), si s 70 p o (sT.1 97 0 k)) else if KK sT k = 4 then some (1, si (si s 70 p o (sT.1 97 0 k)) 50 0 0 (nI (k + 1))) else some (0, si s 70 p o (sT.1 97 0 k))) = some (0, s') ∧ s' = si s 70 p o (sT.1 97 0 k) := by
      rw [if_neg q]
      split <;> exact ⟨_, rfl, rfl⟩
    obtain ⟨s', hC, rfl⟩ := hC
    rw [hC, if_neg (fun z => q (tn.mp z)), h17]
    exact ⟨0, _, _, rfl, rfl, C4, mis_rb, Or.inr ⟨rfl, fl_here m4⟩⟩
