/-! exps on both sides: a unary begins -/
def misU (u : St) : St := si (si u 208 0 0 1) 209 0 0 (u.1 204 0 0)
theorem r_mis {u : St} (h : u.1 208 0 0 = 0) : r_misplaced u = some (misU u) := by
  unfold r_misplaced misU
  rw [bnd_d, h, if_pos rfl, bnd_d, bnd_d, si_o (by decide), bnd_d]
theorem r_mis1 {u : St} (h : u.1 208 0 0 = 1) : r_misplaced u = some u := by
  unfold r_misplaced
  rw [bnd_d, h, if_neg (by decide)]
/-- the reference's readUnary, by the token -/
theorem r_rU {sT s u : St} {z cnt p f e k un c a w lv : Nat} {E : Nat → Nat} {Q : List Int32} (hp : p < 12) (h : XS sT z cnt E p f e s u k un c a w lv Q) (hun : un ≤ 60) (hw : w ≤ 8) :
    r_readUnary u = if KK sT k = 45 ∨ KK sT k = 40 then (if un = 60 ∨ w = 8 then some (0, misU u) else r_readUnary_86 1 u) else if KK sT k = 4 ∨ KK sT k = 2 then (if un = 60 then some (0, misU u) else r_readUnary_86 0 u) else some (0, misU u) := by
  have tv := h.at.tv
  have s45 := tv_sign (c := 45) tv (by decide)
  have s40 := tv_sign (c := 40) tv (by decide)
  have r80 : r_readUnary_80 u = some (0, misU u) := by unfold r_readUnary_80; rw [r_mis h.bd, cal_s]
  have r48 : ∀ x y, r_readUnary_48 x y u = if y = 0 then some (0, misU u) else if un = 60 then some (0, misU u) else if x = 0 then r_readUnary_86 x u else if w = 8 then some (0, misU u) else r_readUnary_86 x u := fun x y => by
    unfold r_readUnary_48
    rw [r80, bnd_d, h.rd, gI (by omega) (by decide), nI_clamp (by omega), h.u2, bnd_d, h.op]
    by_cases q : un = 60
    · rw [if_pos (show nI un = 60 by rw [q]; rfl), if_pos q]
    · rw [if_neg (show ¬ nI un = 60 from fun z => q ((nI_eq (b := 60) (by omega) (by decide)).mp z)), if_neg q]
      by_cases q2 : w = 8
      · rw [if_pos (show nI w = 8 by rw [q2]; rfl), if_pos q2]
      · rw [if_neg (show ¬ nI w = 8 from fun z => q2 ((nI_eq (b := 8) (by omega) (by decide)).mp z)), if_neg q2]
  unfold r_readUnary r_readUnary_18 r_readUnary_23 r_readUnary_43
  rw [show r_isSign 45 u = _ from s45, cal2_s]
  have k45 : (sT.1 96 0 k = nI 45) ↔ KK sT k = 45 := Iff.rfl
  have k40 : (sT.1 96 0 k = nI 40) ↔ KK sT k = 40 := Iff.rfl
  by_cases a45 : KK sT k = 45
  · rw [if_pos (k45.mpr a45), if_neg (by decide), if_neg (by decide), r48, if_neg (show ¬ (1 : Int32) = 0 by decide), if_neg (show ¬ (1 : Int32) = 0 by decide), if_pos (Or.inl a45)]
    by_cases q : un = 60
    · rw [if_pos q, if_pos (Or.inl q)]
    · rw [if_neg q]
      by_cases q2 : w = 8
      · rw [if_pos q2, if_pos (Or.inr q2)]
      · rw [if_neg q2, if_neg (fun z => z.elim q q2)]
  · rw [if_neg (fun z => a45 (k45.mp z)), if_pos rfl, show r_isSign 40 u = _ from s40, cal2_s]
    by_cases a40 : KK sT k = 40
    · rw [if_pos (k40.mpr a40), if_neg (by decide), if_neg (by decide), r48, if_neg (show ¬ (1 : Int32) = 0 by decide), if_neg (show ¬ (1 : Int32) = 0 by decide), if_pos (Or.inr a40)]
      by_cases q : un = 60
      · rw [if_pos q, if_pos (Or.inl q)]
      · rw [if_neg q]
        by_cases q2 : w = 8
        · rw [if_pos q2, if_pos (Or.inr q2)]
        · rw [if_neg q2, if_neg (fun z => z.elim q q2)]
    · rw [if_neg (fun z => a40 (k40.mp z)), if_pos rfl, if_pos rfl, bnd_d, if_neg (show ¬ (KK sT k = 45 ∨ KK sT k = 40) from fun z => z.elim a45 a40)]
      by_cases a4 : KK sT k = 4
      · rw [if_pos ((tv_num tv).mpr a4), r48, if_neg (by decide), if_pos (Or.inl a4), if_pos rfl]
      · rw [if_neg (fun z => a4 ((tv_num tv).mp z)), tv_loc tv, cal2_s]
        by_cases a2 : KK sT k = 2
        · rw [if_pos (show sT.1 96 0 k = 2 from a2), if_neg (by decide), r48, if_neg (by decide), if_pos (Or.inr a2), if_pos rfl]
        · rw [if_neg (show ¬ sT.1 96 0 k = 2 from a2), if_pos rfl, r48, if_pos rfl, if_neg (show ¬ (KK sT k = 4 ∨ KK sT k = 2) from fun z => z.elim a4 a2)]
def unS (s : St) (p un k : Nat) : St := si (si s 65 p 0 (nI (un + 1))) 50 0 0 (nI (k + 1))
theorem un_F {s : St} {p f un k : Nat} : FCx p f s (unS s p un k) := by
  refine ⟨fun id z => ?_, rfl, fun id o i z z2 => ?_, fun id i z z2 => ?_⟩
  · unfold unS; rw [si_id (by omega), si_id (by omega)]
  · unfold unS; rw [si_o (by omega), si_ne (fun q => z2 q.2.1)]
  · unfold unS; rw [si_o (by omega), si_o (by omega)]
theorem un_o {s : St} {p un k id o i : Nat} (h : ¬ (id = 65 ∨ id = 50)) : (unS s p un k).1 id o i = s.1 id o i := by unfold unS; rw [si_o (by omega), si_o (by omega)]
/-- '-' or '(' -/
theorem xs_in {sT s u : St} {z cnt p f e k un c w lv : Nat} {E : Nat → Nat} {Q : List Int32} (X : CX sT z cnt E) (hp : p < 12) (h : XS sT z cnt E p f e s u k un c c w lv Q) (hK : KK sT k = 45 ∨ KK sT k = 40) (hun : un < 60) (hw : w < 8) (hQ : Q.length < 63) (hlv : lv ≤ 8) :
    ∃ u', r_readUnary u = some (1, u') ∧ FAx p e u u' ∧ ((KK sT k = 45 ∧ XS sT z cnt E p f e (unS s p un k) u' (k + 1) (un + 1) c c (w + 1) lv (1000 :: Q) ∧ u'.1 231 = u.1 231) ∨ (KK sT k = 40 ∧ XS sT z cnt E p f e (unS s p un k) u' (k + 1) (un + 1) c c (w + 1) (lv + 1) (40 :: Q) ∧ u'.1 231 0 (lv + 1) = 0 ∧ ∀ j, j ≤ lv → u'.1 231 0 j = u.1 231 0 j)) := by
  have tv := h.at.tv
  rw [r_rU hp h (by omega) (by omega), if_pos hK, if_neg (by omega)]
  have hK0 : ¬ KK sT k = 0 := by rcases hK with q | q <;> (rw [q]; decide)
  have s40 := tv_sign (c := 40) tv (by decide)
  -- the state before next
  have gen : ∀ (y : Int32) (lv' : Nat) (V : St), V.2 = u.2 → (∀ id, ¬ (id = 212 ∨ id = 228 ∨ id = 229 ∨ id = 230 ∨ id = 231 ∨ id = 232) → V.1 id = u.1 id) → V.1 212 0 p = nI (un + 1) → (∀ q, q ≠ p → V.1 212 0 q = u.1 212 0 q) → V.1 230 0 0 = nI (w + 1) → V.1 232 0 0 = nI lv' → PQ V (y :: Q) → (∀ j, j ≤ lv' → zo (V.1 231 0 j)) →
      ∃ u', r_readUnary_178 V = some (1, u') ∧ FAx p e u u' ∧ XS sT z cnt E p f e (unS s p un k) u' (k + 1) (un + 1) c c (w + 1) lv' (y :: Q) ∧ u'.1 231 = V.1 231 := fun y lv' V v2 vo v12 v12' v30 v32 vq vz => by
    have atV : At sT z cnt E (si s 65 p 0 (nI (un + 1))) V k := h.at.to (si_o (by decide)) (fun id _ _ => si_id (by omega)) (fun id q1 q2 => vo id (by omega)) (by rw [v2])
    obtain ⟨u', r1, r2, r3⟩ := atV.nxt X hK0
    have FV : FAx p e u V := ⟨fun id q => vo id (by omega), fun id _ => by rw [v2], fun q hq => ⟨by rw [vo 215 (by omega)], v12' q hq⟩, fun id i q _ => by rw [vo id (by omega)], fun i _ => by rw [v2], fun z => ⟨by rw [vo 208 (by omega)] at z; exact z, vo 209 (by omega)⟩⟩
    have uo : ∀ id, ¬ (id = 212 ∨ id = 228 ∨ id = 229 ∨ id = 230 ∨ id = 231 ∨ id = 232 ∨ (202 ≤ id ∧ id ≤ 207)) → u'.1 id = u.1 id := fun id q => (r2.1 id (by omega)).trans (vo id (by omega))
    refine ⟨u', by unfold r_readUnary_178; rw [r1, cal_s], FV.fx r2, ⟨r3, by rw [un_o (by decide)]; exact h.pp, by rw [uo 227 (by omega)]; exact h.rd, by unfold unS; rw [si_o (by decide), si_eq], by rw [r2.1 212 (by omega)]; exact v12, by rw [uo 208 (by omega)]; exact h.bd, by rw [un_o (by decide)]; exact h.cc, by rw [uo 215 (by omega)]; exact h.ac, fun i i1 i2 => ?_, fun i i1 i2 => by omega, vq.to (r2.1 228 (by omega)) (r2.1 229 (by omega)), by rw [r2.1 230 (by omega)]; exact v30, by rw [r2.1 232 (by omega)]; exact v32, fun j hj => by rw [r2.1 231 (by omega)]; exact vz j hj⟩, r2.1 231 (by omega)⟩
    exact CdR_to (h.aa i i1 i2) (un_o (by decide)) (un_o (by decide)) (by rw [uo 224 (by omega)]) (by rw [uo 225 (by omega)]) (by rw [r2.2 226 (by decide), v2])
  unfold r_readUnary_86
  rw [bnd_d, h.rd, gI (by omega) (by decide), nI_clamp (by omega), h.u2, gI (by omega) (by decide), nI_1, if_neg (by decide), bnd_d, si_o (by decide), h.op, nI_1, bnd_d, bnd_d, si_o (by decide), si_o (by decide), h.pq.1]
  have tvW : TkV (sT.1 96 0 k) (sT.1 97 0 k) (sT.1 98 0 k) (si (si u 212 0 p (nI (un + 1))) 230 0 0 (nI (w + 1))) := by
    have := (h.at.to (s' := s) (u' := si (si u 212 0 p (nI (un + 1))) 230 0 0 (nI (w + 1))) rfl (fun _ _ _ => rfl) (fun id q1 q2 => by rw [si_id (by omega), si_id (by omega)]) rfl).tv
    exact this
  rw [show r_isSign 40 (si (si u 212 0 p (nI (un + 1))) 230 0 0 (nI (w + 1))) = _ from tv_sign (c := 40) tvW (by decide), cal2_s]
  have hpush : ∀ y, PQ (si (si (si (si u 212 0 p (nI (un + 1))) 230 0 0 (nI (w + 1))) 228 0 Q.length y) 229 0 0 (nI (Q.length + 1))) (y :: Q) := fun y => PQ.push (h.pq.to (by rw [si_id (by decide), si_id (by decide)]) (by rw [si_id (by decide), si_id (by decide)]))
  have tvZ : ∀ y, TkV (sT.1 96 0 k) (sT.1 97 0 k) (sT.1 98 0 k) (si (si (si (si u 212 0 p (nI (un + 1))) 230 0 0 (nI (w + 1))) 228 0 Q.length y) 229 0 0 (nI (Q.length + 1))) := fun y =>
    (h.at.to (s' := s) (u' := si (si (si (si u 212 0 p (nI (un + 1))) 230 0 0 (nI (w + 1))) 228 0 Q.length y) 229 0 0 (nI (Q.length + 1))) rfl (fun _ _ _ => rfl) (fun id q1 q2 => by rw [si_id (by omega), si_id (by omega), si_id (by omega), si_id (by omega)]) rfl).tv
  rcases hK with a45 | a40
  · have n40 : ¬ sT.1 96 0 k = nI 40 := by show ¬ KK sT k = nI 40; rw [a45]; decide
    rw [if_neg n40, if_pos rfl]
    unfold r_readUnary_138
    rw [gI (by omega) (by decide), nI_clamp (by omega), bnd_d, si_o (by decide), si_o (by decide), si_o (by decide), h.pq.1, nI_1, bnd_d, show r_isSign 40 _ = _ from tv_sign (c := 40) (tvZ 1000) (by decide), cal2_s, if_neg n40, if_pos rfl]
    obtain ⟨u', r1, r2, r3, r4⟩ := gen 1000 lv (si (si (si (si u 212 0 p (nI (un + 1))) 230 0 0 (nI (w + 1))) 228 0 Q.length 1000) 229 0 0 (nI (Q.length + 1))) rfl (fun id q => by rw [si_id (by omega), si_id (by omega), si_id (by omega), si_id (by omega)]) (by rw [si_o (by decide), si_o (by decide), si_o (by decide), si_eq]) (fun q hq => by rw [si_o (by decide), si_o (by decide), si_o (by decide), si_q hq]) (by rw [si_o (by decide), si_o (by decide), si_eq]) (by rw [si_o (by decide), si_o (by decide), si_o (by decide), si_o (by decide)]; exact h.le) (hpush 1000) (fun j hj => by rw [si_o (by decide), si_o (by decide), si_o (by decide), si_o (by decide)]; exact h.zc j hj)
    exact ⟨u', r1, r2, Or.inl ⟨a45, r3, by rw [r4, si_id (by decide), si_id (by decide), si_id (by decide), si_id (by decide)]⟩⟩
  · have y40 : sT.1 96 0 k = nI 40 := a40
    rw [if_pos y40, if_neg (by decide)]
    unfold r_readUnary_138
    rw [gI (by omega) (by decide), nI_clamp (by omega), bnd_d, si_o (by decide), si_o (by decide), si_o (by decide), h.pq.1, nI_1, bnd_d, show r_isSign 40 _ = _ from tv_sign (c := 40) (tvZ 40) (by decide), cal2_s, if_pos y40, if_neg (by decide), bnd_d, si_o (by decide), si_o (by decide), si_o (by decide), si_o (by decide), h.le, bnd_d, nI_1, bnd_d, si_eq, gZ (by omega) (by decide) zo0, nI_clamp (by omega)]
    have pq2 : PQ (si (si (si (si (si (si u 212 0 p (nI (un + 1))) 230 0 0 (nI (w + 1))) 228 0 Q.length 40) 229 0 0 (nI (Q.length + 1))) 232 0 0 (nI (lv + 1))) 231 0 (lv + 1) 0) (40 :: Q) := (hpush 40).to (by rw [si_id (by decide), si_id (by decide)]) (by rw [si_id (by decide), si_id (by decide)])
    obtain ⟨u', r1, r2, r3, r4⟩ := gen 40 (lv + 1) (si (si (si (si (si (si u 212 0 p (nI (un + 1))) 230 0 0 (nI (w + 1))) 228 0 Q.length 40) 229 0 0 (nI (Q.length + 1))) 232 0 0 (nI (lv + 1))) 231 0 (lv + 1) 0) rfl (fun id q => by rw [si_id (by omega), si_id (by omega), si_id (by omega), si_id (by omega), si_id (by omega), si_id (by omega)]) (by rw [si_o (by decide), si_o (by decide), si_o (by decide), si_o (by decide), si_o (by decide), si_eq]) (fun q hq => by rw [si_o (by decide), si_o (by decide), si_o (by decide), si_o (by decide), si_o (by decide), si_q hq]) (by rw [si_o (by decide), si_o (by decide), si_o (by decide), si_o (by decide), si_eq]) (by rw [si_o (by decide), si_eq]) pq2 (fun j hj => by
      by_cases ej : j = lv + 1
      · rw [ej, si_eq]; exact zo0
      · rw [si_q ej, si_o (by decide), si_o (by decide), si_o (by decide), si_o (by decide), si_o (by decide)]; exact h.zc j (by omega))
    refine ⟨u', r1, r2, Or.inr ⟨a40, r3, by rw [r4, si_eq], fun j hj => ?_⟩⟩
    rw [r4, si_q (by omega), si_o (by decide), si_o (by decide), si_o (by decide), si_o (by decide), si_o (by decide)]
/-- an operand -/
theorem xs_opnd {sT s u : St} {z cnt p f e k un c w lv j : Nat} {E : Nat → Nat} {B : List Int32} (X : CX sT z cnt E) (hp : p < 12) (h : XS sT z cnt E p f e s u k un c c w lv (List.replicate j 1000 ++ B)) (hB : noM B) (hK : KK sT k = 4 ∨ KK sT k = 2) (hun : un < 60) (hj : j ≤ w) (hw : w ≤ 8) (hQ : j + B.length < 63) (h2 : e + c + 1 + j < 200) :
    ∃ u', r_readUnary u = some (0, u') ∧ FAx p e u u' ∧ XS sT z cnt E p f e (adC (unS s p un k) p (f + c) (KK sT k) (sT.1 97 0 k)) u' (k + 1) (un + 1) (c + 1) (c + 1 + j) (w - j) lv B ∧ u'.1 231 = u.1 231 := by
  have tv := h.at.tv
  have n1 : ¬ (KK sT k = 45 ∨ KK sT k = 40) := fun z => by rcases hK with q | q <;> (rw [q] at z; revert z; decide)
  have hK0 : ¬ KK sT k = 0 := by rcases hK with q | q <;> (rw [q]; decide)
  rw [r_rU hp h (by omega) hw, if_neg n1, if_pos hK, if_neg (by omega)]
  have so : ∀ id, ¬ id = 212 → (si u 212 0 p (nI (un + 1))).1 id = u.1 id := fun id q => si_id q
  -- act, next, minuses
  have gen : ∀ (a1 a2 : Int32) (a3 : Int64), CdR (adC (unS s p un k) p (f + c) (KK sT k) (sT.1 97 0 k)) (acU (si u 212 0 p (nI (un + 1))) p (e + c) a1 a2 a3) p (f + c) (200 * p + e + c) → ∃ u', r_readUnary_230 a3 a2 a1 (si u 212 0 p (nI (un + 1))) = some (0, u') ∧ FAx p e u u' ∧ XS sT z cnt E p f e (adC (unS s p un k) p (f + c) (KK sT k) (sT.1 97 0 k)) u' (k + 1) (un + 1) (c + 1) (c + 1 + j) (w - j) lv B ∧ u'.1 231 = u.1 231 := fun a1 a2 a3 hcd => by
    unfold r_readUnary_230 r_operandIsThere
    rw [r_act_eq (a := e + c) hp (by omega) (by rw [si_o (by decide)]; exact h.rd) (by rw [si_o (by decide)]; exact h.ac), cal_s]
    have F1 : FAx p e u (acU (si u 212 0 p (nI (un + 1))) p (e + c) a1 a2 a3) := by
      refine FAx.act (v := si u 212 0 p (nI (un + 1))) ⟨fun id q => si_id (by omega), fun _ _ => rfl, fun q hq => ⟨si_o (by decide), si_q hq⟩, fun id i q _ => si_o (by omega), fun _ _ => rfl, fun z => ⟨by rw [si_o (by decide)] at z; exact z, si_id (by decide)⟩⟩ (by omega)
    have ao : ∀ id, ¬ (id = 212 ∨ id = 215 ∨ id = 224 ∨ id = 225) → (acU (si u 212 0 p (nI (un + 1))) p (e + c) a1 a2 a3).1 id = u.1 id := fun id q => by rw [ac_id (by omega), si_id (by omega)]
    have atV : At sT z cnt E (si s 65 p 0 (nI (un + 1))) (acU (si u 212 0 p (nI (un + 1))) p (e + c) a1 a2 a3) k := h.at.to (si_o (by decide)) (fun id _ _ => si_id (by omega)) (fun id q1 q2 => ao id (by omega)) (by rw [ac_2 (by decide)]; rfl)
    obtain ⟨u1, r1, r2, r3⟩ := atV.nxt X hK0
    have r3' : At sT z cnt E (adC (unS s p un k) p (f + c) (KK sT k) (sT.1 97 0 k)) u1 (k + 1) := r3.to (ad_o (by decide)) (fun id _ _ => by funext o i; exact ad_o (by omega)) (fun _ _ _ => rfl) rfl
    have X1 : XS sT z cnt E p f e (adC (unS s p un k) p (f + c) (KK sT k) (sT.1 97 0 k)) u1 (k + 1) (un + 1) (c + 1) (c + 1) w lv (List.replicate j 1000 ++ B) := by
      refine ⟨r3', by rw [ad_o (by decide), un_o (by decide)]; exact h.pp, by rw [r2.1 227 (by omega), ao 227 (by omega)]; exact h.rd, by rw [ad_o (by decide)]; unfold unS; rw [si_o (by decide), si_eq], by rw [r2.1 212 (by omega), ac_o (by decide), si_eq], by rw [r2.1 208 (by omega), ao 208 (by omega)]; exact h.bd, by rw [ad_v.2.2]; rfl, by rw [r2.1 215 (by omega), ac_215]; rfl, fun i i1 i2 => ?_, fun i i1 i2 => by omega, h.pq.to (by rw [r2.1 228 (by omega), ao 228 (by omega)]) (by rw [r2.1 229 (by omega), ao 229 (by omega)]), by rw [r2.1 230 (by omega), ao 230 (by omega)]; exact h.op, by rw [r2.1 232 (by omega), ao 232 (by omega)]; exact h.le, fun q hq => by rw [r2.1 231 (by omega), ao 231 (by omega)]; exact h.zc q hq⟩
      by_cases ei : i = c
      · subst ei
        exact CdR_to hcd rfl rfl (by rw [r2.1 224 (by omega)]) (by rw [r2.1 225 (by omega)]) (by rw [r2.2 226 (by decide)])
      · refine CdR_to (h.aa i (by omega) (by omega)) ?_ ?_ ?_ ?_ ?_
        · rw [ad_q (Or.inl rfl) (by omega), un_o (by decide)]
        · rw [ad_q (Or.inr rfl) (by omega), un_o (by decide)]
        · rw [r2.1 224 (by omega), ac_q (Or.inl rfl) (by omega), si_o (by decide)]
        · rw [r2.1 225 (by omega), ac_q (Or.inr rfl) (by omega), si_o (by decide)]
        · rw [r2.2 226 (by decide), ac_q2 (by omega)]; rfl
    obtain ⟨u2, p1, p2, p3, p4⟩ := xs_pop hp hB j (c + 1) w 70 u1 X1 (Nat.le_refl _) hj hw (by omega) hQ (by omega)
    refine ⟨u2, by rw [r1, cal_s, p1, cal_s], (F1.fx r2).trans p3, p2, ?_⟩
    rw [p4 231 (by omega), r2.1 231 (by omega), ao 231 (by omega)]
  unfold r_readUnary_86
  rw [bnd_d, h.rd, gI (by omega) (by decide), nI_clamp (by omega), h.u2, gI (by omega) (by decide), nI_1, if_pos rfl, bnd_d, si_o (by decide)]
  unfold r_readUnary_198 r_readUnary_214
  simp only [bnd_d]
  rw [si_o (by decide), si_o (by decide)]
  have cv := ad_v (s := unS s p un k) (p := p) (n := f + c) (x := KK sT k) (y := sT.1 97 0 k)
  rcases hK with a4 | a2
  · have t3 := (tv_num tv).mpr a4
    rw [t3, if_pos rfl, if_neg (by decide), if_pos rfl, si_2]
    refine gen 1 (-1) _ (Or.inl ⟨by rw [cv.1, a4], ?_, ?_⟩)
    · rw [show 200 * p + e + c = 200 * p + (e + c) by omega, ac_v.1]
    · rw [show 200 * p + e + c = 200 * p + (e + c) by omega, ac_v.2.2, cv.2.1]
      rcases tv.2 with ⟨q, _⟩ | ⟨q, _⟩ | ⟨q, _⟩ | ⟨q, _⟩ | ⟨_, v, v1, v2, v3, v4⟩ | ⟨w', w1, q, _⟩ | ⟨g, g1, q, _⟩
      · exact absurd (q.symm.trans a4) (by decide)
      · exact absurd (q.symm.trans a4) (by decide)
      · exact absurd (q.symm.trans a4) (by decide)
      · exact absurd (q.symm.trans a4) (by decide)
      · rw [v4, v2]
      · have := (nI_eq (b := 4) (by omega) (by decide)).mp (q.symm.trans a4); omega
      · have := isG_lt g1
        have := (nI_eq (b := 4) (by omega) (by decide)).mp (q.symm.trans a4); omega
  · rcases tv.2 with ⟨q, _⟩ | ⟨q, _⟩ | ⟨_, b, b1, b2, b3, b4⟩ | ⟨q, _⟩ | ⟨q, _⟩ | ⟨w', w1, q, _⟩ | ⟨g, g1, q, _⟩
    · exact absurd (q.symm.trans a2) (by decide)
    · exact absurd (q.symm.trans a2) (by decide)
    · rw [b3, if_neg (by decide), if_pos rfl, if_neg (by decide), b4]
      refine gen 2 _ 0 (Or.inr (Or.inl ⟨by rw [cv.1, a2], ?_, b, b1, ?_, ?_⟩))
      · rw [show 200 * p + e + c = 200 * p + (e + c) by omega, ac_v.1]
      · rw [cv.2.1, b2]
      · rw [show 200 * p + e + c = 200 * p + (e + c) by omega, ac_v.2.1]
    · exact absurd (q.symm.trans a2) (by decide)
    · exact absurd (q.symm.trans a2) (by decide)
    · have := (nI_eq (b := 2) (by omega) (by decide)).mp (q.symm.trans a2); omega
    · have := isG_lt g1
      have := (nI_eq (b := 2) (by omega) (by decide)).mp (q.symm.trans a2); omega
