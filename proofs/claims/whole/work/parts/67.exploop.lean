/-! exps on both sides: the reference's loop -/
theorem ex_step {N : Nat} {x x2 : Int32} {u : St} (hb : u.1 208 0 0 = 0) : r_exp_45 (N + 1) x x2 1 u = if x2 = 0 then (cal2 (r_isSign (41 : Int32) u) fun v17 s16 => if v17 = 0 then (r_exp_130 (r_exp_45 N) x x2 1 s16) else (bnd (s16.1 232 0 0) fun v44 => if v44 ≤ 0 then (r_exp_130 (r_exp_45 N) x x2 1 s16) else (cal (r_reduce (1 : Int32) s16) fun s45 => bnd (s45.1 229 0 0) fun v47 => bnd (si s45 229 0 0 (v47 - (1 : Int32))) fun s48 => bnd (s48.1 232 0 0) fun v49 => bnd (si s48 232 0 0 (v49 - (1 : Int32))) fun s50 => bnd (s50.1 230 0 0) fun v51 => bnd (si s50 230 0 0 (v51 - (1 : Int32))) fun s52 => cal (r_next  s52) fun s53 => cal (r_operandIsThere  s53) fun s55 => r_exp_45 N x x2 1 s55))) else (cal2 (r_readUnary  u) fun v58 s57 => r_exp_45 N x v58 1 s57) := by
  rw [r_exp_45.eq_2, if_neg (by decide), bnd_d, hb, if_pos rfl]
/-- a wanted unary -/
theorem ex_want {N : Nat} {x v : Int32} {u u' : St} (hb : u.1 208 0 0 = 0) (h : r_readUnary u = some (v, u')) : r_exp_45 (N + 1) x 1 1 u = r_exp_45 N x v 1 u' := by
  rw [ex_step hb, if_neg (by decide), h, cal2_s]
/-- the registers tell the sign -/
theorem tv_op {K V P : Int32} {u : St} (h : TkV K V P u) : (u.1 203 0 0 = 4 ∧ u.1 207 0 0 = K) ∨ (¬ u.1 203 0 0 = 4 ∧ stg K = 0 ∧ ¬ K = 41) := by
  have s0 : ∀ q : Nat, q < 35 → stg (nI q) = 0 ∧ ¬ nI q = 41 := fun q hq => by
    have no : ∀ r : Nat, 35 ≤ r → r < 256 → ¬ nI q = nI r := fun r h1 h2 e => by have := (nI_eq (by omega) (by omega)).mp e; omega
    refine ⟨?_, no 41 (by decide) (by decide)⟩
    unfold stg
    rw [if_neg (show ¬ nI q = 42 from no 42 (by decide) (by decide)), if_neg (show ¬ nI q = 43 from no 43 (by decide) (by decide)), if_neg (show ¬ nI q = 45 from no 45 (by decide) (by decide)), if_neg (show ¬ nI q = 60 from no 60 (by decide) (by decide)), if_neg (show ¬ nI q = 61 from no 61 (by decide) (by decide)), if_neg (show ¬ nI q = 35 from no 35 (by decide) (by decide))]
  rcases h.2 with ⟨a, b⟩ | ⟨a, b | ⟨b, -⟩⟩ | ⟨a, _, _, _, b, _⟩ | ⟨a, _, _, _, b, _⟩ | ⟨a, _, _, _, b, _⟩ | ⟨w, w1, a, b⟩ | ⟨g, g1, a, b, d⟩
  · exact Or.inr ⟨by rw [b]; decide, by rw [a]; exact s0 0 (by decide)⟩
  · exact Or.inr ⟨by rw [b]; decide, by rw [a]; exact s0 1 (by decide)⟩
  · exact Or.inr ⟨by rw [b]; decide, by rw [a]; exact s0 1 (by decide)⟩
  · exact Or.inr ⟨by rw [b]; decide, by rw [a]; exact s0 2 (by decide)⟩
  · exact Or.inr ⟨by rw [b]; decide, by rw [a]; exact s0 3 (by decide)⟩
  · exact Or.inr ⟨by rw [b]; decide, by rw [a]; exact s0 4 (by decide)⟩
  · exact Or.inr ⟨by rw [b]; exact fun q => by have := (nI_eq (b := 4) (by omega) (by decide)).mp q; omega, by rw [a]; exact s0 (5 + w) (by omega)⟩
  · exact Or.inl ⟨b, by rw [d, a]⟩
/-- a sign between two operands -/
theorem ex_bin {sT s u : St} {z cnt p f e k un c a w lv n : Nat} {E : Nat → Nat} {Pe B : List Int32} {x : Int32} (X : CX sT z cnt E) (hp : p < 12) (h : XS sT z cnt E p f e s u k un c a w lv (Pe ++ B)) (hn : n = if stg (KK sT k) = 1 then 2 else stg (KK sT k)) (h1 : 1 ≤ stg (KK sT k)) (hcmp : stg (KK sT k) = 1 → u.1 231 0 lv = 0)
    (hc : c = a + Pe.length) (hP : PD s p f a Pe) (hS : ∀ y, y ∈ Pe → n ≤ stg y) (hB : stops n B) (h2 : e + c < 200) (hl : Pe.length + B.length < 62) (hlv : lv ≤ 8) :
    ∃ u', (∀ N, r_exp_45 (N + 1) x 0 1 u = r_exp_45 N x 1 1 u') ∧ XS sT z cnt E p f e (si s 50 0 0 (nI (k + 1))) u' (k + 1) un c c w lv (KK sT k :: B) ∧ FAx p e u u' ∧ u'.1 231 0 lv = (if stg (KK sT k) = 1 then 1 else u.1 231 0 lv) ∧ ∀ j, j ≠ lv → u'.1 231 0 j = u.1 231 0 j := by
  have g3 := stg_le (KK sT k)
  have tv := h.at.tv
  have K0 : ¬ KK sT k = 0 := fun q => by rw [q] at h1; exact absurd h1 (by decide)
  have K41 : ¬ sT.1 96 0 k = nI 41 := fun q => by rw [show KK sT k = nI 41 from q] at h1; exact absurd h1 (by decide)
  obtain ⟨t3, t7⟩ : u.1 203 0 0 = 4 ∧ u.1 207 0 0 = KK sT k := by
    rcases tv_op tv with q | q
    · exact q
    · have := q.2.1
      unfold KK at h1; omega
  -- compared
  obtain ⟨y0, hy0, hy1⟩ : ∃ y0 : Int32, zo y0 ∧ y0 = (if stg (KK sT k) = 1 then 1 else u.1 231 0 lv) := ⟨_, by split; (· exact zo1); (· exact h.zc lv (Nat.le_refl _)), rfl⟩
  have uo : ∀ id, ¬ id = 231 → (si u 231 0 lv y0).1 id = u.1 id := fun id q => si_id q
  have h' : XS sT z cnt E p f e s (si u 231 0 lv y0) k un c a w lv (Pe ++ B) := by
    refine ⟨h.at.to rfl (fun _ _ _ => rfl) (fun id q1 q2 => uo id (by omega)) rfl, h.pp, by rw [uo 227 (by omega)]; exact h.rd, h.u1, by rw [uo 212 (by omega)]; exact h.u2, by rw [uo 208 (by omega)]; exact h.bd, h.cc, by rw [uo 215 (by omega)]; exact h.ac, fun i i1 i2 => CdR_to (h.aa i i1 i2) rfl rfl (by rw [uo 224 (by omega)]) (by rw [uo 225 (by omega)]) rfl, fun i i1 i2 => by rw [uo 224 (by omega)]; exact h.ah i i1 i2, h.pq.to (uo 228 (by omega)) (uo 229 (by omega)), by rw [uo 230 (by omega)]; exact h.op, by rw [uo 232 (by omega)]; exact h.le, fun j hj => ?_⟩
    by_cases ej : j = lv
    · rw [ej, si_eq]; exact hy0
    · rw [si_q ej]; exact h.zc j hj
  have hn3 : 1 ≤ n ∧ n ≤ 3 := by rw [hn]; split <;> omega
  obtain ⟨u1, r1, r2, r3, r4⟩ := xs_red hp hn3 hB Pe a 70 (si u 231 0 lv y0) h' hc hP hS h2 (by omega) (by omega)
  -- push, next
  have hB6 : B.length < 63 := by omega
  have vo : ∀ id, ¬ (id = 228 ∨ id = 229) → (si (si u1 228 0 B.length (KK sT k)) 229 0 0 (nI (B.length + 1))).1 id = u1.1 id := fun id q => by rw [si_id (by omega), si_id (by omega)]
  have at1 : At sT z cnt E s (si (si u1 228 0 B.length (KK sT k)) 229 0 0 (nI (B.length + 1))) k := r2.at.to rfl (fun _ _ _ => rfl) (fun id q1 q2 => vo id (by omega)) rfl
  obtain ⟨u2, q1, q2, q3⟩ := at1.nxt X K0
  have F : FAx p e u u2 := ((((FAx.refl u).si (by omega)).trans r3).si (by omega) |>.si (by omega)).fx q2
  refine ⟨u2, fun N => ?_, ⟨q3, by rw [si_o (by decide)]; exact r2.pp, by rw [q2.1 227 (by omega), vo 227 (by omega)]; exact r2.rd, by rw [si_o (by decide)]; exact r2.u1, by rw [q2.1 212 (by omega), vo 212 (by omega)]; exact r2.u2, by rw [q2.1 208 (by omega), vo 208 (by omega)]; exact r2.bd, by rw [si_o (by decide)]; exact r2.cc, by rw [q2.1 215 (by omega), vo 215 (by omega)]; exact r2.ac, fun i i1 i2 => CdR_to (r2.aa i i1 i2) (si_o (by decide)) (si_o (by decide)) (by rw [q2.1 224 (by omega), vo 224 (by omega)]) (by rw [q2.1 225 (by omega), vo 225 (by omega)]) (by rw [q2.2 226 (by decide)]; rfl), fun i i1 i2 => by omega, (PQ.push r2.pq).to (q2.1 228 (by omega)) (q2.1 229 (by omega)), by rw [q2.1 230 (by omega), vo 230 (by omega)]; exact r2.op, by rw [q2.1 232 (by omega), vo 232 (by omega)]; exact r2.le, fun j hj => by rw [q2.1 231 (by omega), vo 231 (by omega)]; exact r2.zc j hj⟩, F, ?_, fun j hj => ?_⟩
  · have R234 : ∀ m : Int32, m = nI n → r_exp_234 (r_exp_45 N) x 1 m (si u 231 0 lv y0) = r_exp_45 N x 1 1 u2 := fun m hm => by
      unfold r_exp_234 r_reduce
      rw [hm, r1, cal_s, bnd_d, r2.pq.1, bnd_d, r4 207 (by omega), uo 207 (by omega), t7, gI (by omega) (by decide), nI_clamp (by omega), bnd_d, si_o (by decide), r2.pq.1, bnd_d, nI_1, q1, cal_s]
    have R220 : ∀ y, y = y0 → r_exp_220 (r_exp_45 N) x 1 (nI (stg (KK sT k))) y (nI lv) u = r_exp_45 N x 1 1 u2 := fun y hy => by
      subst hy
      unfold r_exp_220
      rw [gZ (by omega) (by decide) hy0, nI_clamp (by omega)]
      by_cases g1 : stg (KK sT k) = 1
      · rw [if_pos (by rw [g1]; rfl)]; exact R234 2 (by rw [hn, if_pos g1]; rfl)
      · rw [if_neg (fun q => g1 ((nI_o (by omega)).mp q))]; exact R234 _ (by rw [hn, if_neg g1])
    have R180 : r_exp_180 (r_exp_45 N) x 1 u = r_exp_45 N x 1 1 u2 := by
      unfold r_exp_180 r_exp_215
      simp only [bnd_d]
      rw [t7, r_stg, cal2_s, h.le, gI (by omega) (by decide), nI_clamp (by omega)]
      rcases h.zc lv (Nat.le_refl _) with z0 | z1
      · rw [z0, if_pos rfl]
        by_cases g1 : stg (KK sT k) = 1
        · rw [if_pos (by rw [g1]; rfl)]; exact R220 1 (by rw [hy1, if_pos g1])
        · rw [if_neg (fun q => g1 ((nI_o (by omega)).mp q))]; exact R220 0 (by rw [hy1, if_neg g1, z0])
      · rw [z1, if_neg (by decide)]; exact R220 1 (by rw [hy1, z1]; split <;> rfl)
    rw [ex_step h.bd, if_pos rfl, show r_isSign 41 u = _ from tv_sign (c := 41) tv (by decide), cal2_s, if_neg K41, if_pos rfl]
    unfold r_exp_130
    rw [bnd_d, t3, if_pos rfl, bnd_d, t7, r_stg, cal2_s]
    by_cases g1 : stg (KK sT k) = 1
    · rw [if_neg (by rw [g1]; decide)]
      unfold r_exp_149
      rw [bnd_d, t3, if_pos rfl, bnd_d, t7, r_stg, cal2_s, if_pos (by rw [g1]; rfl), bnd_d, h.le, gI (by omega) (by decide), nI_clamp (by omega), if_pos (hcmp g1)]
      exact R180
    · rw [if_pos (show (1 : Int32) < nI (stg (KK sT k)) from nI_lt (a := 1) (by omega) (by omega))]
      exact R180
  · rw [q2.1 231 (by omega), vo 231 (by omega), r4 231 (by omega), si_eq]; exact hy1
  · rw [q2.1 231 (by omega), vo 231 (by omega), r4 231 (by omega), si_q hj]
/-- ')' -/
theorem ex_close {sT s u : St} {z cnt p f e k un c a w lv j : Nat} {E : Nat → Nat} {Pe B : List Int32} {x : Int32} (X : CX sT z cnt E) (hp : p < 12) (h : XS sT z cnt E p f e s u k un c a (w + 1) (lv + 1) (Pe ++ 40 :: (List.replicate j 1000 ++ B))) (hK : KK sT k = 41) (hB : noM B)
    (hc : c = a + Pe.length) (hP : PD s p f a Pe) (hS : ∀ y, y ∈ Pe → 1 ≤ stg y) (h2 : e + c + j < 200) (hl : Pe.length + (1 + (j + B.length)) < 62) (hlv : lv ≤ 8) (hj : j ≤ w) (hw : w ≤ 8) :
    ∃ u', (∀ N, r_exp_45 (N + 1) x 0 1 u = r_exp_45 N x 0 1 u') ∧ XS sT z cnt E p f e (si s 50 0 0 (nI (k + 1))) u' (k + 1) un c (c + j) (w - j) lv B ∧ FAx p e u u' ∧ u'.1 231 = u.1 231 := by
  have tv := h.at.tv
  have K0 : ¬ KK sT k = 0 := by rw [hK]; decide
  have lQ : (40 :: (List.replicate j (1000 : Int32) ++ B)).length = 1 + (j + B.length) := by rw [List.length_cons, List.length_append, List.length_replicate]; omega
  obtain ⟨u1, r1, r2, r3, r4⟩ := xs_red hp ⟨Nat.le_refl 1, by decide⟩ (show stops 1 (40 :: (List.replicate j 1000 ++ B)) from Or.inl rfl) Pe a 70 u h hc hP hS (by omega) (by rw [lQ]; omega) (by omega)
  generalize hQ : List.replicate j (1000 : Int32) ++ B = Q at r2
  have p9 : u1.1 229 0 0 = nI (Q.length + 1) := r2.pq.1
  have vo : ∀ id, ¬ (id = 229 ∨ id = 230 ∨ id = 232) → (si (si (si u1 229 0 0 (nI Q.length)) 232 0 0 (nI lv)) 230 0 0 (nI w)).1 id = u1.1 id := fun id q => by rw [si_id (by omega), si_id (by omega), si_id (by omega)]
  have at1 : At sT z cnt E s (si (si (si u1 229 0 0 (nI Q.length)) 232 0 0 (nI lv)) 230 0 0 (nI w)) k := r2.at.to rfl (fun _ _ _ => rfl) (fun id q1 q2 => vo id (by omega)) rfl
  obtain ⟨u2, q1, q2, q3⟩ := at1.nxt X K0
  have X2 : XS sT z cnt E p f e (si s 50 0 0 (nI (k + 1))) u2 (k + 1) un c c w lv Q := by
    refine ⟨q3, by rw [si_o (by decide)]; exact r2.pp, by rw [q2.1 227 (by omega), vo 227 (by omega)]; exact r2.rd, by rw [si_o (by decide)]; exact r2.u1, by rw [q2.1 212 (by omega), vo 212 (by omega)]; exact r2.u2, by rw [q2.1 208 (by omega), vo 208 (by omega)]; exact r2.bd, by rw [si_o (by decide)]; exact r2.cc, by rw [q2.1 215 (by omega), vo 215 (by omega)]; exact r2.ac, fun i i1 i2 => CdR_to (r2.aa i i1 i2) (si_o (by decide)) (si_o (by decide)) (by rw [q2.1 224 (by omega), vo 224 (by omega)]) (by rw [q2.1 225 (by omega), vo 225 (by omega)]) (by rw [q2.2 226 (by decide)]; rfl), fun i i1 i2 => by omega, (r2.pq.pop).to (by rw [q2.1 228 (by omega), vo 228 (by omega), si_id (by decide)]) (by rw [q2.1 229 (by omega), si_id (by decide), si_id (by decide)]), by rw [q2.1 230 (by omega), si_eq], by rw [q2.1 232 (by omega), si_o (by decide), si_eq], fun i hi => by rw [q2.1 231 (by omega), vo 231 (by omega)]; exact r2.zc i (by omega)⟩
  rw [← hQ] at X2
  obtain ⟨u3, s1, s2, s3, s4⟩ := xs_pop hp hB j c w 70 u2 X2 (Nat.le_refl _) hj hw (by omega) (by omega) (by omega)
  have F : FAx p e u u3 := ((((r3.si (by omega)).si (by omega)).si (by omega)).fx q2).trans s3
  refine ⟨u3, fun N => ?_, s2, F, ?_⟩
  · rw [ex_step h.bd, if_pos rfl, show r_isSign 41 u = _ from tv_sign (c := 41) tv (by decide), cal2_s, if_pos (show sT.1 96 0 k = nI 41 from hK), if_neg (by decide), bnd_d, h.le, if_neg (nI_nle (by omega) (by omega))]
    unfold r_reduce r_operandIsThere
    rw [show r_reduce_0 70 1 u = _ from r1, cal_s]
    simp only [bnd_d]
    rw [p9, nI_pred, si_o (by decide), r2.le, nI_pred, si_o (by decide), si_o (by decide), r2.op, nI_pred, q1, cal_s, s1, cal_s]
  · rw [s4 231 (by omega), q2.1 231 (by omega), vo 231 (by omega), r4 231 (by omega)]
/-- nothing more -/
theorem ex_stop {sT s u : St} {z cnt p f e k un c a w lv : Nat} {E : Nat → Nat} {Q : List Int32} {x : Int32} (h : XS sT z cnt E p f e s u k un c a w lv Q) (hlv : lv ≤ 9) (h41 : ¬ KK sT k = 41 ∨ lv = 0) (hg : stg (KK sT k) ≤ 1) (hc : stg (KK sT k) = 1 → ¬ u.1 231 0 lv = 0) (N : Nat) : r_exp_45 (N + 2) x 0 1 u = r_exp_274 x u := by
  have tv := h.at.tv
  have e0 : r_exp_269 (r_exp_45 (N + 1)) x 0 u = r_exp_274 x u := by
    unfold r_exp_269
    rw [r_exp_45.eq_2, if_pos rfl]
  have R149 : r_exp_149 (r_exp_45 (N + 1)) x 0 1 u = r_exp_274 x u := by
    unfold r_exp_149
    rw [bnd_d]
    rcases tv_op tv with ⟨t3, t7⟩ | ⟨t3, -⟩
    · rw [t3, if_pos rfl, bnd_d, t7, r_stg, cal2_s]
      by_cases g1 : stg (KK sT k) = 1
      · rw [if_pos (show nI (stg (sT.1 96 0 k)) = 1 by rw [show stg (sT.1 96 0 k) = 1 from g1]; rfl), bnd_d, h.le, gI (by omega) (by decide), nI_clamp (by omega), if_neg (hc g1)]; exact e0
      · have g3 := stg_le (KK sT k)
        rw [if_neg (show ¬ nI (stg (sT.1 96 0 k)) = 1 from fun q => g1 ((nI_o (show stg (KK sT k) < 2 ^ 31 by omega)).mp q))]; exact e0
    · rw [if_neg t3]; exact e0
  have R130 : r_exp_130 (r_exp_45 (N + 1)) x 0 1 u = r_exp_274 x u := by
    unfold r_exp_130
    rw [bnd_d]
    rcases tv_op tv with ⟨t3, t7⟩ | ⟨t3, -⟩
    · rw [t3, if_pos rfl, bnd_d, t7, r_stg, cal2_s, if_neg (show ¬ (1 : Int32) < nI (stg (sT.1 96 0 k)) from nI_nlt (a := 1) hg (by decide))]; exact R149
    · rw [if_neg t3]; exact R149
  rw [ex_step h.bd, if_pos rfl, show r_isSign 41 u = _ from tv_sign (c := 41) tv (by decide), cal2_s]
  by_cases q : sT.1 96 0 k = nI 41
  · rw [if_pos q, if_neg (by decide), bnd_d, h.le]
    rcases h41 with z | z
    · exact absurd q z
    · rw [if_pos (by rw [z]; decide)]; exact R130
  · rw [if_neg q, if_pos rfl]; exact R130
/-! what is misplaced -/
theorem red_any {p e : Nat} (hp : p < 12) : ∀ (Q : List Int32) (A N : Nat) (u : St), PQ u Q → u.1 227 0 0 = nI p → u.1 215 0 p = nI A → e ≤ A → A + Q.length < 200 → Q.length < 63 → Q.length < N → ∃ u' A', r_reduce_0 N 1 u = some u' ∧ u'.1 215 0 p = nI A' ∧ A' ≤ A + Q.length ∧ A ≤ A' ∧ FAx p e u u' ∧ (∀ id, 200 ≤ id → id ≤ 209 → u'.1 id = u.1 id) := by
  intro Q
  induction Q with
  | nil =>
    intro A N u hq h7 h5 he hA hl hN
    obtain ⟨N, rfl⟩ : ∃ q, N = q + 1 := ⟨N - 1, by have : 0 < N := hN; omega⟩
    exact ⟨u, A, red_nil hq, h5, by omega, by omega, FAx.refl u, fun _ _ _ => rfl⟩
  | cons y r ih =>
    intro A N u hq h7 h5 he hA hl hN
    have hA : A + (r.length + 1) < 200 := hA
    have hl : r.length + 1 < 63 := hl
    have hN : r.length + 1 < N := hN
    obtain ⟨N, rfl⟩ : ∃ q, N = q + 1 := ⟨N - 1, by omega⟩
    have stay : ∃ u' A', some u = some u' ∧ u'.1 215 0 p = nI A' ∧ A' ≤ A + (y :: r).length ∧ A ≤ A' ∧ FAx p e u u' ∧ (∀ id, 200 ≤ id → id ≤ 209 → u'.1 id = u.1 id) := ⟨u, A, rfl, h5, by omega, by omega, FAx.refl u, fun _ _ _ => rfl⟩
    rw [red_step hq (by omega)]
    split
    · exact stay
    · split
      · exact stay
      · split
        · exact stay
        · rw [r_act_eq (a := A) hp (by omega) (by rw [si_o (by decide)]; exact h7) (by rw [si_o (by decide)]; exact h5), cal_s]
          have F1 : FAx p e u (acU (si u 229 0 0 (nI r.length)) p A y (-1) 0) := ((FAx.refl u).si (by omega)).act (by omega)
          obtain ⟨u', A', i1, i2, i3, i4, i5, i6⟩ := ih (A + 1) N (acU (si u 229 0 0 (nI r.length)) p A y (-1) 0) ((hq.pop).to (ac_id (by decide)) (ac_id (by decide))) (by rw [ac_o (by decide), si_o (by decide)]; exact h7) ac_215 (by omega) (by omega) (by omega) (by omega)
          exact ⟨u', A', i1, i2, by show A' ≤ A + (r.length + 1); omega, by omega, F1.trans i5, fun id q1 q2 => (i6 id q1 q2).trans (by rw [ac_id (by omega), si_id (by omega)])⟩
/-- the end of an exp that is misplaced -/
theorem ex_bad {p e A : Nat} {u : St} {Q : List Int32} {x : Int32} (hp : p < 12) (hb : u.1 208 0 0 = 1) (hq : PQ u Q) (h7 : u.1 227 0 0 = nI p) (h5 : u.1 215 0 p = nI A) (he : e ≤ A) (hA : A + Q.length + 1 < 200) (hl : Q.length < 63) : ∃ u', r_exp_274 x u = some (x, u') ∧ FAx p e u u' ∧ u'.1 208 0 0 = 1 ∧ u'.1 209 = u.1 209 := by
  obtain ⟨u1, A', r1, r2, r3, r4, r5, r6⟩ := red_any (e := e) hp Q A 70 u hq h7 h5 he (by omega) hl (by omega)
  have h7' : u1.1 227 0 0 = nI p := by rw [r5.o1 227 (by omega)]; exact h7
  have e285 : r_exp_285 x u = some (x, acU u1 p A' 4 (-1) 0) := by
    unfold r_exp_285 r_reduce
    rw [r1, cal_s, r_act_eq (a := A') hp (by omega) h7' r2, cal_s]
  refine ⟨acU u1 p A' 4 (-1) 0, ?_, r5.act (by omega), by rw [ac_o (by decide), r6 208 (by omega) (by omega)]; exact hb, by rw [ac_id (by decide), r6 209 (by omega) (by omega)]⟩
  unfold r_exp_274
  rw [bnd_d]
  split
  · exact e285
  · rw [r_mis1 hb, cal_s]; exact e285
