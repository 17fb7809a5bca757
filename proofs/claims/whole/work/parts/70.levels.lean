/-! exps on both sides: product, sum, exp -/
theorem stg42 : stg 42 = 3 := by decide
theorem stg_3 {x : Int32} (h : stg x = 3) : x = 42 := by
  have := stg_op (x := x) (by omega)
  simp only [List.mem_cons, List.not_mem_nil, or_false] at this
  rcases this with q | q | q | q | q | q
  · exact q
  all_goals (rw [q] at h; exact absurd h (by decide))
theorem stg_2 {x : Int32} (h : stg x = 2) : x = 43 ∨ x = 45 := by
  have := stg_op (x := x) (by omega)
  simp only [List.mem_cons, List.not_mem_nil, or_false] at this
  rcases this with q | q | q | q | q | q
  · rw [q] at h; exact absurd h (by decide)
  · exact Or.inl q
  · exact Or.inr q
  all_goals (rw [q] at h; exact absurd h (by decide))
theorem stg_1 {x : Int32} (h : stg x = 1) : x = 60 ∨ x = 61 ∨ x = 35 := by
  have := stg_op (x := x) (by omega)
  simp only [List.mem_cons, List.not_mem_nil, or_false] at this
  rcases this with q | q | q | q | q | q
  · rw [q] at h; exact absurd h (by decide)
  · rw [q] at h; exact absurd h (by decide)
  · rw [q] at h; exact absurd h (by decide)
  · exact Or.inl q
  · exact Or.inr (Or.inl q)
  · exact Or.inr (Or.inr q)
/-- what a sign after an operand needs, at level m; the state as a level's loop has it -/
theorem lev_bin {sT s u : St} {z cnt p f e k un c a w lv m un0 : Nat} {E : Nat → Nat} {Pe B : List Int32} {x : Int32} (X : CX sT z cnt E) (hp : p < 12) (h : XS sT z cnt E p f e s u k un c a w lv (Pe ++ B)) (hm : (m = 3 ∨ m = 2 ∨ m = 1) ∧ stg (KK sT k) = m) (hcmp : m = 1 → u.1 231 0 lv = 0) (hc : c = a + Pe.length) (hP : PD s p f a Pe) (hS : ∀ y, y ∈ Pe → (if m = 1 then 2 else m) ≤ stg y) (hB : stops (if m = 1 then 2 else m) B) (hf : f ≤ 2 * un0) (he : e ≤ 2 * un0 + 40) (hb : c + B.length + 1 ≤ 2 * (un - un0)) (h0 : un0 ≤ un) (h6 : un ≤ 60) (hl : Pe.length + B.length < 62) (hlv : lv ≤ 8) :
    ∃ u', (∀ N, r_exp_45 (N + 1) x 0 1 u = r_exp_45 N x 1 1 u') ∧ XS sT z cnt E p f e (si s 50 0 0 (nI (k + 1))) u' (k + 1) un c c w lv (KK sT k :: B) ∧ FAx p e u u' ∧ u'.1 231 0 lv = (if m = 1 then 1 else u.1 231 0 lv) ∧ ∀ j, j ≠ lv → u'.1 231 0 j = u.1 231 0 j := by
  obtain ⟨hm, hg⟩ := hm
  have := ex_bin (x := x) X hp h (n := if m = 1 then 2 else m) (by rw [hg]) (by rw [hg]; omega) (fun z => hcmp (by omega)) hc hP hS hB (by omega) hl hlv
  rw [hg] at this; exact this
theorem at_F {p f k : Nat} {s : St} : FCx p f s (si s 50 0 0 (nI (k + 1))) := ⟨fun id z => si_id (by omega), rfl, fun id o i z _ => si_o (by omega), fun id i z _ => si_o (by omega)⟩
/-- an operand's code after the sign -/
theorem lev_fin {sT s u s1 u1 s3 u3 : St} {z cnt p f e k un c w lv k3 un3 c3 a3 : Nat} {E : Nat → Nat} {P3 B : List Int32} {x : Int32} {y : Int32} (hy : y ∈ ([42, 43, 45, 60, 61, 35] : List Int32)) (hs1 : s1 = si s 50 0 0 (nI (k + 1))) (F1 : FAx p e u u1) (st : ∀ N, r_exp_45 (N + 1) x 0 1 u = r_exp_45 N x 1 1 u1)
    (ok : OKX p f e x 1 s1 u1 s3 u3 (k + 1) k3 un un3 c c3 0 1) (h3 : XS sT z cnt E p f e s3 u3 k3 un3 c3 a3 w lv (P3 ++ y :: B)) (hc3 : c3 = a3 + P3.length) (hP3 : PD s3 p f a3 P3) (hu : un < un3) (h120 : f + c3 < 120) :
    OKX p f e x 0 s u (adC s3 p (f + c3) y 0) u3 k k3 un un3 c (c3 + 1) 1 1 ∧ XS sT z cnt E p f e (adC s3 p (f + c3) y 0) u3 k3 un3 (c3 + 1) a3 w lv ((P3 ++ [y]) ++ B) ∧ PD (adC s3 p (f + c3) y 0) p f a3 (P3 ++ [y]) ∧ FCx p f s (adC s3 p (f + c3) y 0) := by
  have k1 := ok.k1; have c1 := ok.c1; have u6 := ok.u6
  have cv := ad_v (s := s3) (p := p) (n := f + c3) (x := y) (y := 0)
  have hyc : ¬ y = 4 ∧ ¬ y = 2 ∧ ¬ y = 24 := ⟨fun q => by rw [q] at hy; revert hy; decide, fun q => by rw [q] at hy; revert hy; decide, fun q => by rw [q] at hy; revert hy; decide⟩
  have F0 : FCx p (f + c) s (adC s3 p (f + c3) y 0) := ((by rw [hs1]; exact at_F : FCx p (f + c) s s1).trans ok.fc).trans ((ad_F (Nat.le_refl _)).up (by omega))
  refine ⟨⟨by omega, by omega, u6, by omega, F0, F1.trans ok.fa, fun n0 hn0 => ?_, fun N => ?_⟩, ?_, PD_snoc a3 P3 (PD_to a3 P3 (fun i i1 i2 => ad_q (Or.inl rfl) (by omega)) hP3) (by rw [← hc3]; exact cv.1), F0.up (by omega)⟩
  · rw [show c3 + 1 - c = (c3 - c) + 1 by omega]
    refine evF_app _ _ _ (n0 + 1 + 1) (evF_to _ _ _ (fun i i1 i2 => ⟨ad_q (Or.inl rfl) (by omega), ad_q (Or.inr rfl) (by omega)⟩) (ok.ev (n0 + 1) (by omega))) ?_
    rw [show f + c + (c3 - c) = f + c3 by omega]
    have := evF_op (n := n0 + 1 + 1) cv.1 hyc (by omega)
    exact this
  · rw [show N + (k3 - k) = (N + (k3 - (k + 1))) + 1 by omega, st, ok.rn]
  · rw [show (P3 ++ [y]) ++ B = P3 ++ y :: B by rw [List.append_assoc]; rfl]
    exact xs_code h3 (by omega)
theorem ok_nil {p f e k un c : Nat} {x : Int32} {s u : St} (h6 : un ≤ 60) : OKX p f e x 0 s u s u k k un un c c 1 1 := ⟨Nat.le_refl _, Nat.le_refl _, h6, Nat.le_refl _, FCx.refl s, FAx.refl u, fun n0 _ => by rw [Nat.sub_self]; rfl, fun N => by rw [Nat.sub_self]; rfl⟩
theorem stops_up {n n' : Nat} (hn : n ≤ n') : ∀ {B : List Int32}, stops n B → stops n' B
  | [], _ => trivial
  | _ :: _, h => h.elim Or.inl fun h => h.elim (fun q => Or.inr (Or.inl q)) fun q => Or.inr (Or.inr (Nat.lt_of_lt_of_le q hn))
theorem gU4 {sT : St} {z cnt : Nat} {E : Nat → Nat} {p f e un0 n : Nat} {x : Int32} {F : Fx1} (h : GU sT z cnt E p f e un0 x n F) : GL 4 sT z cnt E p f e un0 x n F := by
  intro w s u k un c lv B hX hs hB hw hlv h0 h6 hb hbl _ hn
  obtain ⟨v, s', g1, g2, g3⟩ := h w s u k un c lv 0 B hX hB (Nat.zero_le _) hw hlv h0 h6 (by omega) (by omega) (by omega)
  refine ⟨v, s', g1, g2, ?_⟩
  rcases g3 with ⟨rfl, u', k', un', c', o1, o2, o3, o4, o5⟩ | g3
  · refine Or.inl ⟨rfl, u', k', un', c', c', [], o1, o3, fun y hy => absurd hy List.not_mem_nil, Nat.le_refl _, rfl, trivial, by omega, Or.inl ?_, fun i hi => o5 i (by omega), fun _ => o2⟩
    have := stg_le (KK sT k'); omega
  · exact Or.inr g3
/-- a sign and the operand after it -/
theorem rnd {sT s u : St} {z cnt p f e k un c a w lv m un0 n : Nat} {E : Nat → Nat} {Pe B : List Int32} {x : Int32} {F : Fx1} (X : CX sT z cnt E) (hp : p < 12) (hf : f ≤ 2 * un0) (he : e ≤ 2 * un0 + 40) (IG : GL (m + 1) sT z cnt E p f e un0 x n F) (h : XS sT z cnt E p f e s u k un c a w lv (Pe ++ B)) (hm : (m = 3 ∨ m = 2 ∨ m = 1) ∧ stg (KK sT k) = m) (hcmp : m = 1 → u.1 231 0 lv = 0) (hc : c = a + Pe.length) (hP : PD s p f a Pe) (hPl : Pe.length ≤ 3) (hS : ∀ y, y ∈ Pe → (if m = 1 then 2 else m) ≤ stg y) (hB : stops (if m = 1 then 2 else m) B) (hBl : B.length ≤ 4 * w + (m - 1)) (hb : c + B.length + 1 ≤ 2 * (un - un0)) (h0 : un0 ≤ un) (h6 : un ≤ 60) (hw : w ≤ 8) (hlv : lv ≤ w) (hn : (5 - (m + 1)) + 4 * (8 - w) ≤ n) :
    ∃ v s3, F (nI w) (si s 50 0 0 (nI (k + 1))) = some (v, s3) ∧ FCx p f s s3 ∧ ((v = 1 ∧ ∃ c3, f + c3 < 120 ∧ s3.1 49 0 0 = nI p ∧ s3.1 67 p 0 = nI (f + c3) ∧ ∃ u3 k3 un3 a3 P3, OKX p f e x 0 s u (adC s3 p (f + c3) (KK sT k) 0) u3 k k3 un un3 c (c3 + 1) 1 1 ∧ XS sT z cnt E p f e (adC s3 p (f + c3) (KK sT k) 0) u3 k3 un3 (c3 + 1) a3 w lv (P3 ++ B) ∧ PD (adC s3 p (f + c3) (KK sT k) 0) p f a3 P3 ∧ c3 + 1 = a3 + P3.length ∧ P3.length ≤ 4 - m ∧ (∀ y, y ∈ P3 → m ≤ stg y) ∧ un < un3 ∧ c3 + 1 + B.length + 1 ≤ 2 * (un3 - un0) ∧ stg (KK sT k3) < m + 1 ∧ u3.1 231 0 lv = (if m = 1 then 1 else u.1 231 0 lv) ∧ (∀ i, i < lv → u3.1 231 0 i = u.1 231 0 i) ∧ FCx p f s (adC s3 p (f + c3) (KK sT k) 0)) ∨ (v = 0 ∧ FLX sT cnt p e x 0 u k s3)) := by
  obtain ⟨u1, st, X1, F1, c1, c2⟩ := lev_bin (x := x) (m := m) (un0 := un0) X hp h hm hcmp hc hP hS hB hf he hb h0 h6 (by omega) (by omega)
  have hop := stg_op (x := KK sT k) (by omega)
  have hlc : (KK sT k :: B).length = B.length + 1 := rfl
  obtain ⟨v, s3, g1, g2, g3⟩ := IG w _ _ _ _ _ _ (KK sT k :: B) X1 (Or.inr (Or.inr (by omega))) (fun q => by rw [q] at hop; revert hop; decide) hw hlv h0 h6 (by rw [hlc]; omega) (by rw [hlc]; omega) (fun q => by omega) hn
  refine ⟨v, s3, g1, (at_F (p := p) (f := f) (k := k)).trans g2, ?_⟩
  rcases g3 with ⟨rfl, u3, k3, un3, c3, a3, P3, o1, o2, o3, o4, o5, o6, o7, o8, o9, o10⟩ | ⟨rfl, o1⟩
  · rw [hlc] at o7
    have uu := o10 rfl; have u6 := o1.u6
    have h120 : f + c3 < 120 := by omega
    obtain ⟨l1, l2, l3, l4⟩ := lev_fin hop rfl F1 st o1 o2 o5 o6 uu h120
    refine Or.inl ⟨rfl, c3, h120, o2.pp, o2.cc, u3, k3, un3, a3, P3 ++ [KK sT k], l1, l2, l3, by rw [List.length_append]; show _ = _ + (_ + 1); omega, by rw [List.length_append]; show _ + 1 ≤ _; omega, fun y hy => ?_, uu, by omega, ?_, ?_, fun i hi => ?_, l4⟩
    · rcases List.mem_append.mp hy with q | q
      · have := o3 y q; omega
      · have : y = KK sT k := by simpa using q
        rw [this]; omega
    · rcases o8 with q | q
      · exact q
      · omega
    · rw [o9 lv (Or.inr ⟨by omega, rfl⟩), c1]
    · rw [o9 i (Or.inl hi), c2 i (by omega)]
  · exact Or.inr ⟨rfl, o1.step st F1⟩
/-- a level's loop, for product and sum -/
theorem lpG {sT : St} {z cnt : Nat} {E : Nat → Nat} {p f e un0 n w lv m : Nat} {x : Int32} {F : Fx1} {B : List Int32} (L : Nat → Int32 → Int32 → Int32 → St → Option (Int32 × St)) (hm : m = 3 ∨ m = 2) (X : CX sT z cnt E) (hp : p < 12) (hf : f ≤ 2 * un0) (he : e ≤ 2 * un0 + 40) (IG : GL (m + 1) sT z cnt E p f e un0 x n F) (hw : w ≤ 8) (hlv : lv ≤ w) (hB : stops m B) (hBl : B.length ≤ 4 * w + (m - 1)) (hn : (5 - (m + 1)) + 4 * (8 - w) ≤ n)
    (L1 : ∀ N v i s, L (N + 1) v 0 i s = some (0, s))
    (L2 : ∀ N v i s u k, i < 60 → At sT z cnt E s u k → ¬ stg (KK sT k) = m → L (N + 1) v 1 (nI i) s = some (1, s))
    (L3 : ∀ N v i s u k, i < 60 → At sT z cnt E s u k → stg (KK sT k) = m → L (N + 1) v 1 (nI i) s = cal2 (F v (si s 50 0 0 (nI (k + 1)))) fun v6 s5 => if v6 = 0 then L N v 0 (nI (i + 1)) s5 else (grd (ib (s5.1 49 0 0) 13) (s5.1 49 0 0).toNatClampNeg fun p7 => cal2 (k_addCode p7 (KK sT k) (0 : Int32) s5) fun v9 s8 => if v9 = 0 then L N v 0 (nI (i + 1)) s8 else L N v 1 (nI (i + 1)) s8)) :
    ∀ (q N i : Nat) (s u : St) (k un c a : Nat) (Pe : List Int32), 60 - un ≤ q → q + 1 < N → i < un → un0 ≤ un → un ≤ 60 → XS sT z cnt E p f e s u k un c a w lv (Pe ++ B) → (∀ y, y ∈ Pe → m ≤ stg y) → Pe.length ≤ 4 - m → c = a + Pe.length → PD s p f a Pe → c + B.length + 1 ≤ 2 * (un - un0) → stg (KK sT k) < m + 1 →
      ∃ v s', L N (nI w) 1 (nI i) s = some (v, s') ∧ OutL sT z cnt E p f e un0 x 0 m w s u k un c lv 1 B v s' := by
  have m1 : (if m = 1 then 2 else m) = m := if_neg (by omega)
  intro q
  induction q with
  | zero =>
    intro N i s u k un c a Pe hq hN hi h0 h6 h hS hPl hc hP hb hk
    obtain ⟨N, rfl⟩ : ∃ q, N = q + 1 := ⟨N - 1, by omega⟩
    by_cases g : stg (KK sT k) = m
    · rw [L3 N _ i s u k (by omega) h.at g]
      obtain ⟨v, s3, r1, r2, r3⟩ := rnd (m := m) X hp hf he IG h ⟨by omega, g⟩ (fun z => by omega) hc hP (by omega) (by rw [m1]; exact hS) (by rw [m1]; exact hB) hBl hb h0 h6 hw hlv hn
      rw [r1, cal2_s]
      rcases r3 with ⟨rfl, c3, t1, t2, t3, u3, k3, un3, a3, P3, o1, o2, o3, o4, o5, o6, o7, -⟩ | ⟨rfl, o1⟩
      · have := o1.u6; omega
      · obtain ⟨N, rfl⟩ : ∃ q, N = q + 1 := ⟨N - 1, by omega⟩
        rw [if_pos rfl, L1]
        exact ⟨0, s3, rfl, r2, Or.inr ⟨rfl, o1⟩⟩
    · rw [L2 N _ i s u k (by omega) h.at g]
      exact ⟨1, s, rfl, FCx.refl s, Or.inl ⟨rfl, u, k, un, c, a, Pe, ok_nil h6, h, hS, hPl, hc, hP, hb, Or.inl (by omega), fun _ _ => rfl, fun z => by omega⟩⟩
  | succ q ih =>
    intro N i s u k un c a Pe hq hN hi h0 h6 h hS hPl hc hP hb hk
    obtain ⟨N, rfl⟩ : ∃ q, N = q + 1 := ⟨N - 1, by omega⟩
    by_cases g : stg (KK sT k) = m
    · rw [L3 N _ i s u k (by omega) h.at g]
      obtain ⟨v, s3, r1, r2, r3⟩ := rnd (m := m) X hp hf he IG h ⟨by omega, g⟩ (fun z => by omega) hc hP (by omega) (by rw [m1]; exact hS) (by rw [m1]; exact hB) hBl hb h0 h6 hw hlv hn
      rw [r1, cal2_s]
      rcases r3 with ⟨rfl, c3, t1, t2, t3, u3, k3, un3, a3, P3, o1, o2, o3, o4, o5, o6, o7, o8, o9, o10, o11, o12⟩ | ⟨rfl, o1⟩
      · have u6 := o1.u6
        rw [if_neg (by decide), t2, gI (by omega) (by decide), nI_clamp (by omega), k_aC t1 t3, cal2_s, if_neg (by decide)]
        obtain ⟨v, s', e1, e2, e3⟩ := ih N (i + 1) _ _ k3 un3 (c3 + 1) a3 P3 (by omega) (by omega) (by omega) (by omega) u6 o2 o6 o5 o4 o3 o8 o9
        refine ⟨v, s', e1, o12.trans e2, ?_⟩
        rcases e3 with ⟨rfl, u', k', un', c', a', P', d1, d2, d3, d4, d5, d6, d7, d8, d9, d10⟩ | ⟨rfl, d1⟩
        · refine Or.inl ⟨rfl, u', k', un', c', a', P', o1.trans d1 (by omega), d2, d3, d4, d5, d6, d7, d8, fun i hi => ?_, fun z => by omega⟩
          rw [d9 i hi]
          rcases hi with hi | ⟨_, rfl⟩
          · exact o11 i hi
          · rw [o10, if_neg (by omega)]
        · exact Or.inr ⟨rfl, d1.pre o1.k1 o1.rn o1.fa⟩
      · obtain ⟨N, rfl⟩ : ∃ q, N = q + 1 := ⟨N - 1, by omega⟩
        rw [if_pos rfl, L1]
        exact ⟨0, s3, rfl, r2, Or.inr ⟨rfl, o1⟩⟩
    · rw [L2 N _ i s u k (by omega) h.at g]
      exact ⟨1, s, rfl, FCx.refl s, Or.inl ⟨rfl, u, k, un, c, a, Pe, ok_nil h6, h, hS, hPl, hc, hP, hb, Or.inl (by omega), fun _ _ => rfl, fun z => by omega⟩⟩
theorem gM {sT : St} {z cnt : Nat} {E : Nat → Nat} {p f e un0 n m : Nat} {x : Int32} {F : Fx1} (L : Nat → Int32 → Int32 → Int32 → St → Option (Int32 × St)) (hm : m = 3 ∨ m = 2) (X : CX sT z cnt E) (hp : p < 12) (hf : f ≤ 2 * un0) (he : e ≤ 2 * un0 + 40) (IG : GL (m + 1) sT z cnt E p f e un0 x n F)
    (L1 : ∀ N v i s, L (N + 1) v 0 i s = some (0, s))
    (L2 : ∀ N v i s u k, i < 60 → At sT z cnt E s u k → ¬ stg (KK sT k) = m → L (N + 1) v 1 (nI i) s = some (1, s))
    (L3 : ∀ N v i s u k, i < 60 → At sT z cnt E s u k → stg (KK sT k) = m → L (N + 1) v 1 (nI i) s = cal2 (F v (si s 50 0 0 (nI (k + 1)))) fun v6 s5 => if v6 = 0 then L N v 0 (nI (i + 1)) s5 else (grd (ib (s5.1 49 0 0) 13) (s5.1 49 0 0).toNatClampNeg fun p7 => cal2 (k_addCode p7 (KK sT k) (0 : Int32) s5) fun v9 s8 => if v9 = 0 then L N v 0 (nI (i + 1)) s8 else L N v 1 (nI (i + 1)) s8)) :
    GL m sT z cnt E p f e un0 x (n + 1) (fun a0 s => cal2 (F a0 s) fun v2 s1 => L 70 a0 v2 (0 : Int32) s1) := by
  intro w s u k un c lv B hX hs hB hw hlv h0 h6 hb hbl _ hn
  obtain ⟨v, s1, g1, g2, g3⟩ := IG w s u k un c lv B hX (stops_up (by omega) hs) hB hw hlv h0 h6 hb (by omega) (fun q => by omega) (by omega)
  show ∃ v s', cal2 (F (nI w) s) _ = _ ∧ _
  rw [g1, cal2_s]
  rcases g3 with ⟨rfl, u', k', un', c', a', Pe, o1, o2, o3, o4, o5, o6, o7, o8, o9, o10⟩ | ⟨rfl, o1⟩
  · have uu := o10 rfl; have u6 := o1.u6
    obtain ⟨v, s2, e1, e2, e3⟩ := lpG (un0 := un0) (n := n) L hm X hp hf he IG hw hlv hs hbl (by omega) L1 L2 L3 60 70 0 s1 u' k' un' c' a' Pe (by omega) (by omega) (by omega) (by omega) u6 o2 (fun y hy => by have := o3 y hy; omega) (by omega) o5 o6 o7 (by rcases o8 with q | q <;> omega)
    refine ⟨v, s2, e1, g2.trans e2, ?_⟩
    rcases e3 with ⟨rfl, u2, k2, un2, c2, a2, P2, d1, d2, d3, d4, d5, d6, d7, d8, d9, d10⟩ | ⟨rfl, d1⟩
    · have := d1.u1
      refine Or.inl ⟨rfl, u2, k2, un2, c2, a2, P2, o1.trans d1 (by omega), d2, d3, d4, d5, d6, d7, d8, fun i hi => ?_, fun _ => by omega⟩
      rw [d9 i hi]
      exact o9 i (by omega)
    · exact Or.inr ⟨rfl, d1.pre o1.k1 o1.rn o1.fa⟩
  · rw [L1]
    exact ⟨0, s1, rfl, g2, Or.inr ⟨rfl, o1⟩⟩
theorem gP {sT : St} {z cnt : Nat} {E : Nat → Nat} {p f e un0 n : Nat} {x : Int32} {fE fS fP fU : Fx1} (X : CX sT z cnt E) (hp : p < 12) (hf : f ≤ 2 * un0) (he : e ≤ 2 * un0 + 40) (IU : GU sT z cnt E p f e un0 x n fU) : GL 3 sT z cnt E p f e un0 x (n + 1) (k_isProduct fE fS fP fU) := by
  refine gM (k_isProduct_8 fE fS fP fU) (Or.inl rfl) X hp hf he (gU4 IU) (fun N v i s => ?_) (fun N v i s u k hi ha hg => ?_) (fun N v i s u k hi ha hg => ?_)
  · rw [k_isProduct_8.eq_2]
    by_cases q : (60 : Int32) ≤ i
    · rw [if_pos q, gz zo0]
    · rw [if_neg q, if_pos rfl, gz zo0]
  · have n42 : ¬ KK sT k = 42 := fun q => hg (by rw [q]; exact stg42)
    rw [k_isProduct_8.eq_2, if_neg (show ¬ (60 : Int32) ≤ nI i from nI_ge (b := 60) (by omega) (by decide)), if_neg (by decide), k_is_eq X ha, if_neg n42, cal2_s, if_pos rfl]
  · have y42 : KK sT k = 42 := stg_3 hg
    rw [k_isProduct_8.eq_2, if_neg (show ¬ (60 : Int32) ≤ nI i from nI_ge (b := 60) (by omega) (by decide)), if_neg (by decide), k_is_eq X ha, if_pos y42, cal2_s, if_neg (by decide)]
    unfold k_isProduct_54 k_isProduct_55
    rw [nI_1, y42]
theorem gS {sT : St} {z cnt : Nat} {E : Nat → Nat} {p f e un0 n : Nat} {x : Int32} {fE fS fP fU : Fx1} (X : CX sT z cnt E) (hp : p < 12) (hf : f ≤ 2 * un0) (he : e ≤ 2 * un0 + 40) (IP : GL 3 sT z cnt E p f e un0 x n fP) : GL 2 sT z cnt E p f e un0 x (n + 1) (k_isSum fE fS fP fU) := by
  have c8 := X.c8
  refine gM (k_isSum_8 fE fS fP fU) (Or.inr rfl) X hp hf he IP (fun N v i s => ?_) (fun N v i s u k hi ha hg => ?_) (fun N v i s u k hi ha hg => ?_)
  · rw [k_isSum_8.eq_2]
    by_cases q : (60 : Int32) ≤ i
    · rw [if_pos q, gz zo0]
    · rw [if_neg q, if_pos rfl, gz zo0]
  · have kl := ha.kl
    have n43 : ¬ KK sT k = 43 := fun q => hg (by rw [q]; decide)
    have n45 : ¬ KK sT k = 45 := fun q => hg (by rw [q]; decide)
    rw [k_isSum_8.eq_2, if_neg (show ¬ (60 : Int32) ≤ nI i from nI_ge (b := 60) (by omega) (by decide)), if_neg (by decide), bnd_d, ha.at5, gI (by omega) (by decide), nI_clamp (by omega), ha.t6, show sT.1 96 0 k = KK sT k from rfl, if_neg n43, if_neg n45]
  · have kl := ha.kl
    have h48 : k_isSum_8 fE fS fP fU (N + 1) v 1 (nI i) s = k_isSum_48 fE fS fP fU (k_isSum_8 fE fS fP fU N) v (nI i) (KK sT k) s := by
      rw [k_isSum_8.eq_2, if_neg (show ¬ (60 : Int32) ≤ nI i from nI_ge (b := 60) (by omega) (by decide)), if_neg (by decide), bnd_d, ha.at5, gI (by omega) (by decide), nI_clamp (by omega), ha.t6, show sT.1 96 0 k = KK sT k from rfl]
      rcases stg_2 hg with q | q
      · rw [if_pos q]
      · rw [if_neg (by rw [q]; decide), if_pos q]
    rw [h48]
    unfold k_isSum_48 k_isSum_83 k_isSum_84
    rw [bnd_d, ha.at5, bnd_d, nI_1, nI_1]
theorem gE {sT : St} {z cnt : Nat} {E : Nat → Nat} {p f e un0 n : Nat} {x : Int32} {fE fS fP fU : Fx1} (X : CX sT z cnt E) (hp : p < 12) (hf : f ≤ 2 * un0) (he : e ≤ 2 * un0 + 40) (IS : GL 2 sT z cnt E p f e un0 x n fS) : GL 1 sT z cnt E p f e un0 x (n + 1) (k_isExp fE fS fP fU) := by
  intro w s u k un c lv B hX hs hB hw hlv h0 h6 hb hbl h231 hn
  have c8 := X.c8
  obtain ⟨v, s1, g1, g2, g3⟩ := IS w s u k un c lv B hX (stops_up (by omega) hs) hB hw hlv h0 h6 hb (by omega) (fun q => by omega) (by omega)
  unfold k_isExp
  rw [g1, cal2_s]
  rcases g3 with ⟨rfl, u', k', un', c', a', Pe, o1, o2, o3, o4, o5, o6, o7, o8, o9, o10⟩ | ⟨rfl, o1⟩
  · have uu := o10 rfl; have u6 := o1.u6
    have kl := o2.at.kl
    rw [if_neg (by decide), bnd_d, o2.at.at5, gI (by omega) (by decide), nI_clamp (by omega), o2.at.t6, show sT.1 96 0 k' = KK sT k' from rfl]
    by_cases g : stg (KK sT k') = 1
    · have h43 : (if KK sT k' = 60 then (k_isExp_43 fE fS fP fU (nI w) (KK sT k') s1) else (if KK sT k' = 61 then (k_isExp_43 fE fS fP fU (nI w) (KK sT k') s1) else (if KK sT k' = 35 then (k_isExp_43 fE fS fP fU (nI w) (KK sT k') s1) else (some ((1 : Int32), s1))))) = k_isExp_43 fE fS fP fU (nI w) (KK sT k') s1 := by
        rcases stg_1 g with q | q | q
        · rw [if_pos q]
        · rw [if_neg (by rw [q]; decide), if_pos q]
        · rw [if_neg (by rw [q]; decide), if_neg (by rw [q]; decide), if_pos q]
      rw [h43]
      obtain ⟨v, s3, r1, r2, r3⟩ := rnd (m := 1) X hp hf he IS o2 ⟨by omega, g⟩ (fun _ => by rw [o9 lv (Or.inr ⟨by omega, rfl⟩)]; exact h231 rfl) o5 o6 (by omega) (by rw [if_pos rfl]; exact o3) (by rw [if_pos rfl]; exact stops_up (by omega) hs) (by omega) o7 (by omega) u6 hw hlv (by omega)
      unfold k_isExp_43
      rw [bnd_d, o2.at.at5, bnd_d, nI_1, r1, cal2_s]
      rcases r3 with ⟨rfl, c3, t1, t2, t3, u3, k3, un3, a3, P3, d1, d2, d3, d4, d5, d6, d7, d8, d9, d10, d11, d12⟩ | ⟨rfl, d1⟩
      · rw [if_neg (by decide), t2, gI (by omega) (by decide), nI_clamp (by omega), k_aC t1 t3, cal2_s, if_neg (by decide)]
        refine ⟨1, _, rfl, g2.trans d12, Or.inl ⟨rfl, u3, k3, un3, c3 + 1, a3, P3, o1.trans d1 (by omega), d2, d6, d5, d4, d3, d8, Or.inr ⟨rfl, by omega, by rw [d10, if_pos rfl]; decide⟩, fun i hi => ?_, fun _ => by omega⟩⟩
        rcases hi with hi | hi
        · rw [d11 i hi, o9 i (Or.inl hi)]
        · exact absurd rfl hi.1
      · rw [if_pos rfl]
        unfold k_isExp_77
        exact ⟨0, s3, rfl, g2.trans r2, Or.inr ⟨rfl, d1.pre o1.k1 o1.rn o1.fa⟩⟩
    · have n60 : ¬ KK sT k' = 60 := fun q => g (by rw [q]; decide)
      have n61 : ¬ KK sT k' = 61 := fun q => g (by rw [q]; decide)
      have n35 : ¬ KK sT k' = 35 := fun q => g (by rw [q]; decide)
      rw [if_neg n60, if_neg n61, if_neg n35]
      refine ⟨1, _, rfl, g2, Or.inl ⟨rfl, u', k', un', c', a', Pe, o1, o2, fun y hy => by have := o3 y hy; omega, by omega, o5, o6, o7, Or.inl (by rcases o8 with q | q <;> omega), fun i hi => o9 i (by omega), o10⟩⟩
  · rw [if_pos rfl]
    exact ⟨0, s1, rfl, g2, Or.inr ⟨rfl, o1⟩⟩
theorem gAll {sT : St} {z cnt : Nat} {E : Nat → Nat} {p f e un0 : Nat} {x : Int32} (X : CX sT z cnt E) (hp : p < 12) (hf : f ≤ 2 * un0) (he : e ≤ 2 * un0 + 40) : ∀ n, GL 1 sT z cnt E p f e un0 x n (XF n).1 ∧ GL 2 sT z cnt E p f e un0 x n (XF n).2.1 ∧ GL 3 sT z cnt E p f e un0 x n (XF n).2.2.1 ∧ GU sT z cnt E p f e un0 x n (XF n).2.2.2
  | 0 => ⟨fun _ _ _ _ _ _ _ _ _ _ _ _ _ _ _ _ _ _ q => by omega, fun _ _ _ _ _ _ _ _ _ _ _ _ _ _ _ _ _ _ q => by omega, fun _ _ _ _ _ _ _ _ _ _ _ _ _ _ _ _ _ _ q => by omega, fun _ _ _ _ _ _ _ _ _ _ _ _ _ _ _ _ _ _ q => by omega⟩
  | n + 1 => ⟨gE X hp hf he (gAll X hp hf he n).2.1, gS X hp hf he (gAll X hp hf he n).2.2.1, gP X hp hf he (gAll X hp hf he n).2.2.2, gU X hp hf he (gAll X hp hf he n).2.2.2 (gAll X hp hf he n).1⟩
