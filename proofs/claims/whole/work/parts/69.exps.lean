/-! exps on both sides: unary, product, sum, exp -/
def GU (sT : St) (z cnt : Nat) (E : Nat → Nat) (p f e un0 : Nat) (x : Int32) (n : Nat) (F : Fx1) : Prop :=
  ∀ (w : Nat) (s u : St) (k un c lv j : Nat) (B : List Int32), XS sT z cnt E p f e s u k un c c w lv (List.replicate j 1000 ++ B) → noM B → j ≤ w → w ≤ 8 → lv ≤ w → un0 ≤ un → un ≤ 60 → c + j + B.length ≤ 2 * (un - un0) → j + B.length ≤ 4 * w + 3 → 1 + 4 * (8 - w) ≤ n →
  ∃ v s', F (nI w) s = some (v, s') ∧ FCx p f s s' ∧ ((v = 1 ∧ ∃ u' k' un' c', OKX p f e x 1 s u s' u' k k' un un' c c' 0 1 ∧ un < un' ∧ XS sT z cnt E p f e s' u' k' un' c' (c' + j) (w - j) lv B ∧ c' + j + B.length + 1 ≤ 2 * (un' - un0) ∧ ∀ i, i ≤ lv → u'.1 231 0 i = u.1 231 0 i) ∨ (v = 0 ∧ FLX sT cnt p e x 1 u k s'))
/-- how a level of an exp ends: m its weakest sign -/
def OutL (sT : St) (z cnt : Nat) (E : Nat → Nat) (p f e un0 : Nat) (x wi : Int32) (m : Nat) (w : Nat) (s u : St) (k un c lv n1 : Nat) (B : List Int32) (v : Int32) (s' : St) : Prop :=
  FCx p f s s' ∧ ((v = 1 ∧ ∃ u' k' un' c' a' Pe, OKX p f e x wi s u s' u' k k' un un' c c' n1 1 ∧ XS sT z cnt E p f e s' u' k' un' c' a' w lv (Pe ++ B) ∧ (∀ y, y ∈ Pe → m ≤ stg y) ∧ Pe.length ≤ 4 - m ∧ c' = a' + Pe.length ∧ PD s' p f a' Pe ∧ c' + B.length + 1 ≤ 2 * (un' - un0) ∧ (stg (KK sT k') < m ∨ (m = 1 ∧ stg (KK sT k') ≤ 1 ∧ ¬ u'.1 231 0 lv = 0)) ∧ (∀ i, i < lv ∨ (m ≠ 1 ∧ i = lv) → u'.1 231 0 i = u.1 231 0 i) ∧ (n1 = 0 → un < un')) ∨ (v = 0 ∧ FLX sT cnt p e x wi u k s'))
def GL (m : Nat) (sT : St) (z cnt : Nat) (E : Nat → Nat) (p f e un0 : Nat) (x : Int32) (n : Nat) (F : Fx1) : Prop :=
  ∀ (w : Nat) (s u : St) (k un c lv : Nat) (B : List Int32), XS sT z cnt E p f e s u k un c c w lv B → stops m B → noM B → w ≤ 8 → lv ≤ w → un0 ≤ un → un ≤ 60 → c + B.length ≤ 2 * (un - un0) → B.length ≤ 4 * w + (m - 1) → (m = 1 → u.1 231 0 lv = 0) → (5 - m) + 4 * (8 - w) ≤ n →
  ∃ v s', F (nI w) s = some (v, s') ∧ OutL sT z cnt E p f e un0 x 1 m w s u k un c lv 0 B v s'
theorem repl_len {j : Nat} {B : List Int32} : (List.replicate j (1000 : Int32) ++ B).length = j + B.length := by rw [List.length_append, List.length_replicate]
theorem gU {sT : St} {z cnt : Nat} {E : Nat → Nat} {p f e un0 n : Nat} {x : Int32} {fE fS fP fU : Fx1} (X : CX sT z cnt E) (hp : p < 12) (hf : f ≤ 2 * un0) (he : e ≤ 2 * un0 + 40) (IU : GU sT z cnt E p f e un0 x n fU) (IE : GL 1 sT z cnt E p f e un0 x n fE) : GU sT z cnt E p f e un0 x (n + 1) (k_isUnary fE fS fP fU) := by
  intro w s u k un c lv j B h hB hj hw hlv hu0 hun hb hbl hn
  have kl := h.at.kl
  have c8 := X.c8
  have hl := repl_len (j := j) (B := B)
  have hcls : k_isUnary fE fS fP fU (nI w) s = if un < 60 then (if KK sT k = 4 ∨ KK sT k = 2 then k_isUnary_37 fE fS fP fU (KK sT k) s else if KK sT k = 45 ∨ KK sT k = 40 then k_isUnary_95 fE fS fP fU (nI w) (KK sT k) s else some (0, s)) else some (0, s) := by
    unfold k_isUnary
    rw [bnd_d, h.at.at5, gI (by omega) (by decide), nI_clamp (by omega), h.at.t6, h.pp, gI (by omega) (by decide), nI_clamp (by omega), bnd_d, h.u1]
    rw [show sT.1 96 0 k = KK sT k from rfl]
    by_cases q : un < 60
    · rw [if_pos (show nI un < 60 from nI_lt (b := 60) q (by decide)), if_pos q]
      by_cases a4 : KK sT k = 4
      · rw [if_pos a4, if_pos (Or.inl a4)]
      · rw [if_neg a4]
        by_cases a2 : KK sT k = 2
        · rw [if_pos a2, if_pos (Or.inr a2)]
        · rw [if_neg a2, if_neg (show ¬ (KK sT k = 4 ∨ KK sT k = 2) from fun z => z.elim a4 a2)]
          by_cases a45 : KK sT k = 45
          · rw [if_pos a45, if_pos (Or.inl a45)]
          · rw [if_neg a45]
            by_cases a40 : KK sT k = 40
            · rw [if_pos a40, if_pos (Or.inr a40)]
            · rw [if_neg a40, if_neg (show ¬ (KK sT k = 45 ∨ KK sT k = 40) from fun z => z.elim a45 a40)]
    · rw [if_neg (show ¬ nI un < 60 from nI_nlt (b := 60) (by omega) (by omega)), if_neg q]
  have bad : r_readUnary u = some (0, misU u) → FLX sT cnt p e x 1 u k s := fun hr => flx_here hp h hr (by rw [hl]; omega) (by rw [hl]; omega)
  have rU := r_rU hp h hun hw
  rw [hcls]
  by_cases q : un < 60
  · rw [if_pos q]
    by_cases a42 : KK sT k = 4 ∨ KK sT k = 2
    · -- an operand
      rw [if_pos a42]
      obtain ⟨u', r1, r2, r3, r4⟩ := xs_opnd X hp h hB a42 q hj hw (by omega) (by omega)
      have hC : k_isUnary_37 fE fS fP fU (KK sT k) s = some (1, adC (unS s p un k) p (f + c) (KK sT k) (sT.1 97 0 k)) := by
        unfold k_isUnary_37
        rw [h.pp, gI (by omega) (by decide), nI_clamp (by omega), bnd_d, h.u1, bnd_d, nI_1, bnd_d, si_o (by decide), h.at.at5, bnd_d, nI_1, si_o (by decide), si_o (by decide), h.pp, gI (by omega) (by decide), nI_clamp (by omega), bnd_d, si_eq, nI_pred, gI (by omega) (by decide), nI_clamp (by omega), si_o (by decide), si_o (by decide), h.at.t7]
        rw [show si (si s 65 p 0 (nI (un + 1))) 50 0 0 (nI (k + 1)) = unS s p un k from rfl, k_aC (n := f + c) (by omega) (by rw [un_o (by decide)]; exact h.cc), cal2_s, gz zo1]
      refine ⟨1, _, hC, (un_F (f := f)).trans (ad_F (f := f) (Nat.le_add_right _ _)), Or.inl ⟨rfl, u', k + 1, un + 1, c + 1, ⟨by omega, by omega, by omega, by omega, (un_F (f := f + c)).trans (ad_F (Nat.le_refl _)), r2, fun n0 hn0 => ?_, fun N => ?_⟩, by omega, r3, by omega, fun i _ => by rw [r4]⟩⟩
      · rw [show c + 1 - c = 1 by omega]
        have cv := ad_v (s := unS s p un k) (p := p) (n := f + c) (x := KK sT k) (y := sT.1 97 0 k)
        refine ⟨⟨fun _ => by omega, fun z => ?_, fun z => ?_, fun z => ?_⟩, ?_⟩
        · rw [cv.1] at z
          rw [cv.2.1]
          rcases h.at.tv.2 with ⟨t, _⟩ | ⟨t, _⟩ | ⟨_, b, b1, b2, _⟩ | ⟨t, _⟩ | ⟨t, _⟩ | ⟨w', w1, t, _⟩ | ⟨g, g1, t, _⟩
          · exact absurd (t.symm.trans z) (by decide)
          · exact absurd (t.symm.trans z) (by decide)
          · exact ⟨b, b1, b2⟩
          · exact absurd (t.symm.trans z) (by decide)
          · exact absurd (t.symm.trans z) (by decide)
          · have := (nI_eq (b := 2) (by omega) (by decide)).mp (t.symm.trans z); omega
          · have := isG_lt g1
            have := (nI_eq (b := 2) (by omega) (by decide)).mp (t.symm.trans z); omega
        · rw [cv.1] at z; rcases a42 with t | t <;> (rw [t] at z; exact absurd z (by decide))
        · rw [cv.1] at z; rcases a42 with t | t
          · exact absurd t z.1
          · exact absurd t z.2.1
        · show wkn p (f + c) (n0 + 0) _ = n0 + 1
          unfold wkn
          rw [cv.1]
          rcases a42 with t | t
          · rw [if_pos t]
          · rw [if_neg (by rw [t]; decide), if_pos t]
      · rw [show N + (k + 1 - k) = N + 1 by omega]; exact ex_want h.bd r1
    · rw [if_neg a42]
      by_cases aIn : KK sT k = 45 ∨ KK sT k = 40
      · rw [if_pos aIn]
        unfold k_isUnary_95
        by_cases w8 : w < 8
        · rw [if_pos (show nI w < 8 from nI_lt (b := 8) w8 (by decide)), h.pp, gI (by omega) (by decide), nI_clamp (by omega), bnd_d, h.u1, bnd_d, nI_1, bnd_d, si_o (by decide), h.at.at5, bnd_d, nI_1, nI_1, show si (si s 65 p 0 (nI (un + 1))) 50 0 0 (nI (k + 1)) = unS s p un k from rfl]
          obtain ⟨u1, r1, r2, r3⟩ := xs_in X hp h aIn q w8 (by rw [hl]; omega) (by omega)
          have st : ∀ N, r_exp_45 (N + 1) x 1 1 u = r_exp_45 N x 1 1 u1 := fun N => ex_want h.bd r1
          rcases r3 with ⟨a45, X1, c1⟩ | ⟨a40, X1, c1, c2⟩
          · -- '-'
            rw [if_pos a45]
            have X1 : XS sT z cnt E p f e (unS s p un k) u1 (k + 1) (un + 1) c c (w + 1) lv (List.replicate (j + 1) 1000 ++ B) := X1
            obtain ⟨v, s2, g1, g2, g3⟩ := IU (w + 1) _ _ _ _ _ _ _ _ X1 hB (by omega) (by omega) (by omega) (by omega) (by omega) (by omega) (by omega) (by omega)
            rw [g1, cal2_s]
            rcases g3 with ⟨rfl, u2, k2, un2, c2, o1, o2, o3, o4, o5⟩ | ⟨rfl, o1⟩
            · have hpp : s2.1 49 0 0 = nI p := o3.pp
              have hs2 : f + c2 < 120 := by have := o1.u6; omega
              rw [if_neg (by decide), hpp, gI (by omega) (by decide), nI_clamp (by omega), k_aC (n := f + c2) hs2 o3.cc, cal2_s, if_neg (by decide)]
              have kk := o1.k1; have cc1 := o1.c1; have uu6 := o1.u6
              have X3 := xs_neg (y := 0) o3 (by omega)
              have F0 : FCx p (f + c) s (adC s2 p (f + c2) 24 0) := ((un_F (f := f + c)).trans o1.fc).trans ((ad_F (Nat.le_refl _)).up (by omega))
              refine ⟨1, _, rfl, F0.up (by omega), Or.inl ⟨rfl, u2, k2, un2, c2 + 1, ⟨by omega, by omega, uu6, by omega, F0, r2.trans o1.fa, fun n0 hn0 => ?_, fun N => ?_⟩, by omega, ?_, by omega, fun i hi => by rw [o5 i hi, c1]⟩⟩
              · rw [show c2 + 1 - c = (c2 - c) + 1 by omega]
                refine evF_app _ _ _ (n0 + 1) (evF_to _ _ _ (fun i i1 i2 => ⟨ad_q (Or.inl rfl) (by omega), ad_q (Or.inr rfl) (by omega)⟩) (o1.ev n0 (by omega))) ?_
                rw [show f + c + (c2 - c) = f + c2 by omega]
                have cv := ad_v (s := s2) (p := p) (n := f + c2) (x := 24) (y := 0)
                refine ⟨⟨fun t => ?_, fun t => ?_, fun _ => by omega, fun t => absurd cv.1 t.2.2⟩, ?_⟩
                · rw [cv.1] at t; rcases t with t | t <;> exact absurd t (by decide)
                · rw [cv.1] at t; exact absurd t (by decide)
                · show wkn p (f + c2) (n0 + 1) _ = n0 + 1
                  unfold wkn; rw [cv.1, if_neg (by decide), if_neg (by decide), if_pos rfl]
              · rw [show N + (k2 - k) = (N + (k2 - (k + 1))) + 1 by omega, st, o1.rn]
              · rw [show c2 + 1 + j = c2 + (j + 1) by omega, show w - j = w + 1 - (j + 1) by omega]; exact X3
            · rw [if_pos rfl]
              unfold k_isUnary_159
              exact ⟨0, s2, rfl, (un_F (f := f)).trans g2, Or.inr ⟨rfl, o1.step st r2⟩⟩
          · -- '('
            rw [if_neg (by rw [a40]; decide)]
            obtain ⟨v, s2, g1, g2, g3⟩ := IE (w + 1) _ _ _ _ _ _ _ X1 (Or.inl rfl) (by show ¬ (40 : Int32) = 1000; decide) (by omega) (by omega) (by omega) (by omega) (by show c + ((List.replicate j (1000 : Int32) ++ B).length + 1) ≤ _; rw [hl]; omega) (by show (List.replicate j (1000 : Int32) ++ B).length + 1 ≤ _; rw [hl]; omega) (fun _ => c1) (by omega)
            rw [g1, cal2_s]
            rcases g3 with ⟨rfl, u2, k2, un2, c2', a2, Pe, o1, o2, o3, o4, o5, o6, o7, o8, o9, o10⟩ | ⟨rfl, o1⟩
            · have kk := o1.k1; have cc1 := o1.c1; have uu6 := o1.u6; have uu1 := o10 rfl
              have o7 : c2' + ((List.replicate j (1000 : Int32) ++ B).length + 1) + 1 ≤ 2 * (un2 - un0) := o7
              rw [hl] at o7
              have F0 : FCx p (f + c) s s2 := (un_F (f := f + c)).trans o1.fc
              have ok1 : OKX p f e x 1 s u s2 u2 k k2 un un2 c c2' 0 1 := ⟨by omega, by omega, uu6, by omega, F0, r2.trans o1.fa, fun n0 hn0 => o1.ev n0 (by omega), fun N => by rw [show N + (k2 - k) = (N + (k2 - (k + 1))) + 1 by omega, st, o1.rn]⟩
              rw [if_neg (by decide), k_is_eq X o2.at]
              by_cases a41 : KK sT k2 = 41
              · rw [if_pos a41, cal2_s, if_neg (by decide)]
                obtain ⟨u3, t1, t2, t3, t4⟩ := ex_close (x := x) X hp o2 a41 hB o5 o6 o3 (by omega) (by omega) (by omega) hj (by omega)
                have F3 : FCx p (f + c2') s2 (si s2 50 0 0 (nI (k2 + 1))) := ⟨fun id z => si_id (by omega), rfl, fun id o i z _ => si_o (by omega), fun id i z _ => si_o (by omega)⟩
                have ok2 : OKX p f e x 0 s2 u2 (si s2 50 0 0 (nI (k2 + 1))) u3 k2 (k2 + 1) un2 un2 c2' c2' 1 1 := ⟨by omega, Nat.le_refl _, uu6, Nat.le_refl _, F3, t3, fun n0 _ => by rw [Nat.sub_self]; rfl, fun N => by rw [show N + (k2 + 1 - k2) = N + 1 by omega]; exact t1 N⟩
                refine ⟨1, _, rfl, (F0.trans (F3.up (by omega))).up (by omega), Or.inl ⟨rfl, u3, k2 + 1, un2, c2', ok1.trans ok2 (by omega), by omega, t2, by omega, fun i hi => ?_⟩⟩
                rw [t4, o9 i (Or.inl (by omega)), c2 i hi]
              · rw [if_neg a41, cal2_s, if_pos rfl]
                unfold k_isUnary_184
                have hlen : (Pe ++ 40 :: (List.replicate j (1000 : Int32) ++ B)).length = Pe.length + (j + B.length + 1) := by rw [List.length_append, List.length_cons, hl]
                have o4 : Pe.length ≤ 3 := o4
                have fl := flx_close (x := x) hp o2 (by omega) a41 (by rcases o8 with t | t; (· omega); (· exact t.2.1)) (fun t => by rcases o8 with t' | t'; (· omega); (· exact t'.2.2)) (by rw [hlen]; omega) (by rw [hlen]; omega)
                exact ⟨0, s2, rfl, F0.up (by omega), Or.inr ⟨rfl, fl.pre (by omega) ok1.rn ok1.fa⟩⟩
            · rw [if_pos rfl]
              unfold k_isUnary_184
              exact ⟨0, s2, rfl, (un_F (f := f)).trans g2, Or.inr ⟨rfl, o1.step st r2⟩⟩
        · rw [if_neg (show ¬ nI w < 8 from nI_nlt (b := 8) (by omega) (by omega))]
          exact ⟨0, s, rfl, FCx.refl s, Or.inr ⟨rfl, bad (by rw [rU, if_pos aIn, if_pos (Or.inr (by omega))])⟩⟩
      · rw [if_neg aIn]
        exact ⟨0, s, rfl, FCx.refl s, Or.inr ⟨rfl, bad (by rw [rU, if_neg aIn, if_neg a42])⟩⟩
  · rw [if_neg q]
    refine ⟨0, s, rfl, FCx.refl s, Or.inr ⟨rfl, bad ?_⟩⟩
    rw [rU]
    by_cases aIn : KK sT k = 45 ∨ KK sT k = 40
    · rw [if_pos aIn, if_pos (Or.inl (by omega))]
    · rw [if_neg aIn]
      by_cases a42 : KK sT k = 4 ∨ KK sT k = 2
      · rw [if_pos a42, if_pos (by omega)]
      · rw [if_neg a42]
