/-! texts on both sides: bodies -/
def RC (x w K : Int32) (u : St) : Option St := if K = (15 : Int32) then (if (2 : Int32) ≤ w then (r_closeBody_78 x w K u) else (if w = 0 then (r_closeBody_64 x w (16 : Int32) u) else (r_closeBody_64 x w (17 : Int32) u))) else (r_closeBody_78 x w K u)
def FT (sT : St) (cnt p n e d : Nat) (Y : Nat → Nat → Prop) (k : Nat) (u s' : St) (run : Nat → Option St) : Prop := ∃ k' u' m, k ≤ k' ∧ k' < cnt ∧ s'.1 50 0 0 = nI k' ∧ u'.1 208 0 0 = 1 ∧ u'.1 209 0 0 = sT.1 98 0 k' ∧ RB Y p n e d u u' ∧ m ≤ k' - k + 2 ∧ ∀ N, run (N + m) = some u'
def Yb (p o w : Nat) : Nat → Nat → Prop := fun id i => (id = 219 ∨ id = 220) ∧ i = 3 * (40 * p + o) + w
def DN (g : Nat → Nat) (s u : St) (p n h w : Nat) : Prop := u.1 220 0 (3 * (40 * p + h) + w) = 1 ∧ BF g s u p n h w
def GB (sT : St) (z cnt : Nat) (E : Nat → Nat) (p : Nat) (n : Nat) (F : Fx3) : Prop := ∀ (d o w : Nat) (s u : St) (k nn un f e : Nat) (g : Nat → Nat) (R : Int32), BS sT z cnt E p s u k nn un f e d → o < nn → w < 3 → u.1 219 0 (3 * (40 * p + o) + w) = -1 → g o = d → u.1 216 0 (40 * p + o) = R → 1 + 4 * (8 - d) ≤ n →
  ∃ v s', F (nI o) (nI w) (nI d) s = some (v, s') ∧ CB (Xc 74 (3 * o + w)) p nn f s s' ∧ ((v = 1 ∧ ∃ u' k' n' un' f' e' g' m, k < k' ∧ m ≤ k' - k ∧ nn ≤ n' ∧ f ≤ f' ∧ e ≤ e' ∧ BS sT z cnt E p s' u' k' n' un' f' e' d ∧ RB (Yb p o w) p nn e d u u' ∧ (∀ a, a < nn → g' a = g a) ∧ (∀ a, nn ≤ a → a < n' → StX g' s' u' p n' f' e' a) ∧ DN g' s' u' p n' o w ∧ ∀ N, cal (r_openBody (nI (40 * p + o)) (nI w) u) (r_readText_40 (N + m)) = cal (RC (nI (40 * p + o)) (nI w) R u') (r_readText_40 N)) ∨
    (v = 0 ∧ FT sT cnt p nn e d (Yb p o w) k u s' (fun N => cal (r_openBody (nI (40 * p + o)) (nI w) u) (r_readText_40 N))))
def slt (d o w : Nat) : Nat := if d = 0 then 120 else 3 * o + w
def clo (d : Nat) : Nat := if d = 0 then 0 else 125
def rsl (p d o w : Nat) (u : St) : Int32 := if d = 0 then u.1 214 0 p else u.1 219 0 (3 * (40 * p + o) + w)
def Ys (p d o w : Nat) : Nat → Nat → Prop := fun id i => (id = 235 ∧ i = d) ∨ (d = 0 ∧ id = 214 ∧ i = p) ∨ (d ≠ 0 ∧ id = 219 ∧ i = 3 * (40 * p + o) + w)
def GS (sT : St) (z cnt : Nat) (E : Nat → Nat) (p : Nat) (n : Nat) (F : Fx3) : Prop := ∀ (d o w : Nat) (s u : St) (k nn un f e : Nat) (g : Nat → Nat), BS sT z cnt E p s u k nn un f e d → OWN p d nn o w u → u.1 235 0 d = -1 → rsl p d o w u = -1 → 4 + 4 * (8 - d) ≤ n →
  ∃ v s', F (nI (slt d o w)) (nI d) (nI (clo d)) s = some (v, s') ∧ CB (Xc 74 (slt d o w)) p nn f s s' ∧ ((v = 1 ∧ ∃ u' k' n' un' f' e' g' m, k ≤ k' ∧ m ≤ k' - k ∧ nn ≤ n' ∧ f ≤ f' ∧ e ≤ e' ∧ BS sT z cnt E p s' u' k' n' un' f' e' d ∧ KK sT k' = nI (clo d) ∧ RB (Ys p d o w) p nn e d u u' ∧ (∀ a, a < nn → g' a = g a) ∧ (∀ a, nn ≤ a → a < n' → StX g' s' u' p n' f' e' a) ∧ XR (fun _ => g') p n' (s'.1 74 p (slt d o w)) (rsl p d o w u') d ∧ ∀ N, r_readText_40 (N + m) u = r_readText_40 N u') ∨
    (v = 0 ∧ FT sT cnt p nn e d (Ys p d o w) k u s' (fun N => r_readText_40 N u)))
theorem cal_cal {α β : Type} {a : Option α} {f : α → Option β} : cal (cal a fun s => some s) f = cal a f := by cases a <;> rfl
/-- '{' -/
theorem op_body {sT s u : St} {z cnt p k n un f e d o w : Nat} {E : Nat → Nat} (fS : Fx3) (fT : Fx1) (fB : Fx3) (fM : Fx2) (X : CX sT z cnt E) (hp : p < 12) (H : BS sT z cnt E p s u k n un f e d) (ho : o < n) (hw : w < 3) :
    (k_isBody fS fT fB fM (nI o) (nI w) (nI d) s = some (0, s) ∧ r_openBody (nI (40 * p + o)) (nI w) u = some (misU u)) ∨
    (d < 8 ∧ ∃ s6 u1, k_isBody fS fT fB fM (nI o) (nI w) (nI d) s = (cal2 (fS (nI (3 * o + w)) (nI (d + 1)) (125 : Int32) s6) fun v8 s7 => if v8 = 0 then some (0, s7) else (cal2 (k_is (125 : Int32) s7) fun v10 s9 => if v10 = 0 then some (0, s9) else (some ((1 : Int32), s9)))) ∧ r_openBody (nI (40 * p + o)) (nI w) u = some u1 ∧ BS sT z cnt E p s6 u1 (k + 1) n un f e (d + 1) ∧ OWN p (d + 1) n o w u1 ∧ u1.1 235 0 (d + 1) = -1 ∧ u1.1 220 0 (3 * (40 * p + o) + w) = 1 ∧ u1.1 219 = u.1 219 ∧ CB X0 p n f s s6 ∧ RB (Yb p o w) p n e d u u1) := by
  have n4 := H.n4; have d8 := H.d8
  obtain ⟨D, D8, D1, D2⟩ := H.dp
  have sg : r_isSign 123 u = some (if KK sT k = 123 then 1 else 0, u) := tv_sign (c := 123) H.at.tv (by decide)
  by_cases q : KK sT k = 123
  · by_cases q8 : d = 8
    · refine Or.inl ⟨?_, ?_⟩
      · unfold k_isBody; rw [if_pos (show (8 : Int32) ≤ nI d from nI_le (a := 8) (by omega) (by omega))]
      · unfold r_openBody r_openBody_25
        rw [bnd_d, H.bd, if_pos rfl, sg, if_pos q, cal2_s, if_neg (by decide), bnd_d, H.wi, if_pos (show nI d = 8 by rw [q8]; rfl), r_mis H.bd, cal_s]
    · have hd : d < 8 := by omega
      refine Or.inr ⟨hd, ?_⟩
      -- the deepest
      have hmx : mx (nI D) (nI (d + 1)) = nI (max D (d + 1)) := by
        unfold mx
        by_cases t : D < d + 1
        · rw [if_pos (nI_lt t (by omega)), show max D (d + 1) = d + 1 by omega]
        · rw [if_neg (nI_nlt (by omega) (by omega)), show max D (d + 1) = D by omega]
      generalize hM : max D (d + 1) = M at hmx
      have M8 : M ≤ 8 := by omega
      generalize hu8 : si u 236 0 0 (nI (d + 1)) = u8
      have o8 : ∀ id, id ≠ 236 → u8.1 id = u.1 id := fun id z => by rw [← hu8]; exact si_id z
      have w8 : u8.1 236 0 0 = nI (d + 1) := by rw [← hu8]; exact si_eq
      generalize hV : si (si (si (si (si u8 213 0 p (nI M)) 233 0 (d + 1) (nI (40 * p + o))) 234 0 (d + 1) (nI w)) 235 0 (d + 1) (-1)) 220 0 (3 * (40 * p + o) + w) 1 = V
      have oV : ∀ id, ¬ (id = 213 ∨ id = 220 ∨ (233 ≤ id ∧ id ≤ 236)) → V.1 id = u.1 id := fun id z => by rw [← hV, si_id (by omega), si_id (by omega), si_id (by omega), si_id (by omega), si_id (by omega), o8 id (by omega)]
      have V6 : V.1 236 0 0 = nI (d + 1) := by rw [← hV, si_o (by decide), si_o (by decide), si_o (by decide), si_o (by decide), si_o (by decide)]; exact w8
      have V2 : V.2 = u.2 := by rw [← hV, ← hu8]; rfl
      have h80 : ∀ y0, y0 = nI M → r_openBody_80 (nI (40 * p + o)) (nI w) y0 (nI p) u8 = cal (r_next V) fun s23 => some s23 := fun y0 hy => by
        unfold r_openBody_80
        rw [gI hp (by decide), nI_clamp (by omega), bnd_d, si_o (by decide), w8, gI (by omega) (by decide), nI_clamp (by omega), bnd_d, si_o (by decide), si_o (by decide), w8, gI (by omega) (by decide), nI_clamp (by omega), bnd_d, si_o (by decide), si_o (by decide), si_o (by decide), w8, gI (by omega) (by decide), nI_clamp (by omega), m3, grd_t ⟨ibN (by omega) (by decide), zo1⟩, nI_clamp (by omega), hy, hV]
      let s6 := si (si s 50 0 0 (nI (k + 1))) 66 p 0 (nI M)
      have b6 : BS sT z cnt E p (si s 66 p 0 (nI M)) V k n un f e (d + 1) := by
        refine ⟨H.at.to (si_o (by decide)) (fun id a b => si_id (by omega)) (fun id a b => oV id (by omega)) (by rw [V2]), by rw [si_o (by decide)]; exact H.pp, by rw [oV 227 (by omega)]; exact H.rd, by rw [si_o (by decide)]; exact H.n1, by rw [oV 211 (by omega)]; exact H.n2, H.n4, by rw [si_o (by decide)]; exact H.u1, by rw [oV 212 (by omega)]; exact H.u2, H.u6, ⟨M, M8, si_eq, ?_⟩, by rw [oV 208 (by omega)]; exact H.bd, by rw [si_o (by decide)]; exact H.cc, H.ff, by rw [oV 215 (by omega)]; exact H.ac, H.ee, V6, by omega⟩
        rw [← hV, si_o (by decide), si_o (by decide), si_o (by decide), si_o (by decide), si_eq]
      obtain ⟨u1, r1, r2, r3⟩ := b6.nx X (by rw [q]; decide)
      rw [si_comm (by decide)] at r3
      refine ⟨_, u1, ?_, ?_, r3, Or.inr ⟨by omega, ho, hw, ?_, ?_⟩, ?_, ?_, ?_, ?_, ?_⟩
      · unfold k_isBody k_isBody_67
        rw [if_neg (show ¬ (8 : Int32) ≤ nI d from nI_ge (b := 8) hd (by decide)), k_is_eq X H.at, if_pos q, cal2_s, if_neg (by decide), si_o (by decide), H.pp, gI (by omega) (by decide), nI_clamp (by omega), gI (by omega) (by decide), bnd_d, si_o (by decide), D1, nI_1, hmx, bnd_d, m3]
      · unfold r_openBody
        rw [bnd_d, H.bd, if_pos rfl, sg, if_pos q, cal2_s, if_neg (by decide), bnd_d, H.wi, if_neg (show ¬ nI d = 8 from fun z => q8 ((nI_eq (b := 8) (by omega) (by decide)).mp z)), bnd_d, nI_1, bnd_d, hu8, bnd_d, o8 227 (by decide), H.rd, bnd_d, w8, bnd_d, gI hp (by decide), nI_clamp (by omega), o8 213 (by decide), D2]
        by_cases t : D < d + 1
        · rw [if_neg (nI_ge t (by omega)), bnd_d, h80 _ (by rw [show M = d + 1 by omega]), r1, cal_s]
        · rw [if_pos (nI_le (by omega) (by omega)), bnd_d, gI hp (by decide), nI_clamp (by omega), D2, h80 _ (by rw [show M = D by omega]), r1, cal_s]
      · rw [r2.1 233 (by omega), ← hV, si_o (by decide), si_o (by decide), si_o (by decide), si_eq]
      · rw [r2.1 234 (by omega), ← hV, si_o (by decide), si_o (by decide), si_eq]
      · rw [r2.1 235 (by omega), ← hV, si_o (by decide), si_eq]
      · rw [r2.1 220 (by omega), ← hV, si_eq]
      · rw [r2.1 219 (by omega), oV 219 (by omega)]
      · exact (CB_at (CB.refl s)).si (Or.inl (by omega)) trivial
      · refine RB.fx ?_ r2
        rw [← hV, ← hu8]
        refine RB.si (RB.si (RB.si (RB.si (RB.si (RB.si (RB.refl u) ?_) ?_) ?_) ?_) ?_) ?_
        · exact Or.inr (Or.inr (Or.inr (Or.inr (Or.inr (Or.inr (Or.inr rfl))))))
        · exact Or.inr (Or.inl ⟨by omega, by omega, by omega, rfl⟩)
        · exact Or.inr (Or.inr (Or.inr (Or.inr (Or.inr (Or.inr (Or.inl ⟨by omega, by omega, Or.inl (by omega)⟩))))))
        · exact Or.inr (Or.inr (Or.inr (Or.inr (Or.inr (Or.inr (Or.inl ⟨by omega, by omega, Or.inl (by omega)⟩))))))
        · exact Or.inr (Or.inr (Or.inr (Or.inr (Or.inr (Or.inr (Or.inl ⟨by omega, by omega, Or.inl (by omega)⟩))))))
        · exact Or.inr (Or.inr (Or.inr (Or.inr (Or.inl ⟨Or.inr rfl, Or.inr ⟨Or.inr rfl, rfl⟩⟩))))
  · refine Or.inl ⟨?_, ?_⟩
    · unfold k_isBody
      rw [k_is_eq X H.at, if_neg q, cal2_s, if_pos rfl]
      split <;> rfl
    · unfold r_openBody r_openBody_25
      rw [bnd_d, H.bd, if_pos rfl, sg, if_neg q, cal2_s, if_pos rfl, r_mis H.bd, cal_s]
theorem tv_0 {K V P : Int32} {u : St} (h : TkV K V P u) : u.1 203 0 0 = 0 ↔ K = 0 := by
  rcases h.2 with ⟨a, b⟩ | ⟨a, b | ⟨b, -⟩⟩ | ⟨a, _, _, _, b, _⟩ | ⟨a, _, _, _, b, _⟩ | ⟨a, _, _, _, b, _⟩ | ⟨w, w1, a, b⟩ | ⟨g, g1, a, b, d⟩
  · rw [a, b]
  · rw [a, b]
  · rw [a, b]; decide
  · rw [a, b]
  · rw [a, b]; decide
  · rw [a, b]; decide
  · rw [a, b]
    constructor
    · intro q; have := (nI_eq (b := 0) (by omega) (by decide)).mp q; omega
    · intro q; have := (nI_eq (b := 0) (by omega) (by decide)).mp q; omega
  · have := isG_lt g1
    rw [a, b]
    constructor
    · intro q; exact absurd q (by decide)
    · intro q; have := (nI_eq (b := 0) (by omega) (by decide)).mp q; omega
/-- '}' -/
theorem cl_body {sT s u : St} {z cnt p k n un f e d o w : Nat} {E : Nat → Nat} {R : Int32} (X : CX sT z cnt E) (hp : p < 12) (H : BS sT z cnt E p s u k n un f e (d + 1)) (ho : o < 40) (hK : KK sT k = 125) (h3 : u.1 233 0 (d + 1) = nI (40 * p + o)) (h4 : u.1 234 0 (d + 1) = nI w) (h6 : u.1 216 0 (40 * p + o) = R) :
    ∃ u', (∀ N, r_readText_40 (N + 1) u = cal (RC (nI (40 * p + o)) (nI w) R u') (r_readText_40 N)) ∧ BS sT z cnt E p (si s 50 0 0 (nI (k + 1))) u' (k + 1) n un f e d ∧ FX (si u 236 0 0 (nI d)) u' := by
  have d8 := H.d8
  have b6 : BS sT z cnt E p s (si u 236 0 0 (nI d)) k n un f e d := by
    refine ⟨H.at.to rfl (fun _ _ _ => rfl) (fun id a b => si_id (by omega)) rfl, H.pp, by rw [si_o (by decide)]; exact H.rd, H.n1, by rw [si_o (by decide)]; exact H.n2, H.n4, H.u1, by rw [si_o (by decide)]; exact H.u2, H.u6, by rw [si_o (by decide)]; exact H.dp, by rw [si_o (by decide)]; exact H.bd, H.cc, H.ff, by rw [si_o (by decide)]; exact H.ac, H.ee, si_eq, by omega⟩
  obtain ⟨u', r1, r2, r3⟩ := b6.nx X (by rw [hK]; decide)
  refine ⟨u', fun N => ?_, r3, r2⟩
  have t0 : ¬ u.1 203 0 0 = 0 := fun q => by
    have := (tv_0 H.at.tv).mp q
    rw [show sT.1 96 0 k = KK sT k from rfl, hK] at this; exact absurd this (by decide)
  have sg : r_isSign 125 u = some (1, u) := by
    rw [show r_isSign 125 u = _ from tv_sign (c := 125) H.at.tv (by decide), if_pos (show sT.1 96 0 k = nI 125 from hK)]
  have w0 : ¬ u.1 236 0 0 = 0 := by rw [H.wi]; exact fun q => by have := (nI_eq (b := 0) (by omega) (by decide)).mp q; omega
  rw [r_readText_40.eq_2, bnd_d, H.bd, if_pos rfl, bnd_d, if_neg t0]
  unfold r_readText_61 r_readText_91
  rw [bnd_d, if_neg t0, sg, cal2_s, if_neg (by decide), bnd_d, if_neg w0, sg, cal2_s, if_neg (by decide)]
  unfold r_closeBody
  rw [bnd_d, H.wi, gI (by omega) (by decide), nI_clamp (by omega), h3, bnd_d, gI (by omega) (by decide), show (nI (d + 1)).toNatClampNeg = d + 1 from nI_clamp (by omega), h4, gI (by omega) (by decide), nI_clamp (by omega), h6, bnd_d, nI_pred, bnd_d, r1, cal_s]
  rfl
theorem gB {sT : St} {z cnt p n : Nat} {E : Nat → Nat} {fS : Fx3} {fT : Fx1} {fB : Fx3} {fM : Fx2} (X : CX sT z cnt E) (hp : p < 12) (IS : GS sT z cnt E p n fS) : GB sT z cnt E p (n + 1) (k_isBody fS fT fB fM) := by
  intro d o w s u k nn un f e g R H ho hw h9 hg h6 hn
  have n4 := H.n4
  rcases op_body fS fT fB fM X hp H ho hw with ⟨a1, a2⟩ | ⟨hd, s6, u1, a1, a2, b1, b2, b3, b4, b5, c1, c2⟩
  · refine ⟨0, s, a1, CB.refl s, Or.inr ⟨rfl, k, misU u, 1, Nat.le_refl _, H.at.kl, H.at.at5, mis_b, by unfold misU; rw [si_eq]; exact H.at.tv.1, mis_rb, by omega, fun N => ?_⟩⟩
    show cal (r_openBody _ _ u) _ = _
    rw [a2, cal_s, rt_bad mis_b]
  · rw [a1]
    have sl1 : slt (d + 1) o w = 3 * o + w := if_neg (by omega)
    have cl1 : clo (d + 1) = 125 := if_neg (by omega)
    have rs1 : ∀ v, rsl p (d + 1) o w v = v.1 219 0 (3 * (40 * p + o) + w) := fun v => if_neg (by omega)
    obtain ⟨v, s7, g1, g2, g3⟩ := IS (d + 1) o w s6 u1 (k + 1) nn un f e g b1 b2 b3 (by rw [rs1, b5]; exact h9) (by omega)
    rw [sl1, cl1] at g1
    rw [show fS (nI (3 * o + w)) (nI (d + 1)) 125 s6 = _ from g1, cal2_s]
    rw [sl1] at g2 g3
    have C7 : CB (Xc 74 (3 * o + w)) p nn f s s7 := (CB0 c1).trans g2
    have ym : ∀ id i, Ys p (d + 1) o w id i → Yb p o w id i ∨ (216 ≤ id ∧ id ≤ 223 ∧ id ≠ 219 ∧ id ≠ 220 ∧ 40 * p + nn ≤ i ∧ i < 40 * p + 40) ∨ ((id = 219 ∨ id = 220) ∧ 3 * (40 * p + nn) ≤ i ∧ i < 3 * (40 * p + 40)) ∨ (233 ≤ id ∧ id ≤ 235 ∧ d < i) := fun id i q => by
      rcases q with ⟨q1, q2⟩ | ⟨q1, _⟩ | ⟨_, q1, q2⟩
      · exact Or.inr (Or.inr (Or.inr ⟨by omega, by omega, by omega⟩))
      · omega
      · exact Or.inl ⟨Or.inl q1, q2⟩
    rcases g3 with ⟨rfl, u2, k2, n2, un2, f2, e2, g', m, m1, m2, m3', m4, m5, b6, hK, r2, gg, st, xr, rn⟩ | ⟨rfl, k2, u2, m, m1, m2, m3', m4, m5, r2, m6, rn⟩
    · rw [if_neg (by decide), k_is_eq X b6.at, cl1] at *
      rw [if_pos (show KK sT k2 = 125 from hK), cal2_s, if_neg (by decide)]
      rw [rs1] at xr
      have hmn := b6.n4
      have R1 : RB (Yb p o w) p nn e d u u2 := c2.trans (r2.mono ym (Nat.le_refl _) (Nat.le_refl _) (by omega))
      have q3 : u2.1 233 0 (d + 1) = nI (40 * p + o) := by
        rw [r2.ql 233 (d + 1) (by omega) (by omega) (Nat.le_refl _) (fun q => by rcases q with q | q | q <;> omega)]
        rcases b2 with q | q
        · omega
        · exact q.2.2.2.1
      have q4 : u2.1 234 0 (d + 1) = nI w := by
        rw [r2.ql 234 (d + 1) (by omega) (by omega) (Nat.le_refl _) (fun q => by rcases q with q | q | q <;> omega)]
        rcases b2 with q | q
        · omega
        · exact q.2.2.2.2
      have q6 : u2.1 216 0 (40 * p + o) = R := by
        rw [R1.qs 216 _ (by omega) (by omega) (by omega) (by omega) (by omega) (fun q => by rcases q.1 with q | q <;> omega)]; exact h6
      obtain ⟨u3, t1, t2, t3⟩ := cl_body X hp b6 (by omega) hK q3 q4 q6
      have o3 : ∀ id, ¬ (id = 236 ∨ (202 ≤ id ∧ id ≤ 207)) → u3.1 id = u2.1 id := fun id q => by rw [t3.1 id (by omega), si_id (by omega)]
      have v20 : u3.1 220 0 (3 * (40 * p + o) + w) = 1 := by
        rw [o3 220 (by omega), r2.qb 220 _ (Or.inr rfl) (Or.inl (by omega)) (fun q => by rcases q with q | q | q <;> omega)]; exact b4
      have R3 : RB (Yb p o w) p nn e d u u3 := (R1.si (Or.inr (Or.inr (Or.inr (Or.inr (Or.inr (Or.inr (Or.inr rfl)))))))).fx t3
      have hg' : g' o = d := by rw [gg o ho]; exact hg
      have R23 : RB X0 p n2 e2 d u2 u3 := ((RB.refl u2).si (Or.inr (Or.inr (Or.inr (Or.inr (Or.inr (Or.inr (Or.inr rfl)))))))).fx t3
      have C23 : CB X0 p n2 f2 s7 (si s7 50 0 0 (nI (k2 + 1))) := CB_at (CB.refl s7)
      refine ⟨1, _, rfl, CB_at C7, Or.inl ⟨rfl, u3, k2 + 1, n2, un2, f2, e2, g', m + 1, by omega, by omega, m3', m4, m5, t2, R3, gg, fun a h1 h2 => (st a h1 h2).to h2 h2 (Nat.le_refl _) (fun _ _ => rfl) C23 R23 (Nat.le_refl _) (Nat.le_refl _) (fun _ _ _ => nX0) (fun _ _ => nX0) (fun _ _ _ _ _ => nX0) (fun _ _ _ _ => nX0), ⟨v20, Or.inr ⟨v20, by rw [hg']; exact hd, ?_⟩⟩, fun N => ?_⟩⟩
      · rw [hg', si_o (by decide), o3 219 (by omega)]; exact xr
      · rw [a2, cal_s, show N + (m + 1) = (N + 1) + m by omega, rn, t1]
    · rw [if_pos rfl]
      refine ⟨0, s7, rfl, C7, Or.inr ⟨rfl, k2, u2, m, by omega, m2, m3', m4, m5, c2.trans (r2.mono ym (Nat.le_refl _) (Nat.le_refl _) (by omega)), by omega, fun N => ?_⟩⟩
      show cal (r_openBody _ _ u) _ = _
      rw [a2, cal_s]; exact rn N
