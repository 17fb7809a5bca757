/-! texts on both sides: one statement after another -/
def GT (sT : St) (z cnt : Nat) (E : Nat → Nat) (p : Nat) (n : Nat) (F : Fx1) : Prop := ∀ (d o w : Nat) (la : Option Nat) (s u : St) (k nn un f e : Nat) (g : Nat → Nat), BS sT z cnt E p s u k nn un f e d → OWN p d nn o w u → LAS p d nn la u → ¬ KK sT k = nI (clo d) → 3 + 4 * (8 - d) ≤ n →
  ∃ v s', F (nI d) s = some (v, s') ∧ CB X0 p nn f s s' ∧ ((v = 1 ∧ ∃ u' k' n' un' f' e' g' m, k < k' ∧ m ≤ k' - k ∧ nn < n' ∧ f ≤ f' ∧ e ≤ e' ∧ BS sT z cnt E p s' u' k' n' un' f' e' d ∧ RB (Yl p d o w la) p nn e d u u' ∧ (∀ a, a < nn → g' a = g a) ∧ g' nn = d ∧ (∀ a, nn ≤ a → a < n' → StX g' s' u' p n' f' e' a) ∧ LKV p d o w la (nI (40 * p + nn)) u' ∧ u'.1 235 0 d = nI (40 * p + nn) ∧ ∀ N, r_readText_40 (N + m) u = r_readText_40 N u') ∨
    (v = 0 ∧ FT sT cnt p nn e d (Yl p d o w la) k u s' (fun N => r_readText_40 N u)))
theorem StX.tn {X Y : Nat → Nat → Prop} {g g' : Nat → Nat} {s u s' u' : St} {p n hi hi' fC eA fC' eA' d a : Nat} (h : StX g s u p hi fC eA a) (ha : a < n) (hai : a < hi) (hh : hi ≤ hi') (hg : ∀ a, a < hi → g' a = g a) (C : CB X p n fC s s') (R : RB Y p n eA d u u') (hf : fC ≤ fC') (he : eA ≤ eA') (hX : ∀ id, 68 ≤ id → id ≤ 72 → ¬ X id a) (hX4 : ∀ w, w < 3 → ¬ X 74 (3 * a + w)) (hY : ∀ id, 216 ≤ id → id ≤ 223 → id ≠ 217 → id ≠ 219 → id ≠ 220 → ¬ Y id (40 * p + a)) (hY2 : ∀ id w, id = 219 ∨ id = 220 → w < 3 → ¬ Y id (3 * (40 * p + a) + w)) (hn : XR (fun _ => g') p hi' (s'.1 73 p a) (u'.1 217 0 (40 * p + a)) (g' a)) : StX g' s' u' p hi' fC' eA' a := by
  have k : s'.1 68 p a = s.1 68 p a := C.qs 68 a (by omega) (by omega) ha (hX 68 (by omega) (by omega))
  have b : ∀ w, w < 3 → u'.1 220 0 (3 * (40 * p + a) + w) = u.1 220 0 (3 * (40 * p + a) + w) := fun w hw => R.qb 220 _ (Or.inr rfl) (Or.inl (by omega)) (hY2 220 w (Or.inr rfl) hw)
  have sc := h.sc.to ha C R hf he (fun id i1 i2 => hX id (by omega) (by omega)) (fun id i1 i2 i3 i4 => hY id (by omega) i2 (by omega) i3 i4)
  refine ⟨?_, hn, fun w hw => (h.bd w hw).to ha hw hh hai hg C R (hX4 w hw) ⟨hY2 219 w (Or.inl rfl) hw, hY2 220 w (Or.inr rfl) hw⟩, ?_, ?_, ?_, by rw [k]; exact sc⟩
  · rw [k, R.qs 216 _ (by omega) (by omega) (by omega) (by omega) (by omega) (hY 216 (by omega) (by omega) (by omega) (by omega) (by omega))]; exact h.kd
  · rw [k, b 0 (by omega)]; exact h.b0
  · rw [k, b 1 (by omega)]; exact h.b1
  · rw [k, b 2 (by omega)]; exact h.b2
def pvI : Option Nat → Int32
  | none => -1
  | some a => nI a
theorem YlYs {p n0 n d o w : Nat} {la : Option Nat} (hl : ∀ a, la = some a → n0 ≤ a ∧ a < n) (hn : n ≤ 40) : ∀ id i, Yl p d o w la id i → Ys p d o w id i ∨ (216 ≤ id ∧ id ≤ 223 ∧ id ≠ 219 ∧ id ≠ 220 ∧ 40 * p + n0 ≤ i ∧ i < 40 * p + 40) ∨ ((id = 219 ∨ id = 220) ∧ 3 * (40 * p + n0) ≤ i ∧ i < 3 * (40 * p + 40)) ∨ (233 ≤ id ∧ id ≤ 235 ∧ d < i) := fun id i q => by
  rcases q with q | ⟨a, q1, q2, q3⟩ | ⟨_, q⟩ | ⟨_, q⟩
  · exact Or.inl (Or.inl q)
  · have := hl a q1
    exact Or.inr (Or.inl ⟨by omega, by omega, by omega, by omega, by omega, by omega⟩)
  · exact Or.inl (Or.inr (Or.inl q))
  · exact Or.inl (Or.inr (Or.inr q))
theorem loop_st {sT : St} {z cnt p nF d o w n0 : Nat} {E : Nat → Nat} {fS : Fx3} {fT : Fx1} {fB : Fx3} {fM : Fx2} (X : CX sT z cnt E) (hp : p < 12) (IT : GT sT z cnt E p nF fT) (hF : 3 + 4 * (8 - d) ≤ nF) (ho : d ≠ 0 → o < n0 ∧ w < 3) :
    ∀ (q N i : Nat) (s u : St) (k n un f e : Nat) (g : Nat → Nat) (la : Option Nat), 41 - n ≤ q → q < N → i + n0 ≤ n → n0 ≤ n → BS sT z cnt E p s u k n un f e d → OWN p d n0 o w u → LAS p d n la u → (∀ a, la = some a → n0 ≤ a ∧ a < n ∧ g a = d) → XR (fun _ => g) p n (s.1 74 p (slt d o w)) (rsl p d o w u) d → (∀ a, n0 ≤ a → a < n → StX g s u p n f e a) →
      ∃ v s', k_statements_16 fS fT fB fM N (nI (slt d o w)) (nI d) (nI (clo d)) (pvI la) (nI i) s = some (v, s') ∧ CB (Xc 74 (slt d o w)) p n0 f s s' ∧ ((v = 1 ∧ ∃ u' k' n' un' f' e' g' m, k ≤ k' ∧ m ≤ k' - k ∧ n ≤ n' ∧ f ≤ f' ∧ e ≤ e' ∧ BS sT z cnt E p s' u' k' n' un' f' e' d ∧ KK sT k' = nI (clo d) ∧ RB (Ys p d o w) p n0 e d u u' ∧ (∀ a, a < n0 → g' a = g a) ∧ (∀ a, n0 ≤ a → a < n' → StX g' s' u' p n' f' e' a) ∧ XR (fun _ => g') p n' (s'.1 74 p (slt d o w)) (rsl p d o w u') d ∧ ∀ N, r_readText_40 (N + m) u = r_readText_40 N u') ∨ (v = 0 ∧ FT sT cnt p n0 e d (Ys p d o w) k u s' (fun N => r_readText_40 N u))) := by
  have c8 := X.c8
  intro q
  induction q with
  | zero =>
    intro N i s u k n un f e g la hq hN hi hn H
    have := H.n4; omega
  | succ q ih =>
    intro N i s u k n un f e g la hq hN hi hn H hO hL hla hx hst
    obtain ⟨N, rfl⟩ : ∃ q, N = q + 1 := ⟨N - 1, by omega⟩
    have n4 := H.n4; have kl := H.at.kl
    have h121 : slt d o w < 121 := by
      unfold slt
      split
      · omega
      · rename_i t; have := ho t; omega
    have hsl : slt d o w < 3 * n ∨ slt d o w = 120 := by
      unfold slt
      split
      · exact Or.inr rfl
      · rename_i t; have := ho t; exact Or.inl (by omega)
    have hsa : ∀ b, n0 ≤ b → ∀ w', w' < 3 → b < 40 → slt d o w ≠ 3 * b + w' := fun b hb w' hw' hb4 => by
      unfold slt
      split
      · omega
      · rename_i t; have := ho t; omega
    rw [k_statements_16.eq_2, if_neg (show ¬ (40 : Int32) < nI i from nI_nlt (a := 40) (by omega) (by decide)), bnd_d, H.at.at5, gI (by omega) (by decide), nI_clamp (by omega), H.at.t6, show sT.1 96 0 k = KK sT k from rfl]
    by_cases hK : KK sT k = nI (clo d)
    · rw [if_pos hK]
      exact ⟨1, s, rfl, CB.refl s, Or.inl ⟨rfl, u, k, n, un, f, e, g, 0, Nat.le_refl _, by omega, Nat.le_refl _, Nat.le_refl _, Nat.le_refl _, H, hK, RB.refl u, fun _ _ => rfl, hst, hx, fun N => rfl⟩⟩
    · rw [if_neg hK, H.pp, gI (by omega) (by decide), nI_clamp (by omega), bnd_d, H.n1]
      have hO' : OWN p d n o w u := by
        rcases hO with t | ⟨t1, t2, t3⟩
        · exact Or.inl t
        · exact Or.inr ⟨t1, by omega, t3⟩
      have hlan : ∀ a, la = some a → n0 ≤ a ∧ a < n := fun a ha => ⟨(hla a ha).1, (hla a ha).2.1⟩
      obtain ⟨v, s7, g1, g2, g3⟩ := IT d o w la s u k n un f e g H hO' hL hK hF
      rw [g1, cal2_s]
      have C7 : CB (Xc 74 (slt d o w)) p n0 f s s7 := (CB0 g2).mono (fun _ _ t => Or.inl t) hn (Nat.le_refl _)
      rcases g3 with ⟨rfl, u', k', n', un', f', e', g', m, m1, m2, m3', m4, m5, b', r', gg, gd, st, lk, v5, rn⟩ | ⟨rfl, k', u', m, m1, m2, m3', m4, m5, r', m6, rn⟩
      · have n4' := b'.n4
        rw [if_neg (by decide)]
        have R' : RB (Ys p d o w) p n0 e d u u' := r'.mono (YlYs hlan n4) hn (Nat.le_refl _) (Nat.le_refl _)
        -- the link on the class's side
        have key : ∃ s12, (if pvI la = (-1 : Int32) then (grd (ib (s7.1 49 0 0) 13) (s7.1 49 0 0).toNatClampNeg fun p11 => grd (ib (nI (slt d o w)) 121) (si s7 74 p11 (nI (slt d o w)).toNatClampNeg (nI n)) fun s12 => k_statements_90 fS fT fB fM (k_statements_16 fS fT fB fM N) (nI (slt d o w)) (nI d) (nI (clo d)) (nI i) (nI n) s12) else (grd (ib (s7.1 49 0 0) 13) (s7.1 49 0 0).toNatClampNeg fun p9 => grd (ib (pvI la) 40) (si s7 73 p9 (pvI la).toNatClampNeg (nI n)) fun s10 => k_statements_90 fS fT fB fM (k_statements_16 fS fT fB fM N) (nI (slt d o w)) (nI d) (nI (clo d)) (nI i) (nI n) s10)) = k_statements_16 fS fT fB fM N (nI (slt d o w)) (nI d) (nI (clo d)) (pvI (some n)) (nI (i + 1)) s12 ∧ BS sT z cnt E p s12 u' k' n' un' f' e' d ∧ CB (Xc 74 (slt d o w)) p n0 f s s12 ∧ XR (fun _ => g') p n' (s12.1 74 p (slt d o w)) (rsl p d o w u') d ∧ (∀ a, n0 ≤ a → a < n' → StX g' s12 u' p n' f' e' a) := by
          unfold k_statements_90
          rw [b'.pp, gI (by omega) (by decide), nI_clamp (by omega), nI_1]
          have okn : okx (nI n) := Or.inr ⟨n, by omega, rfl⟩
          cases la with
          | none =>
            have C12 : CB (Xc 74 (slt d o w)) p n' f' s7 (si s7 74 p (slt d o w) (nI n)) := (CB.refl s7).si (Or.inr (Or.inr ⟨rfl, Or.inr ⟨rfl, rfl⟩⟩)) okn
            have C12n : CB (Xc 74 (slt d o w)) p n f s (si s7 74 p (slt d o w) (nI n)) := (CB0 g2).trans (C12.mono (fun _ _ t => Or.inl t) (by omega) m4)
            refine ⟨si s7 74 p (slt d o w) (nI n), ?_, b'.to (fun id t => si_id (by omega)) (fun _ _ => rfl) rfl, C7.trans (C12.mono (fun _ _ t => Or.inl t) (by omega) m4), ?_, fun a h1 h2 => ?_⟩
            · rw [show pvI none = -1 from rfl, if_pos rfl, gI h121 (by decide), nI_clamp (by omega)]; rfl
            · refine Or.inr ⟨n, m3', si_eq, ?_, gd⟩
              unfold rsl
              split
              · rename_i t; exact lk.2.1 rfl t
              · rename_i t; exact lk.2.2 rfl t
            · have nX : ∀ id, 68 ≤ id → id ≤ 73 → ¬ Xc 74 (slt d o w) id a := fun id i1 i2 t => by have := t.1; omega
              have nX4 : ∀ w', w' < 3 → ¬ Xc 74 (slt d o w) 74 (3 * a + w') := fun w' hw' t => hsa a h1 w' hw' (by omega) t.2.symm
              rcases Nat.lt_or_ge a n with h3 | h3
              · refine (hst a h1 h3).to h3 h3 (by omega) gg C12n r' m4 m5 nX nX4 (fun id i1 i2 i3 i4 t => ?_) (fun id w' i1 i2 t => ?_)
                · rcases t with t | ⟨_, t, _⟩ | ⟨_, _, t, _⟩ | ⟨_, _, t, _⟩
                  · omega
                  · cases t
                  · omega
                  · omega
                · rcases t with t | ⟨_, t, _⟩ | ⟨_, _, t, _⟩ | ⟨_, t1, t2, t3⟩
                  · omega
                  · cases t
                  · omega
                  · have := ho t1; omega
              · exact (st a h3 h2).to h2 h2 (Nat.le_refl _) (fun _ _ => rfl) C12 (RB.refl (X := X0) (d := d) u') (Nat.le_refl _) (Nat.le_refl _) nX nX4 (fun _ _ _ _ _ => nX0) (fun _ _ _ _ => nX0)
          | some a0 =>
            have ha0 := hla a0 rfl
            have C12 : CB (Xc 73 a0) p n' f' s7 (si s7 73 p a0 (nI n)) := (CB.refl s7).si (Or.inr (Or.inl ⟨by omega, by omega, Or.inr ⟨rfl, rfl⟩⟩)) okn
            have C12n : CB (Xc 73 a0) p n f s (si s7 73 p a0 (nI n)) := (CB0 g2).trans (C12.mono (fun _ _ t => Or.inl t) (by omega) m4)
            refine ⟨si s7 73 p a0 (nI n), ?_, b'.to (fun id t => si_id (by omega)) (fun _ _ => rfl) rfl, C7.trans (C12.mono (fun id i t => Or.inr (Or.inl ⟨by have := t.1; omega, by have := t.2; omega⟩)) (by omega) m4), ?_, fun a h1 h2 => ?_⟩
            · rw [show pvI (some a0) = nI a0 from rfl, if_neg (nI_n1 (by omega)), gI (by omega) (by decide), gI (by omega) (by decide), nI_clamp (by omega)]; rfl
            · rw [si_o (by decide), g2.q4 _ hsl nX0]
              have : rsl p d o w u' = rsl p d o w u := by
                unfold rsl
                split
                · rename_i t
                  exact r'.qf (fun t => by rcases t with t | ⟨_, _, t, _⟩ | ⟨t, _⟩ | ⟨t, _⟩ <;> first | omega | cases t)
                · rename_i t
                  have := ho t
                  exact r'.qb 219 _ (Or.inl rfl) (Or.inl (by omega)) (fun t => by rcases t with t | ⟨_, _, t, _⟩ | ⟨t, _⟩ | ⟨t, _⟩ <;> first | omega | cases t)
              rw [this]; exact XR_to hx (by omega) gg
            · have nX4 : ∀ w', w' < 3 → ¬ Xc 73 a0 74 (3 * a + w') := fun w' hw' t => by have := t.1; omega
              have nY2 : ∀ id w', id = 219 ∨ id = 220 → w' < 3 → ¬ Yl p d o w (some a0) id (3 * (40 * p + a) + w') := fun id w' i1 i2 t => by
                rcases t with t | ⟨_, _, t, _⟩ | ⟨t, _⟩ | ⟨t, _⟩
                · omega
                · omega
                · cases t
                · cases t
              rcases Nat.lt_or_ge a n with h3 | h3
              · by_cases ea : a = a0
                · subst ea
                  refine (hst a h1 h3).tn h3 h3 (by omega) gg C12n r' m4 m5 (fun id i1 i2 t => by have := t.1; omega) nX4 (fun id i1 i2 i5 i3 i4 t => ?_) nY2 ?_
                  · rcases t with t | ⟨_, _, t, _⟩ | ⟨t, _⟩ | ⟨t, _⟩
                    · omega
                    · omega
                    · cases t
                    · cases t
                  · rw [si_eq, lk.1 a rfl, gg a h3, ha0.2.2]
                    exact Or.inr ⟨n, m3', rfl, rfl, gd⟩
                · refine (hst a h1 h3).to h3 h3 (by omega) gg C12n r' m4 m5 (fun id i1 i2 t => ea t.2) nX4 (fun id i1 i2 i3 i4 t => ?_) nY2
                  rcases t with t | ⟨b, t1, t2, t3⟩ | ⟨t, _⟩ | ⟨t, _⟩
                  · omega
                  · cases t1; omega
                  · cases t
                  · cases t
              · exact (st a h3 h2).to h2 h2 (Nat.le_refl _) (fun _ _ => rfl) C12 (RB.refl (X := X0) (d := d) u') (Nat.le_refl _) (Nat.le_refl _) (fun id i1 i2 t => by have := t.2; omega) nX4 (fun _ _ _ _ _ => nX0) (fun _ _ _ _ => nX0)
        obtain ⟨s12, k1, k2, k3, k4, k5⟩ := key
        rw [k1]
        have hO12 : OWN p d n0 o w u' := by
          have n3 : ∀ id, id = 233 ∨ id = 234 → ¬ Ys p d o w id d := fun id hid t => by rcases t with t | t | t <;> omega
          rcases hO with ⟨t1, t2⟩ | ⟨t1, t2, t3, t4, t5⟩
          · refine Or.inl ⟨t1, ?_⟩
            rw [R'.ql 233 0 (by omega) (by omega) (by omega) (by rw [← t1]; exact n3 233 (by omega))]; exact t2
          · exact Or.inr ⟨t1, t2, t3, by rw [R'.ql 233 d (by omega) (by omega) (by omega) (n3 233 (by omega))]; exact t4, by rw [R'.ql 234 d (by omega) (by omega) (by omega) (n3 234 (by omega))]; exact t5⟩
        obtain ⟨v, s', e1, e2, e3⟩ := ih N (i + 1) s12 u' k' n' un' f' e' g' (some n) (by omega) (by omega) (by omega) (by omega) k2 hO12 (Or.inr ⟨n, rfl, m3', v5⟩) (fun a ha => by cases ha; exact ⟨hn, m3', gd⟩) k4 k5
        refine ⟨v, s', e1, k3.trans (e2.mono (fun _ _ t => Or.inl t) (Nat.le_refl _) m4), ?_⟩
        rcases e3 with ⟨rfl, u2, k2', n2, un2, f2, e2', g2', mm, l1, l2, l3, l4, l5, l6, l7, l8, l9, l10, l11, l12⟩ | ⟨rfl, k2', u2, mm, l1, l2, l3, l4, l5, l6, l7, l8⟩
        · exact Or.inl ⟨rfl, u2, k2', n2, un2, f2, e2', g2', mm + m, by omega, by omega, by omega, by omega, by omega, l6, l7, R'.trans (l8.mono (fun _ _ t => Or.inl t) (Nat.le_refl _) m5 (Nat.le_refl _)), fun a ha => by rw [l9 a ha, gg a (by omega)], l10, l11, fun N => by rw [show N + (mm + m) = (N + mm) + m by omega, rn, l12]⟩
        · exact Or.inr ⟨rfl, k2', u2, mm + m, by omega, l2, l3, l4, l5, R'.trans (l6.mono (fun _ _ t => Or.inl t) (Nat.le_refl _) m5 (Nat.le_refl _)), by omega, fun N => by show r_readText_40 _ u = _; rw [show N + (mm + m) = (N + mm) + m by omega, rn]; exact l8 N⟩
      · rw [if_pos rfl]
        exact ⟨0, s7, rfl, C7, Or.inr ⟨rfl, k', u', m, m1, m2, m3', m4, m5, r'.mono (YlYs hlan n4) hn (Nat.le_refl _) (Nat.le_refl _), m6, rn⟩⟩
theorem gS' {sT : St} {z cnt p n : Nat} {E : Nat → Nat} {fS : Fx3} {fT : Fx1} {fB : Fx3} {fM : Fx2} (X : CX sT z cnt E) (hp : p < 12) (IT : GT sT z cnt E p n fT) : GS sT z cnt E p (n + 1) (k_statements fS fT fB fM) := by
  intro d o w s u k nn un f e g H hO h5 hr hn
  have n4 := H.n4
  have ho : d ≠ 0 → o < nn ∧ w < 3 := fun hd => by
    rcases hO with ⟨t, _⟩ | ⟨_, t1, t2, _⟩
    · exact absurd t hd
    · exact ⟨t1, t2⟩
  have h121 : slt d o w < 121 := by
    unfold slt
    split
    · omega
    · rename_i t; have := ho t; omega
  have C1 : CB (Xc 74 (slt d o w)) p nn f s (si s 74 p (slt d o w) (-1)) := (CB.refl s).si (Or.inr (Or.inr ⟨rfl, Or.inr ⟨rfl, rfl⟩⟩)) (Or.inl (by decide) : okx (-1))
  unfold k_statements
  rw [H.pp, gI (by omega) (by decide), nI_clamp (by omega), gI h121 (by decide), nI_clamp (by omega)]
  have H1 : BS sT z cnt E p (si s 74 p (slt d o w) (-1)) u k nn un f e d := H.to (fun id t => si_id (by omega)) (fun _ _ => rfl) rfl
  obtain ⟨v, s', e1, e2, e3⟩ := loop_st (fS := fS) (fB := fB) (fM := fM) (n0 := nn) X hp IT (by omega) ho 41 50 0 _ u k nn un f e g none (by omega) (by omega) (by omega) (Nat.le_refl _) H1 hO (Or.inl ⟨rfl, h5⟩) (fun a ha => by cases ha) (Or.inl ⟨si_eq, hr⟩) (fun a h1 h2 => by omega)
  exact ⟨v, s', e1, C1.trans e2, e3⟩
