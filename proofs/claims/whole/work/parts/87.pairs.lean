/-! calls on both sides, one behind the other -/
def IV (k : Nat) (X : St) : Prop := ∃ sd pc n, RL sd pc n k X X
def JI (d y d' y' k : Nat) (av av' : List Value) (X : St) : Prop := ∃ v X1 X2, Ri d y av X (fun w s1 => w = v ∧ s1 = X1) ∧ Ri d' y' av' X1 (fun w s1 => w = v ∧ s1 = X2) ∧ IV (k + 2000) X2
def JJ (d y d' y' k : Nat) (av av' : List Value) (X : St) : Prop := ∃ v X1 X2, Rj d y av X (fun w s1 => w = v ∧ s1 = X1) ∧ Rj d' y' av' X1 (fun w s1 => w = v ∧ s1 = X2) ∧ IV (k + 2000) X2
theorem Ri_p {d y : Nat} {av : List Value} {s : St} {a : Int32} {b : St} (h : Ri d y av s (fun v s1 => (v, s1) = (a, b))) : Ri d y av s (fun v s1 => v = a ∧ s1 = b) :=
  Ct.post h fun r M1 t1 ⟨v, s1, e1, e2, e3, hq⟩ => ⟨v, s1, e1, e2, e3, (Prod.mk.inj hq).1, (Prod.mk.inj hq).2⟩
theorem Ri_v {d y : Nat} {av : List Value} {s : St} {a b : Int32} {c : St} (h : Ri d y av s (fun v s1 => v = a ∧ s1 = c)) (e : a = b) : Ri d y av s (fun v s1 => v = b ∧ s1 = c) := e ▸ h
theorem Rj_v {d y : Nat} {av : List Value} {s : St} {a b : Int64} {c : St} (h : Rj d y av s (fun v s1 => v = a ∧ s1 = c)) (e : a = b) : Rj d y av s (fun v s1 => v = b ∧ s1 = c) := e ▸ h
theorem RL.iv {sd : Nat → Nat → Nat} {pc n k k' : Nat} {s u : St} (L : RL sd pc n k s u) (h : Cl s u) (hk : k ≤ k' + 2000) : IV (k' + 2000) u := ⟨sd, pc, n, (L.cg h (Rf.refl u)).up hk⟩
theorem RL.mc {sd : Nat → Nat → Nat} {pc n k : Nat} {s u : St} (L : RL sd pc n k s u) : mC u := fun t ht => by
  rcases (L.wr.th t ht).ru with ⟨-, p, d, c, -, T, -, -⟩ | ⟨-, I⟩
  · exact ⟨c, by have := T.rw.c22; omega, T.rw.cu⟩
  · exact ⟨0, by decide, I.a1⟩
section JS
variable {X : St} {k : Nat}
theorem J_feed (a b c d e : Int32) (h : IV k X) : JI 1 10 0 124 k [.ref 3, .int a, .int b, .int c, .int d, .int e] [.ref 280, .int a, .int b, .int c, .int d, .int e] X := by
  obtain ⟨sd, pc, n, L⟩ := h
  obtain ⟨⟨t1, t2⟩, u0, -, -, hR, -⟩ := S_feed a b c d e L
  obtain ⟨-, u', h1, h2, -, h4⟩ := S_feed a b c d e (L.cg (Cl.refl X) hR)
  exact ⟨_, _, u', c_feed X a b c d e t1 t2, Ri_p (t_r_feed a b c d e _ _ h1), h2.iv h4 (by omega)⟩
theorem J_end (x : Int32) (h : IV k X) : JI 0 12 0 125 k [.ref 3, .int x] [.ref 280, .int x] X := by
  obtain ⟨sd, pc, n, L⟩ := h
  obtain ⟨-, -, hR, -⟩ := S_end x L
  obtain ⟨h1, h2, -, h4⟩ := S_end x (L.cg (Cl.refl X) hR)
  exact ⟨_, _, _, c_end X x, Ri_v (m_end _ x) h1, h2.iv h4 (by omega)⟩
theorem J_text (h : IV k X) : JI 97 13 7 126 k [.ref 3] [.ref 280] X := by
  obtain ⟨sd, pc, n, L⟩ := h
  obtain ⟨v, X1, u0, sd0, pc0, e1, -, -, hR, -⟩ := S_text L
  obtain ⟨v', X1', u', sd', pc', h0, h1, h2, -, h4⟩ := S_text (L.cg (Cl.refl X) hR)
  have e := Prod.mk.inj (Option.some.inj (e1.symm.trans h0))
  obtain ⟨rfl, rfl⟩ := e
  exact ⟨v, X1, u', Ri_p (t_k_text X _ e1), Ri_p (t_r_text _ _ h1), h2.iv h4 (by omega)⟩
theorem J_place (h : IV k X) : JI 0 53 0 154 k [.ref 3] [.ref 280] X := by
  obtain ⟨sd, pc, n, L⟩ := h
  exact ⟨_, _, _, c_place X, Ri_v (m_place X) L.pl.symm, L.iv (Cl.refl X) (by omega)⟩
theorem J_told (x y : Int32) (h : IV k X) : JI 1 54 0 155 k [.ref 3, .int x, .int y] [.ref 280, .int x, .int y] X := by
  obtain ⟨sd, pc, n, L⟩ := h
  obtain ⟨h1, h2, h3, -⟩ := L.wr.wc.pp
  exact ⟨_, _, _, c_told X x y pc h2 h1, Ri_v (m_told X x y pc h3 h1) (S_told x y L), L.iv (Cl.refl X) (by omega)⟩
theorem J_start (x y : Int32) (h : IV k X) : JI 3 56 1 156 k [.ref 3, .int x, .int y] [.ref 280, .int x, .int y] X := by
  obtain ⟨sd, pc, n, L⟩ := h
  obtain ⟨p1, p2, -, -⟩ := L.wr.wc.pp
  obtain ⟨u0, -, -, hR, -⟩ := S_start x y L
  obtain ⟨u', h1, h2, -, h4⟩ := S_start x y (L.cg (Cl.refl X) hR)
  exact ⟨_, _, u', c_start X x y pc p2 p1, Ri_p (t_r_start x y _ _ h1), h2.iv h4 (by omega)⟩
theorem J_turn (x : Int32) (h : IV k X) (hk : k + 2000 < 2 ^ 30) : JI 7 64 7 158 k [.ref 3, .int x] [.ref 280, .int x] X := by
  obtain ⟨sd, pc, n, L⟩ := h
  obtain ⟨hT, v, X1, u0, n0, e1, -, -, hR, -⟩ := S_turn x L (by omega)
  obtain ⟨-, v', X1', u', n', h0, h1, h2, -, h4⟩ := S_turn x (L.cg (Cl.refl X) hR) (by omega)
  obtain ⟨rfl, rfl⟩ := Prod.mk.inj (e1.symm.trans h0)
  have hc := c_turnM X x L.wr.wc.gv hT
  rw [e1] at hc
  exact ⟨v, X1, u', Ri_p hc, Ri_p (t_r_turn x _ _ h1), h2.iv h4 (by omega)⟩
theorem J_play (y : Int64) (x : Int32) (h : IV k X) (hk : k + 2000 < 2 ^ 30) : JI 7 96 7 177 k [.ref 3, .long y, .int x] [.ref 280, .long y, .int x] X := by
  obtain ⟨sd, pc, n, L⟩ := h
  obtain ⟨hP, u0, n0, -, -, hR, -⟩ := S_play y x L hk
  obtain ⟨-, u', n', h1, h2, -, h4⟩ := S_play y x (L.cg (Cl.refl X) hR) hk
  exact ⟨_, _, u', c_play (PJR sd pc) PJ_R X hP y x, Ri_p (t_r_play y x _ _ h1), h2.iv h4 (by omega)⟩
theorem J_hurl (x : Int32) (y : Int64) (h : IV k X) : JI 2 97 1 178 k [.ref 3, .int x, .long y] [.ref 280, .int x, .long y] X := by
  obtain ⟨sd, pc, n, L⟩ := h
  obtain ⟨u0, -, -, hR, -⟩ := S_hurl x y L
  obtain ⟨u', h1, h2, -, h4⟩ := S_hurl x y (L.cg (Cl.refl X) hR)
  exact ⟨_, _, u', c_hurl X x y L.wr.wc.gv, Ri_p (t_r_hurl x y _ _ h1), h2.iv h4 (by omega)⟩
theorem J_fill (x : Int32) (y : Int64) (h : IV k X) : JI 1 99 1 179 k [.ref 3, .int x, .long y] [.ref 280, .int x, .long y] X := by
  obtain ⟨sd, pc, n, L⟩ := h
  obtain ⟨-, -, hR, -⟩ := S_fill x y L
  obtain ⟨h1, h2, -, h4⟩ := S_fill x y (L.cg (Cl.refl X) hR)
  exact ⟨_, _, _, c_fill X x y, Ri_v (m_fill _ x y) h1, h2.iv h4 (by omega)⟩
theorem J_full (x : Int32) (h : IV k X) : JI 1 101 1 181 k [.ref 3, .int x] [.ref 280, .int x] X := by
  obtain ⟨sd, pc, n, L⟩ := h
  exact ⟨_, _, _, c_full X x, Ri_v (m_full X x) (S_full x L), L.iv (Cl.refl X) (by omega)⟩
theorem J_box (x : Int32) (h : IV k X) : JJ 1 102 1 182 k [.ref 3, .int x] [.ref 280, .int x] X := by
  obtain ⟨sd, pc, n, L⟩ := h
  exact ⟨_, _, _, c_box X x, Rj_v (m_box X x) (S_box x L), L.iv (Cl.refl X) (by omega)⟩
theorem J_thread (x y : Int32) (h : IV k X) : JI 1 103 1 183 k [.ref 3, .int x, .int y] [.ref 280, .int x, .int y] X := by
  obtain ⟨sd, pc, n, L⟩ := h
  exact ⟨_, _, _, c_thread X x y L.wr.wc.gv, Ri_p (t_r_thread x y _ _ (S_thread x y L)), L.iv (Cl.refl X) (by omega)⟩
theorem J_died (x : Int32) (h : IV k X) : JJ 1 105 1 184 k [.ref 3, .int x] [.ref 280, .int x] X := by
  obtain ⟨sd, pc, n, L⟩ := h
  exact ⟨_, _, _, c_died X x, Rj_v (m_died X x) (S_died x L), L.iv (Cl.refl X) (by omega)⟩
theorem J_local (x y : Int32) (h : IV k X) : JJ 1 106 1 185 k [.ref 3, .int x, .int y] [.ref 280, .int x, .int y] X := by
  obtain ⟨sd, pc, n, L⟩ := h
  exact ⟨_, _, _, c_local X x y, Rj_v (m_local X x y) (S_local x y L), L.iv (Cl.refl X) (by omega)⟩
theorem J_row (x y z : Int32) (h : IV k X) : JI 2 107 2 186 k [.ref 3, .int x, .int y, .int z] [.ref 280, .int x, .int y, .int z] X := by
  obtain ⟨sd, pc, n, L⟩ := h
  exact ⟨_, _, _, c_row X x y z L.wr.wc.gv, Ri_v (m_row X x y z L.mc) (S_row x y z L), L.iv (Cl.refl X) (by omega)⟩
theorem J_value (x y : Int32) (h : IV k X) : JJ 2 109 2 188 k [.ref 3, .int x, .int y] [.ref 280, .int x, .int y] X := by
  obtain ⟨sd, pc, n, L⟩ := h
  exact ⟨_, _, _, c_value X x y L.wr.wc.gv, Rj_v (m_value X x y L.mc) (S_value x y L), L.iv (Cl.refl X) (by omega)⟩
theorem J_stuck (h : IV k X) : JI 6 110 4 189 k [.ref 3] [.ref 280] X := by
  obtain ⟨sd, pc, n, L⟩ := h
  obtain ⟨hA, u0, -, -, hR, -⟩ := S_stuck L
  obtain ⟨-, u', h1, h2, -, h4⟩ := S_stuck (L.cg (Cl.refl X) hR)
  exact ⟨_, _, u', Ri_p (b := (stuckR X).2) (c_stuck X L.wr.wc.gv (AJR sd pc) AJ_R hA), Ri_p (t_r_stuck _ _ h1), h2.iv h4 (by omega)⟩
theorem J_clock (h : IV k X) : JI 0 116 0 192 k [.ref 3] [.ref 280] X := by
  obtain ⟨sd, pc, n, L⟩ := h
  exact ⟨_, _, _, c_clock X, Ri_v (m_clock X) L.wr.wc.nr.ck.symm, L.iv (Cl.refl X) (by omega)⟩
theorem J_notes (h : IV k X) : JI 0 117 0 193 k [.ref 3] [.ref 280] X := by
  obtain ⟨sd, pc, n, L⟩ := h
  exact ⟨_, _, _, c_notes X, Ri_v (m_notes X) L.wr.wc.nr.cs.symm, L.iv (Cl.refl X) (by omega)⟩
theorem J_note (x y : Int32) (h : IV k X) : JI 1 118 0 194 k [.ref 3, .int x, .int y] [.ref 280, .int x, .int y] X := by
  obtain ⟨sd, pc, n, L⟩ := h
  obtain ⟨m, m1, m2, -⟩ := L.wr.wc.nr.n4
  exact ⟨_, _, _, c_note X x y L.wr.wc.gv, Ri_v (m_note X x y m m2 m1) (S_note x y L), L.iv (Cl.refl X) (by omega)⟩
theorem J_noted (x : Int32) (h : IV k X) : JJ 1 120 0 195 k [.ref 3, .int x] [.ref 280, .int x] X := by
  obtain ⟨sd, pc, n, L⟩ := h
  obtain ⟨m, m1, m2, -⟩ := L.wr.wc.nr.n4
  exact ⟨_, _, _, c_noted X x L.wr.wc.gv, Rj_v (m_noted X x m m2 m1) (S_noted x L), L.iv (Cl.refl X) (by omega)⟩
theorem J_clear (h : IV k X) : JI 3 121 0 196 k [.ref 3] [.ref 280] X := by
  obtain ⟨sd, pc, n, L⟩ := h
  obtain ⟨u0, -, -, hR, -⟩ := S_clear L
  obtain ⟨u', h1, h2, -, h4⟩ := S_clear (L.cg (Cl.refl X) hR)
  exact ⟨_, _, u', c_clear X, Ri_p (t_r_clear _ _ h1), h2.iv h4 (by omega)⟩
end JS
/-! before the first call -/
theorem val_0 (id e : Nat) : val id e 0 := by
  have z : ∀ n, 0 < n → okN n 0 := fun n h => ⟨0, h, rfl⟩
  unfold val
  by_cases h0 : id = 0
  · rw [if_pos h0]; exact Or.inr (z 40 (by decide))
  rw [if_neg h0]
  by_cases h1 : id = 1
  · rw [if_pos h1]; exact z 3 (by decide)
  rw [if_neg h1]
  by_cases h2 : id = 2
  · rw [if_pos h2]; exact z 3 (by decide)
  rw [if_neg h2]
  by_cases h3 : id = 3
  · rw [if_pos h3]; exact (Or.inr (z 40 (by decide)) : okx 0)
  rw [if_neg h3]
  by_cases h4 : id = 4
  · rw [if_pos h4]; exact z 3 (by decide)
  rw [if_neg h4]
  by_cases h6 : id = 6
  · rw [if_pos h6]; exact z 2 (by decide)
  rw [if_neg h6]
  by_cases h8 : id = 8
  · rw [if_pos h8]; exact z 9 (by decide)
  rw [if_neg h8]
  by_cases h17 : id = 17
  · rw [if_pos h17]; exact z 401 (by decide)
  rw [if_neg h17]
  by_cases h37 : id = 37
  · rw [if_pos h37]; exact z 13 (by decide)
  rw [if_neg h37]
  by_cases h38 : id = 38
  · rw [if_pos h38]; exact z 4 (by decide)
  rw [if_neg h38]
  by_cases h39 : id = 39
  · rw [if_pos h39]; exact z 3 (by decide)
  rw [if_neg h39]
  by_cases h41 : id = 41
  · rw [if_pos h41]; exact z 9 (by decide)
  rw [if_neg h41]
  by_cases h44 : id = 44
  · rw [if_pos h44]; exact Or.inr (z 6 (by decide))
  rw [if_neg h44]
  by_cases h46 : id = 46
  · rw [if_pos h46]; exact z 9 (by decide)
  rw [if_neg h46]
  by_cases h73 : id = 73
  · rw [if_pos h73]; exact (Or.inr (z 40 (by decide)) : okx 0)
  rw [if_neg h73]
  by_cases h74 : id = 74
  · rw [if_pos h74]; exact (Or.inr (z 40 (by decide)) : okx 0)
  rw [if_neg h74]
  by_cases h80 : id = 80
  · rw [if_pos h80]; exact z 23 (by decide)
  rw [if_neg h80]
  by_cases h82 : id = 82
  · rw [if_pos h82]; exact z 9 (by decide)
  rw [if_neg h82]
  by_cases h114 : id = 114
  · rw [if_pos h114]; exact z 2 (by decide)
  rw [if_neg h114]
  exact trivial
theorem GV_00 : GV s00 := fun id o e => by
  show val id e (if id = 32 then (if o < 6 then nI o else -1) else if id = 37 then 12 else if id = 44 then -1 else if id = 49 then -1 else if id = 133 then -1 else if id = 209 then -1 else 0)
  by_cases h1 : id = 32
  · subst h1; exact trivial
  rw [if_neg h1]
  by_cases h2 : id = 37
  · subst h2; rw [if_pos rfl]; exact (⟨12, by decide, rfl⟩ : okN 13 12)
  rw [if_neg h2]
  by_cases h3 : id = 44
  · subst h3; rw [if_pos rfl]; exact (Or.inl rfl : (-1 : Int32) = -1 ∨ okN 6 (-1))
  rw [if_neg h3]
  by_cases h4 : id = 49
  · subst h4; exact trivial
  rw [if_neg h4]
  by_cases h5 : id = 133
  · subst h5; exact trivial
  rw [if_neg h5]
  by_cases h6 : id = 209
  · subst h6; exact trivial
  rw [if_neg h6]
  exact val_0 id e
theorem IV_0 : IV 0 s00 := by
  refine ⟨fun _ _ => 0, 0, 0, ⟨⟨GV_00, ⟨rfl, ⟨0, by omega, rfl, fun k hk => by omega⟩, rfl⟩, ⟨0, by decide, rfl⟩, ⟨by omega, rfl, rfl, fun p hp => by omega⟩, ⟨by decide, rfl, fun t ht => Or.inl ⟨rfl, rfl⟩, fun t t' _ _ _ z => absurd rfl z, fun g k _ hk => ?_⟩, fun b hb => ⟨rfl, rfl⟩⟩, fun t ht => ⟨⟨rfl, rfl, rfl, fun k hk => rfl⟩, ?_, Or.inr ⟨?_, ?_, rfl, rfl, rfl, rfl, rfl⟩⟩⟩, ⟨0, by omega, rfl⟩, by omega, ⟨0, by omega, rfl, rfl, fun i hi => by omega⟩, rfl⟩
  · exact absurd hk (Nat.not_lt_zero _)
  · show (if t < 6 then nI t else -1) = nI t
    rw [if_pos ht]
  · show ¬ (0 : Int32) = 1
    decide
  · rfl
