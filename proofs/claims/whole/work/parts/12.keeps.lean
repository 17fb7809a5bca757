/-! what every number of a state keeps to, by its field -/
def okN (n : Nat) (v : Int32) : Prop := ∃ q, q < n ∧ v = nI q
def okx (v : Int32) : Prop := v < 0 ∨ okN 40 v
def val (id e : Nat) (v : Int32) : Prop :=
  if id = 0 then (e = 0 ∨ okN 40 v) else if id = 1 then okN 3 v else if id = 2 then okN 3 v else if id = 3 then okx v
  else if id = 4 then okN 3 v else if id = 6 then okN 2 v else if id = 8 then okN 9 v else if id = 17 then okN 401 v else if id = 37 then okN 13 v else if id = 38 then okN 4 v else if id = 39 then okN 3 v
  else if id = 41 then okN 9 v else if id = 44 then (v = -1 ∨ okN 6 v) else if id = 46 then okN 9 v else if id = 73 then okx v else if id = 74 then okx v else if id = 80 then okN 23 v else if id = 82 then okN 9 v else if id = 114 then okN 2 v else True
theorem val3 {e : Nat} {v : Int32} (h : okx v) : val 3 e v := by simpa [val] using h
theorem val73 {e : Nat} {v : Int32} (h : val 73 e v) : okx v := by simpa [val] using h
theorem val74 {e : Nat} {v : Int32} (h : val 74 e v) : okx v := by simpa [val] using h
def GV (s : St) : Prop := ∀ id o e, val id e (s.1 id o e)
theorem GV_si {s : St} {id o e : Nat} {v : Int32} (h : GV s) (hv : val id e v) : GV (si s id o e v) := by
  intro a b c
  rw [si_r]
  by_cases hq : a = id ∧ b = o ∧ c = e
  · rw [if_pos hq]; obtain ⟨rfl, rfl, rfl⟩ := hq; exact hv
  · rw [if_neg hq]; exact h a b c
theorem GV_sl {s : St} {id o e : Nat} {v : Int64} (h : GV s) : GV (sl s id o e v) := h
theorem okN_of {n q : Nat} (h : q < n) : okN n (nI q) := ⟨q, h, rfl⟩
theorem okN_c {n : Nat} {v : Int32} (hn : n < 2 ^ 31) (h : okN n v) : v = nI v.toNatClampNeg ∧ v.toNatClampNeg < n := by
  obtain ⟨q, hq, rfl⟩ := h
  rw [nI_clamp (by omega)]; exact ⟨rfl, hq⟩
theorem GV.D {s : St} (h : GV s) (i : Nat) : wD s i := by
  have := okN_c (by decide) (h 41 i 0)
  exact ⟨this.1, Nat.le_of_lt_succ this.2⟩
theorem GV.C {s : St} (h : GV s) (i : Nat) : wC s i := by
  have := okN_c (by decide) (h 80 i 0)
  exact ⟨this.1, Nat.le_of_lt_succ this.2⟩
theorem GV.P {s : St} (h : GV s) (i : Nat) : wP s i := okN_c (by decide) (h 37 i 0)
theorem GV.A {s : St} (h : GV s) (i b : Nat) : wA s i b := by
  rcases (show okx _ by simpa [val] using h 3 i b) with q | q
  · exact Or.inl q
  · exact Or.inr (okN_c (by decide) q)
theorem GV.O {s : St} (h : GV s) (i b : Nat) (hb : 1 ≤ b) : wO s i b := by
  rcases (h 0 i b : b = 0 ∨ okN 40 _) with q | q
  · omega
  · exact okN_c (by decide) q
theorem GV.H {s : St} (h : GV s) (o : Nat) : wH s o := by
  obtain ⟨q, hq, e⟩ := (h 17 o 0 : okN 401 _)
  unfold wH; rw [e]; exact nI_pos (by omega)
theorem GV_enterPart {s : St} {i b : Nat} {x y : Int32} (h : GV s) (hx : okN 3 x) (hy : okx y) : GV (enterPartS s i b x y) :=
  GV_si (GV_si (GV_si (GV_si h hx) (val3 hy)) (okN_of (q := 0) (by decide))) (okN_of (q := 0) (by decide))
theorem GV_enter {s : St} {i b : Nat} {x1 x2 x3 x4 : Int32} (h : GV s) (h1 : b = 0 ∨ okN 40 x1) (h2 : okN 3 x2) (h3 : okN 3 x3) (h4 : okx x4) : GV (enterS s i b x1 x2 x3 x4) :=
  GV_enterPart (GV_si (GV_si h h1) h3) h2 h4
theorem GV_tell {s : St} {o : Nat} {x1 x2 : Int32} {x3 : Int64} (h : GV s) : GV (tellS s o x1 x2 x3) := by
  unfold tellS
  by_cases hc : nI (cLen o) ≤ s.1 17 o 0
  · rw [if_pos hc]; exact h
  · rw [if_neg hc]
    refine GV_si (GV_sl (GV_si (GV_si (GV_si h trivial) trivial) trivial)) ?_
    obtain ⟨q, hq, e⟩ := (h 17 o 0 : okN 401 _)
    rw [e] at hc ⊢
    have hl : cLen o ≤ 400 := by unfold cLen; split <;> omega
    refine ⟨q + 1, ?_, nI_1 q⟩
    rcases Nat.lt_or_ge q (cLen o) with z | z
    · omega
    · exact absurd (nI_le z (by omega)) hc
theorem GV_leaveAll {s : St} {i : Nat} (h : GV s) : GV (leaveAllS s i) :=
  GV_si (GV_si (GV_si (GV_si (GV_si h (okN_of (q := 0) (by decide))) (okN_of (q := 0) (by decide))) (okN_of (q := 0) (by decide))) trivial) (Or.inl rfl)
theorem zlS_1 (i : Nat) : ∀ m k s, (zlS i m k s).1 = s.1
  | 0, _, _ => rfl
  | m + 1, k, s => zlS_1 i m (k + 1) _
theorem GV_1 {s t : St} (e : t.1 = s.1) (h : GV s) : GV t := by intro a b c; rw [e]; exact h a b c
theorem GV_reset {s : St} {i : Nat} (h : GV s) : GV (resetS s i) :=
  GV_leaveAll (GV_1 (zlS_1 i _ _ _) (GV_sl (GV_si (GV_si h (okN_of (q := 0) (by decide))) trivial)))
theorem GV_beh {s : St} {i : Nat} (h : GV s) : GV (behS s i) := by
  unfold behS
  split
  · exact h
  · exact GV_si h (val3 (val73 (h 73 _ _)))
theorem GV_over {s : St} {i b q : Nat} {y : Int32} (h : GV s) (hq : q < 3) (hy : okN 3 y) : GV (overS s i b q y) :=
  GV_si (GV_enterPart h (okN_of hq) (val74 (h 74 _ _))) hy
theorem shf_id (i : Nat) {id : Nat} (h1 : id ≠ 81) (h2 : id ≠ 82) : ∀ m k s, (shf i m k s).1 id = s.1 id
  | 0, _, _ => rfl
  | m + 1, k, s => (shf_id i h1 h2 m (k + 1) _).trans (by funext a b; simp [shf1, sl_1, si_r, h1, h2])
theorem GV_shf (i : Nat) : ∀ m k s, GV s → GV (shf i m k s)
  | 0, _, _, h => h
  | m + 1, k, s, h => GV_shf i m (k + 1) _ (GV_sl (GV_si (GV_si h trivial) (h 82 i (k + 1) : okN 9 _)))
theorem GV_rm {s : St} {i : Nat} {x : Int32} (h : GV s) : GV (rmS s i x) := by
  unfold rmS
  split
  · exact h
  · exact GV_si (GV_shf i _ _ _ h) (okN_of (by have := (h.C i).2; omega))
theorem GV_ft {s : St} {i b : Nat} (h : GV s) : GV (ftS s i b) := by
  unfold ftS
  refine GV_si ?_ (okN_of (q := 0) (by decide))
  split
  · exact GV_si h trivial
  · split
    · exact GV_rm h
    · exact h
theorem rm_id {s : St} {i id : Nat} {x : Int32} (h0 : id ≠ 80) (h1 : id ≠ 81) (h2 : id ≠ 82) : (rmS s i x).1 id = s.1 id := by
  unfold rmS
  split
  · rfl
  · unfold remS
    funext a b
    rw [si_ne (fun z => h0 z.1), shf_id i h1 h2]
theorem ft_id {s : St} {i b id : Nat} (h0 : id ≠ 80) (h1 : id ≠ 81) (h2 : id ≠ 82) (h3 : id ≠ 4) (h4 : id ≠ 42) : (ftS s i b).1 id = s.1 id := by
  unfold ftS
  funext a c
  rw [si_ne (fun z => h3 z.1)]
  split
  · rw [si_ne (fun z => h4 z.1)]
  · split
    · rw [rm_id h0 h1 h2]
    · rfl
theorem GV_leave {s : St} {i : Nat} (h : GV s) (h1 : 1 ≤ dN s i) : GV (leaveS s i) := by
  unfold leaveS
  have hd := h.D i
  refine GV_si (GV_si (GV_ft h) ((GV_ft h) 2 i (dN s i) : okN 3 _)) ?_
  rw [ft_id (by decide) (by decide) (by decide) (by decide) (by decide), hd.1]
  exact ⟨dN s i - 1, by have := hd.2; omega, by rw [show dN s i = dN s i - 1 + 1 by omega, nI_pred, Nat.add_sub_cancel]⟩
theorem okN_mx {x : Int32} (h : okN 3 x) : okN 3 (mx x 1) := by
  unfold mx
  split
  · exact ⟨1, by decide, rfl⟩
  · exact h
theorem GV_last {s : St} {i b : Nat} (h : GV s) : GV (lastS s i b) := GV_tell (GV_over h (by decide) (okN_mx (h 2 i b : okN 3 _)))
theorem GV_fin {s : St} {i : Nat} (h : GV s) : GV (finS s i) := GV_tell (GV_leaveAll (GV_si h (okN_of (q := 2) (by decide))))
theorem GV_per {s : St} {i : Nat} (h : GV s) : GV (perS s i) := GV_tell (GV_leaveAll (GV_sl (GV_si h (okN_of (q := 3) (by decide)))))
theorem GV_beg {s : St} {i p : Nat} (h : GV s) (hp0 : p < 13) : GV (begS s i p) := by
  have h1 : GV (si (resetS s i) 37 i 0 (nI p)) := GV_si (GV_reset h) (okN_of hp0)
  exact GV_si (GV_enter h1 (Or.inl rfl) (okN_of (q := 0) (by decide)) (okN_of (q := 0) (by decide)) (val74 (h1 74 p 120))) (okN_of (q := 1) (by decide))
theorem GV_in {s : St} {i q : Nat} {y : Int32} (h : GV s) (hq : q < 3) (hy : okN 3 y) : GV (inS s i q y) := by
  unfold inS
  split
  · exact GV_beh h
  next hc =>
    have hA := (h.A i (dN s i)).resolve_left (fun z => hc (Or.inl z))
    have h8 := lt8 (h.D i) (fun z => hc (Or.inr (Or.inl z)))
    have h1 : GV (si (enterS (si s 41 i 0 (nI (dN s i + 1))) i (dN s i + 1) (s.1 3 i (dN s i)) (nI q) (s.1 39 i 0) (s.1 74 (pN s i) (3 * aN s i (dN s i) + q))) 39 i 0 y) :=
      GV_si (GV_enter (GV_si h (okN_of (by omega))) (Or.inr ⟨_, hA.2, hA.1⟩) (okN_of hq) (h 39 i 0 : okN 3 _) (val74 (h 74 _ _))) hy
    split
    · exact GV_si (GV_si (GV_si h1 (okN_of (q := 1) (by decide))) trivial) trivial
    · exact h1
theorem GV_app {s : St} {i : Nat} {x1 x2 : Int32} {x3 : Int64} (h : GV s) (hx : okN 9 x2) : GV (appS s i x1 x2 x3) := by
  unfold appS
  split
  · exact h
  next hc =>
    refine GV_si (GV_sl (GV_si (GV_si h trivial) hx)) ?_
    obtain ⟨q, hq, e⟩ := (h 80 i 0 : okN 23 _)
    rw [e] at hc ⊢
    refine ⟨q + 1, ?_, nI_1 q⟩
    rcases Nat.lt_or_ge q 22 with z | z
    · omega
    · exact absurd (show (22 : Int32) ≤ nI q from (show (22 : Int32) = nI 22 from rfl) ▸ nI_le z (by omega)) hc
