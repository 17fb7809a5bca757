/-! clear, thread, feed, on both sides -/
theorem r6_1 {id o e : Nat} : ∀ m k s, ¬ ((k ≤ o ∧ o < k + m) ∧ (id = 38 ∨ id = 40 ∨ id = 80 ∨ id = 39 ∨ id = 41 ∨ id = 42 ∨ id = 44)) → (r6S m k s).1 id o e = s.1 id o e
  | 0, _, _, _ => rfl
  | m + 1, k, s, h => by
    show (r6S m (k + 1) (resetS s k)).1 id o e = _
    rw [r6_1 m (k + 1) _ (fun z => h ⟨by omega, z.2⟩), reset_1 (fun z => h ⟨by omega, z.2⟩)]
theorem r6_2 {id o e : Nat} : ∀ m k s, ¬ ((k ≤ o ∧ o < k + m) ∧ (id = 34 ∨ id = 43)) → (r6S m k s).2 id o e = s.2 id o e
  | 0, _, _, _ => rfl
  | m + 1, k, s, h => by
    show (r6S m (k + 1) (resetS s k)).2 id o e = _
    rw [r6_2 m (k + 1) _ (fun z => h ⟨by omega, z.2⟩), reset_2, if_neg (fun z => h ⟨by omega, by omega⟩), if_neg (fun z => h ⟨by omega, by omega⟩)]
theorem r6_v {t : Nat} : ∀ m k s, k ≤ t → t < k + m → ((r6S m k s).1 38 t 0 = 0 ∧ (r6S m k s).1 40 t 0 = 0 ∧ (r6S m k s).1 80 t 0 = 0 ∧ (r6S m k s).1 39 t 0 = 0 ∧ (r6S m k s).1 41 t 0 = 0 ∧ (r6S m k s).1 42 t 0 = 0 ∧ (r6S m k s).1 44 t 0 = -1) ∧ (∀ e, e < 10 → (r6S m k s).2 34 t e = 0) ∧ (r6S m k s).2 43 t 0 = 0
  | 0, k, s, h1, h2 => by omega
  | m + 1, k, s, h1, h2 => by
    show (((r6S m (k + 1) (resetS s k)).1 38 t 0 = 0 ∧ (r6S m (k + 1) (resetS s k)).1 40 t 0 = 0 ∧ (r6S m (k + 1) (resetS s k)).1 80 t 0 = 0 ∧ (r6S m (k + 1) (resetS s k)).1 39 t 0 = 0 ∧ (r6S m (k + 1) (resetS s k)).1 41 t 0 = 0 ∧ (r6S m (k + 1) (resetS s k)).1 42 t 0 = 0 ∧ (r6S m (k + 1) (resetS s k)).1 44 t 0 = -1) ∧ (∀ e, e < 10 → (r6S m (k + 1) (resetS s k)).2 34 t e = 0) ∧ (r6S m (k + 1) (resetS s k)).2 43 t 0 = 0)
    by_cases z : k = t
    · subst z
      have hr := reset_v (s := s) (t := k)
      refine ⟨?_, fun e he => ?_, ?_⟩
      · rw [r6_1 m (k + 1) _ (by omega), r6_1 m (k + 1) _ (by omega), r6_1 m (k + 1) _ (by omega), r6_1 m (k + 1) _ (by omega), r6_1 m (k + 1) _ (by omega), r6_1 m (k + 1) _ (by omega), r6_1 m (k + 1) _ (by omega)]; exact hr
      · rw [r6_2 m (k + 1) _ (by omega), reset_2, if_pos ⟨rfl, rfl, he⟩]
      · rw [r6_2 m (k + 1) _ (by omega), reset_2, if_neg (by omega), if_pos ⟨rfl, rfl, rfl⟩]
    · exact r6_v m (k + 1) _ (by omega) (by omega)
theorem b8_1 : ∀ (m k : Nat) (s : St) (id o e : Nat), (b8S m k s).1 id o e = if id = 114 ∧ o = 0 ∧ k ≤ e ∧ e < k + m then 0 else s.1 id o e := by
  intro m
  induction m with
  | zero => intro k s id o e; rw [if_neg (by omega)]; rfl
  | succ m ih =>
    intro k s id o e
    show (b8S m (k + 1) (si s 114 0 k 0)).1 id o e = _
    rw [ih]
    by_cases h : id = 114 ∧ o = 0 ∧ k ≤ e ∧ e < k + (m + 1)
    · rw [if_pos h]
      by_cases h2 : k + 1 ≤ e
      · rw [if_pos ⟨h.1, h.2.1, h2, by omega⟩]
      · rw [if_neg (fun z => h2 z.2.2.1), si_r, if_pos ⟨h.1, h.2.1, by omega⟩]
    · rw [if_neg h, if_neg (fun z => h ⟨z.1, z.2.1, by omega, by omega⟩), si_r, if_neg (fun z => h ⟨z.1, z.2.1, by omega, by omega⟩)]
theorem b8_2 : ∀ m k s, (b8S m k s).2 = s.2
  | 0, _, _ => rfl
  | m + 1, k, s => b8_2 m (k + 1) _
def b8U : Nat → Nat → St → St
  | 0, _, u => u
  | m + 1, k, u => b8U m (k + 1) (si u 238 0 k 0)
theorem b8U_1 : ∀ (m k : Nat) (s : St) (id o e : Nat), (b8U m k s).1 id o e = if id = 238 ∧ o = 0 ∧ k ≤ e ∧ e < k + m then 0 else s.1 id o e := by
  intro m
  induction m with
  | zero => intro k s id o e; rw [if_neg (by omega)]; rfl
  | succ m ih =>
    intro k s id o e
    show (b8U m (k + 1) (si s 238 0 k 0)).1 id o e = _
    rw [ih]
    by_cases h : id = 238 ∧ o = 0 ∧ k ≤ e ∧ e < k + (m + 1)
    · rw [if_pos h]
      by_cases h2 : k + 1 ≤ e
      · rw [if_pos ⟨h.1, h.2.1, h2, by omega⟩]
      · rw [if_neg (fun z => h2 z.2.2.1), si_r, if_pos ⟨h.1, h.2.1, by omega⟩]
    · rw [if_neg h, if_neg (fun z => h ⟨z.1, z.2.1, by omega, by omega⟩), si_r, if_neg (fun z => h ⟨z.1, z.2.1, by omega, by omega⟩)]
theorem b8U_2 : ∀ m k s, (b8U m k s).2 = s.2
  | 0, _, _ => rfl
  | m + 1, k, s => b8U_2 m (k + 1) _
def cTU (t : Nat) (u : St) : St := zU t 10 0 (si (si (si (sl (si (si u 240 0 t 0) 243 0 t 0) 244 0 t 0) 246 0 t 0) 255 0 t 0) 261 0 t 0)
def c6U : Nat → Nat → St → St
  | 0, _, u => u
  | m + 1, k, u => c6U m (k + 1) (cTU k u)
theorem cTU_1 {t : Nat} {u : St} {id o e : Nat} (h : ¬ (e = t ∧ o = 0 ∧ (id = 240 ∨ id = 243 ∨ id = 246 ∨ id = 255 ∨ id = 261))) : (cTU t u).1 id o e = u.1 id o e := by
  unfold cTU
  rw [zU_1, si_ne (fun z => h ⟨z.2.2, z.2.1, by omega⟩), si_ne (fun z => h ⟨z.2.2, z.2.1, by omega⟩), si_ne (fun z => h ⟨z.2.2, z.2.1, by omega⟩), sl_1, si_ne (fun z => h ⟨z.2.2, z.2.1, by omega⟩), si_ne (fun z => h ⟨z.2.2, z.2.1, by omega⟩)]
theorem cTU_2 {t : Nat} {u : St} {id o e : Nat} : (cTU t u).2 id o e = if id = 245 ∧ o = 0 ∧ 10 * t ≤ e ∧ e < 10 * t + 10 then 0 else if id = 244 ∧ o = 0 ∧ e = t then 0 else u.2 id o e := by
  unfold cTU
  rw [zU_2, si_2, si_2, si_2, sl_r]
  by_cases h : id = 245 ∧ o = 0 ∧ 10 * t ≤ e ∧ e < 10 * t + 10
  · rw [if_pos ⟨h.1, h.2.1, by omega, by omega⟩, if_pos h]
  · rw [if_neg (fun z => h ⟨z.1, z.2.1, by omega, by omega⟩), if_neg h]; rfl
theorem cTU_v {t : Nat} {u : St} : (cTU t u).1 240 0 t = 0 ∧ (cTU t u).1 243 0 t = 0 ∧ (cTU t u).1 246 0 t = 0 ∧ (cTU t u).1 255 0 t = 0 ∧ (cTU t u).1 261 0 t = 0 := by
  unfold cTU
  rw [zU_1]
  refine ⟨?_, ?_, ?_, ?_, ?_⟩
  · rw [si_o (by decide), si_o (by decide), si_o (by decide), sl_1, si_o (by decide), si_eq]
  · rw [si_o (by decide), si_o (by decide), si_o (by decide), sl_1, si_eq]
  · rw [si_o (by decide), si_o (by decide), si_eq]
  · rw [si_o (by decide), si_eq]
  · rw [si_eq]
theorem c6_1 {id o e : Nat} : ∀ m k u, ¬ ((k ≤ e ∧ e < k + m) ∧ o = 0 ∧ (id = 240 ∨ id = 243 ∨ id = 246 ∨ id = 255 ∨ id = 261)) → (c6U m k u).1 id o e = u.1 id o e
  | 0, _, _, _ => rfl
  | m + 1, k, u, h => by
    show (c6U m (k + 1) (cTU k u)).1 id o e = _
    rw [c6_1 m (k + 1) _ (fun z => h ⟨by omega, z.2⟩), cTU_1 (fun z => h ⟨by omega, z.2⟩)]
theorem c6_2 {id o e : Nat} : ∀ m k u, ¬ (id = 244 ∧ o = 0 ∧ k ≤ e ∧ e < k + m) → ¬ (id = 245 ∧ o = 0 ∧ 10 * k ≤ e ∧ e < 10 * (k + m)) → (c6U m k u).2 id o e = u.2 id o e
  | 0, _, _, _, _ => rfl
  | m + 1, k, u, h, h' => by
    show (c6U m (k + 1) (cTU k u)).2 id o e = _
    rw [c6_2 m (k + 1) _ (fun z => h ⟨z.1, z.2.1, by omega, by omega⟩) (fun z => h' ⟨z.1, z.2.1, by omega, by omega⟩), cTU_2, if_neg (fun z => h' ⟨z.1, z.2.1, by omega, by omega⟩), if_neg (fun z => h ⟨z.1, z.2.1, by omega, by omega⟩)]
theorem c6_v {t : Nat} : ∀ m k u, k ≤ t → t < k + m → ((c6U m k u).1 240 0 t = 0 ∧ (c6U m k u).1 243 0 t = 0 ∧ (c6U m k u).1 246 0 t = 0 ∧ (c6U m k u).1 255 0 t = 0 ∧ (c6U m k u).1 261 0 t = 0) ∧ (∀ e, e < 10 → (c6U m k u).2 245 0 (10 * t + e) = 0) ∧ (c6U m k u).2 244 0 t = 0
  | 0, k, u, h1, h2 => by omega
  | m + 1, k, u, h1, h2 => by
    show (((c6U m (k + 1) (cTU k u)).1 240 0 t = 0 ∧ (c6U m (k + 1) (cTU k u)).1 243 0 t = 0 ∧ (c6U m (k + 1) (cTU k u)).1 246 0 t = 0 ∧ (c6U m (k + 1) (cTU k u)).1 255 0 t = 0 ∧ (c6U m (k + 1) (cTU k u)).1 261 0 t = 0) ∧ (∀ e, e < 10 → (c6U m (k + 1) (cTU k u)).2 245 0 (10 * t + e) = 0) ∧ (c6U m (k + 1) (cTU k u)).2 244 0 t = 0)
    by_cases z : k = t
    · subst z
      refine ⟨?_, fun e he => ?_, ?_⟩
      · rw [c6_1 m (k + 1) _ (by omega), c6_1 m (k + 1) _ (by omega), c6_1 m (k + 1) _ (by omega), c6_1 m (k + 1) _ (by omega), c6_1 m (k + 1) _ (by omega)]; exact cTU_v
      · rw [c6_2 m (k + 1) _ (by omega) (by omega), cTU_2, if_pos ⟨rfl, rfl, by omega, by omega⟩]
      · rw [c6_2 m (k + 1) _ (by omega) (by omega), cTU_2, if_neg (by omega), if_pos ⟨rfl, rfl, rfl⟩]
    · exact c6_v m (k + 1) _ (by omega) (by omega)
theorem r_c88 (K : Int32 → Int32 → St → Option (Int32 × St)) {t : Nat} (ht : t < 7) (x : Int32) : ∀ (m k N : Nat) (u : St), k + m = 10 → m < N → r_clear_88 K N x (nI t) (nI k) u = K x (nI (t + 1)) (zU t m k u) := by
  intro m
  induction m with
  | zero =>
    intro k N u hk hN
    obtain ⟨N, rfl⟩ : ∃ q, N = q + 1 := ⟨N - 1, by omega⟩
    rw [r_clear_88.eq_2, if_pos (show (10 : Int32) ≤ nI k from nI_le (a := 10) (by omega) (by omega)), nI_1]; rfl
  | succ m ih =>
    intro k N u hk hN
    obtain ⟨N, rfl⟩ : ∃ q, N = q + 1 := ⟨N - 1, by omega⟩
    rw [r_clear_88.eq_2, if_neg (show ¬ (10 : Int32) ≤ nI k from nI_ge (b := 10) (by omega) (by decide))]
    simp only [m10]
    rw [gI (by omega) (by decide), nI_clamp (by omega), nI_1]
    exact ih (k + 1) N _ (by omega) (by omega)
theorem r_c38 (x : Int32) : ∀ (m k N : Nat) (u : St), k + m = 6 → m < N → r_clear_38 N x (nI k) u = some (x, c6U m k u) := by
  intro m
  induction m with
  | zero =>
    intro k N u hk hN
    obtain ⟨N, rfl⟩ : ∃ q, N = q + 1 := ⟨N - 1, by omega⟩
    rw [r_clear_38.eq_2, if_pos (show (6 : Int32) ≤ nI k from nI_le (a := 6) (by omega) (by omega))]; rfl
  | succ m ih =>
    intro k N u hk hN
    obtain ⟨N, rfl⟩ : ∃ q, N = q + 1 := ⟨N - 1, by omega⟩
    rw [r_clear_38.eq_2, if_neg (show ¬ (6 : Int32) ≤ nI k from nI_ge (b := 6) (by omega) (by decide)), gI (by omega) (by decide), nI_clamp (by omega), gI (by omega) (by decide), gI (by omega) (by decide), gI (by omega) (by decide), gI (by omega) (by decide), gI (by omega) (by decide)]
    exact (r_c88 (r_clear_38 N) (t := k) (by omega) x 10 0 20 _ (by omega) (by omega)).trans (ih (k + 1) N _ (by omega) (by omega))
theorem r_c17 (x : Int32) : ∀ (m k N : Nat) (u : St), k + m = 8 → m < N → r_clear_17 N x (nI k) u = some (x, c6U 6 0 (b8U m k u)) := by
  intro m
  induction m with
  | zero =>
    intro k N u hk hN
    obtain ⟨N, rfl⟩ : ∃ q, N = q + 1 := ⟨N - 1, by omega⟩
    rw [r_clear_17.eq_2, if_pos (show (8 : Int32) ≤ nI k from nI_le (a := 8) (by omega) (by omega))]
    exact r_c38 x 6 0 20 u (by omega) (by omega)
  | succ m ih =>
    intro k N u hk hN
    obtain ⟨N, rfl⟩ : ∃ q, N = q + 1 := ⟨N - 1, by omega⟩
    rw [r_clear_17.eq_2, if_neg (show ¬ (8 : Int32) ≤ nI k from nI_ge (b := 8) (by omega) (by decide)), gZ (by omega) (by decide) zo0, nI_clamp (by omega), nI_1]
    exact ih (k + 1) N _ (by omega) (by omega)
theorem S_clear {sd : Nat → Nat → Nat} {pc n k : Nat} {s u : St} (L : RL sd pc n k s u) : ∃ u', r_clear u = some (s.1 17 0 0, u') ∧ RL sd pc n k (clrS s) u' ∧ Rf s (clrS s) ∧ Cl u u' := by
  have hR : r_clear u = some (s.1 17 0 0, c6U 6 0 (b8U 8 0 (si (si u 263 0 0 0) 237 0 0 0))) := by
    unfold r_clear
    rw [bnd_d, bnd_d, bnd_d, ← L.wr.wc.nr.cs]
    exact r_c17 _ 8 0 20 _ (by omega) (by omega)
  have s1 : ∀ id o e, ¬ (id = 16 ∨ id = 17 ∨ id = 114 ∨ id = 38 ∨ id = 40 ∨ id = 80 ∨ id = 39 ∨ id = 41 ∨ id = 42 ∨ id = 44) → (clrS s).1 id o e = s.1 id o e := fun id o e z => by
    unfold clrS; rw [b8_1, if_neg (by omega), r6_1 _ _ _ (by omega), si_o (by omega), si_o (by omega)]
  have s2 : ∀ id o e, ¬ (id = 34 ∨ id = 43) → (clrS s).2 id o e = s.2 id o e := fun id o e z => by
    unfold clrS; rw [b8_2, r6_2 _ _ _ (by omega)]; rfl
  have sv : ∀ t, t < 6 → ((clrS s).1 38 t 0 = 0 ∧ (clrS s).1 40 t 0 = 0 ∧ (clrS s).1 80 t 0 = 0 ∧ (clrS s).1 39 t 0 = 0 ∧ (clrS s).1 41 t 0 = 0 ∧ (clrS s).1 42 t 0 = 0 ∧ (clrS s).1 44 t 0 = -1) ∧ (∀ e, e < 10 → (clrS s).2 34 t e = 0) ∧ (clrS s).2 43 t 0 = 0 := fun t ht => by
    unfold clrS
    rw [b8_2, b8_1, if_neg (by omega), b8_1, if_neg (by omega), b8_1, if_neg (by omega), b8_1, if_neg (by omega), b8_1, if_neg (by omega), b8_1, if_neg (by omega), b8_1, if_neg (by omega)]
    exact r6_v 6 0 _ (by omega) (by omega)
  generalize hU : c6U 6 0 (b8U 8 0 (si (si u 263 0 0 0) 237 0 0 0)) = U at hR
  have u1 : ∀ id e, ¬ (id = 263 ∨ id = 237 ∨ id = 238 ∨ id = 240 ∨ id = 243 ∨ id = 246 ∨ id = 255 ∨ id = 261) → U.1 id 0 e = u.1 id 0 e := fun id e z => by
    rw [← hU, c6_1 _ _ _ (by omega), b8U_1, if_neg (by omega), si_o (by omega), si_o (by omega)]
  have u2 : ∀ id e, ¬ (id = 244 ∨ id = 245) → U.2 id 0 e = u.2 id 0 e := fun id e z => by
    rw [← hU, c6_2 _ _ _ (by omega) (by omega), b8U_2]; rfl
  have uv : ∀ t, t < 6 → (U.1 240 0 t = 0 ∧ U.1 243 0 t = 0 ∧ U.1 246 0 t = 0 ∧ U.1 255 0 t = 0 ∧ U.1 261 0 t = 0) ∧ (∀ e, e < 10 → U.2 245 0 (10 * t + e) = 0) ∧ U.2 244 0 t = 0 := fun t ht => by rw [← hU]; exact c6_v 6 0 _ (by omega) (by omega)
  have s16 : (clrS s).1 16 0 0 = 0 := by unfold clrS; rw [b8_1, if_neg (by omega), r6_1 _ _ _ (by omega), si_o (by decide), si_eq]
  have s17 : (clrS s).1 17 0 0 = 0 := by unfold clrS; rw [b8_1, if_neg (by omega), r6_1 _ _ _ (by omega), si_eq]
  have u237 : U.1 237 0 0 = 0 := by rw [← hU, c6_1 _ _ _ (by omega), b8U_1, if_neg (by omega), si_eq]
  have u263 : U.1 263 0 0 = 0 := by rw [← hU, c6_1 _ _ _ (by omega), b8U_1, if_neg (by omega), si_o (by decide), si_eq]
  have fc : Fc0 s (clrS s) := fun id z => ⟨by funext o e; exact s1 _ _ _ (by omega), by funext o e; exact s2 _ _ _ (by omega)⟩
  have fr : Fr u U := fun id z1 z2 => ⟨by funext e; exact u1 _ _ (by omega), by funext e; exact u2 _ _ (by omega)⟩
  have cl : Cl u U := fun id hi => ⟨by
    funext o e; rw [← hU, c6_1 _ _ _ (by omega), b8U_1, if_neg (by omega), si_o (by omega), si_o (by omega)], by
    funext o e; rw [← hU, c6_2 _ _ _ (by omega) (by omega), b8U_2]; rfl⟩
  obtain ⟨h12, hp1, hp2, hp3⟩ := L.wr.wc.pp
  have W : WR sd pc n (clrS s) U := by
    refine ⟨⟨GV_clr L.wr.wc.gv, ⟨by rw [s17, u263], ⟨0, by omega, u263, fun k hk => absurd hk (Nat.not_lt_zero _)⟩, by rw [s16, u237]⟩, ⟨0, by decide, s16⟩, ⟨h12, by rw [s1 _ _ _ (by omega)]; exact hp1, by rw [u1 _ _ (by omega)]; exact hp2, fun p hp => (hp3 p hp).to (fun id z1 z2 => (fc id (by omega)).1) (fun id z1 z2 => fr id (by omega) (by omega))⟩, ⟨L.wr.wc.sg.n30, by rw [u1 _ _ (by omega)]; exact L.wr.wc.sg.sr, fun t ht => Or.inl ⟨(sv t ht).1.2.2.2.2.2.2, (uv t ht).1.2.2.2.2⟩, fun t t' ht _ _ z => absurd (uv t ht).1.2.2.2.2 z, fun g q hg hq => ?_⟩, fun b hb => ?_⟩, fun t ht => ?_⟩
    · unfold cN at hq; rw [(sv g hg).1.2.2.1] at hq; exact absurd hq (Nat.not_lt_zero _)
    · rw [s2 _ _ _ (by omega), u2 _ _ (by omega)]
      refine ⟨?_, (L.wr.wc.bx b hb).2⟩
      unfold clrS; rw [b8_1, if_pos ⟨rfl, rfl, by omega, by omega⟩, ← hU, c6_1 _ _ _ (by omega), b8U_1, if_pos ⟨rfl, rfl, by omega, by omega⟩]
    · obtain ⟨⟨v1, v2, v3, v4, v5, v6, v7⟩, v8, v9⟩ := sv t ht
      obtain ⟨⟨w1, w2, w3, w4, w5⟩, w6, w7⟩ := uv t ht
      exact ⟨⟨v1.trans w1.symm, v2.trans w2.symm, v9.trans w7.symm, fun q hq => (v8 q hq).trans (w6 q hq).symm⟩, (s1 _ _ _ (by omega)).trans (L.wr.th t ht).nu, Or.inr ⟨by rw [v1]; decide, v3, w4, v4, v5, v6, v7⟩⟩
  exact ⟨U, hR, L.to (c := 0) W s16 (by omega) L.nk fc fr, fc.rf, cl⟩
/-! thread -/
theorem r_t5 {sd : Nat → Nat → Nat} {pc n t p d c : Nat} {s u : St} (ht : t < 6) (w : WT sd pc n s u t p d c) : ∀ (m i N : Nat), i + m = d → m < N → r_thread_129 N (nI t) 5 1 (nI (cntA s t i)) (nI i) u = some (nI (cntA s t d), u) := by
  have h8 := w.tc.d8
  intro m
  induction m with
  | zero =>
    intro i N hi hN
    obtain ⟨N, rfl⟩ : ∃ q, N = q + 1 := ⟨N - 1, by omega⟩
    have : i = d := by omega
    subst this
    rw [r_thread_129.eq_2, gI (by omega) (by decide), nI_clamp (by omega), w.tc.du, if_pos (nI_le (by omega) (by omega))]
    unfold r_thread_209 r_thread_219
    rw [if_pos rfl]
  | succ m ih =>
    intro i N hi hN
    obtain ⟨N, rfl⟩ : ∃ q, N = q + 1 := ⟨N - 1, by omega⟩
    obtain ⟨a, wh, Lv⟩ := w.tc.lv (i + 1) (by omega) (by omega)
    have hi2 := ih (i + 1) N (by omega) (by omega)
    have eC : cntA s t (i + 1) = (if s.1 4 t (i + 1) = 1 then 1 else 0) + cntA s t i := rfl
    rw [eC] at hi2
    rw [r_thread_129.eq_2, gI (by omega) (by decide), nI_clamp (by omega), w.tc.du, if_neg (nI_ge (by omega) (by omega)), if_neg (by decide), if_pos rfl]
    simp only [m9]
    rw [gI (by omega) (by decide), nI_clamp (by omega), gI (by omega) (by decide)]
    unfold r_thread_199 r_thread_195 r_thread_200
    rw [nI_1]
    rcases Lv.2.2.2.2.2.1 with ⟨m1, m2, wi, q, m3, m4, m5, m6, m7, m8⟩ | ⟨m1, m2, m3, -⟩
    · obtain ⟨ck, ck1, ck2⟩ := w.wc.ck
      rw [ck2, nI_clamp (by omega)] at m3
      have m7 : u.2 250 0 (9 * t + i) = _ := m7
      rw [m7, if_neg (due_pos (by omega) (by omega))]
      rcases m8 with ⟨q1, q2⟩ | ⟨q1, q2⟩
      · have q2 : u.1 251 0 (9 * t + i) = 0 := q2
        rw [q2, if_pos rfl, nI_1]
        rw [q1, if_pos rfl, Nat.add_comm] at hi2; exact hi2
      · have q2 : u.1 251 0 (9 * t + i) = 1 := q2
        rw [q2, if_neg (by decide), Int32.add_zero]
        rw [q1, if_neg (by decide), Nat.zero_add] at hi2; exact hi2
    · have m3 : u.2 250 0 (9 * t + i) = -1 := m3
      rw [m3, if_pos (by decide), Int32.add_zero]
      rw [m2, if_neg (by decide), Nat.zero_add] at hi2; exact hi2
def cntH (s : St) (t : Nat) : Nat → Nat
  | 0 => 0
  | b + 1 => (if s.1 6 t (b + 1) = 0 then 0 else 1) + cntH s t b
theorem cntH_le {s : St} {t : Nat} : ∀ d, cntH s t d ≤ d
  | 0 => Nat.le_refl _
  | d + 1 => by
    unfold cntH
    have := cntH_le (s := s) (t := t) d
    split <;> omega
theorem r_t6 {sd : Nat → Nat → Nat} {pc n t p d c : Nat} {s u : St} (ht : t < 6) (w : WT sd pc n s u t p d c) : ∀ (m i N : Nat), i + m = d → m < N → r_thread_129 N (nI t) 6 1 (nI (cntH s t i)) (nI i) u = some (if cntH s t d = 0 then 0 else 1, u) := by
  have h8 := w.tc.d8
  intro m
  induction m with
  | zero =>
    intro i N hi hN
    obtain ⟨N, rfl⟩ : ∃ q, N = q + 1 := ⟨N - 1, by omega⟩
    have : i = d := by omega
    subst this
    have hl := cntH_le (s := s) (t := t) i
    rw [r_thread_129.eq_2, gI (by omega) (by decide), nI_clamp (by omega), w.tc.du, if_pos (nI_le (by omega) (by omega))]
    unfold r_thread_209 r_thread_219
    rw [if_neg (by decide)]
    by_cases h : cntH s t i = 0
    · rw [h, if_pos (by decide), if_pos rfl]; rfl
    · rw [if_neg (fun z => h ((nI_z (by omega)).mp z)), if_neg h]
  | succ m ih =>
    intro i N hi hN
    obtain ⟨N, rfl⟩ : ∃ q, N = q + 1 := ⟨N - 1, by omega⟩
    obtain ⟨a, wh, Lv⟩ := w.tc.lv (i + 1) (by omega) (by omega)
    have hi2 := ih (i + 1) N (by omega) (by omega)
    have eC : cntH s t (i + 1) = (if s.1 6 t (i + 1) = 0 then 0 else 1) + cntH s t i := rfl
    rw [eC] at hi2
    rw [r_thread_129.eq_2, gI (by omega) (by decide), nI_clamp (by omega), w.tc.du, if_neg (nI_ge (by omega) (by omega)), if_neg (by decide), if_neg (by decide)]
    simp only [m9]
    rw [gI (by omega) (by decide), nI_clamp (by omega)]
    unfold r_thread_199 r_thread_195 r_thread_200
    rw [nI_1]
    rcases Lv.2.2.2.2.2.2 with ⟨z1, z2⟩ | ⟨z1, z2, z3, z4, z5⟩
    · have z2 : u.1 252 0 (9 * t + i) = 0 := z2
      rw [z2, if_pos (by decide), Int32.add_zero]
      rw [z1, if_pos rfl, Nat.zero_add] at hi2; exact hi2
    · have z5 : ¬ u.1 252 0 (9 * t + i) ≤ 0 := by
        rcases z5 with z | z <;> rw [show u.1 252 0 (9 * t + i) = _ from z.1] <;> decide
      rw [if_neg z5, nI_1]
      rw [z1, if_neg (by decide), Nat.add_comm] at hi2; exact hi2
theorem hv_H {s : St} {t : Nat} : ∀ m k, hvS s t m (k + 1) = 0 ∧ (∀ b, k < b → b ≤ k + m → s.1 6 t b = 0) ∨ hvS s t m (k + 1) = 1 ∧ ∃ b, k < b ∧ b ≤ k + m ∧ ¬ s.1 6 t b = 0
  | 0, k => Or.inl ⟨rfl, fun b h1 h2 => by omega⟩
  | m + 1, k => by
    unfold hvS
    by_cases h : s.1 6 t (k + 1) = 0
    · rw [if_pos h]
      rcases hv_H m (k + 1) with ⟨a, b⟩ | ⟨a, b, b1, b2, b3⟩
      · refine Or.inl ⟨a, fun q q1 q2 => ?_⟩
        by_cases e : q = k + 1
        · rw [e]; exact h
        · exact b q (by omega) (by omega)
      · exact Or.inr ⟨a, b, by omega, by omega, b3⟩
    · rw [if_neg h]
      exact Or.inr ⟨rfl, k + 1, by omega, by omega, h⟩
theorem cntH_0 {s : St} {t : Nat} : ∀ d, cntH s t d = 0 ↔ ∀ b, 0 < b → b ≤ d → s.1 6 t b = 0
  | 0 => ⟨fun _ b h1 h2 => by omega, fun _ => rfl⟩
  | d + 1 => by
    unfold cntH
    constructor
    · intro h b h1 h2
      by_cases z : s.1 6 t (d + 1) = 0
      · rw [if_pos z, Nat.zero_add] at h
        by_cases e : b = d + 1
        · rw [e]; exact z
        · exact (cntH_0 d).mp h b h1 (by omega)
      · rw [if_neg z] at h; omega
    · intro h
      rw [if_pos (h (d + 1) (by omega) (by omega)), (cntH_0 d).mpr (fun b h1 h2 => h b h1 (by omega))]
theorem S_thread {sd : Nat → Nat → Nat} {pc n k : Nat} {s u : St} (x y : Int32) (L : RL sd pc n k s u) : r_thread x y u = some (thrV s x y, u) := by
  unfold r_thread thrV
  rw [r_isT, cal2_s]
  rcases inW_6 x with z | ⟨t, ht, rfl, z⟩
  · rw [if_pos z, if_pos z]
  · have z0 : ¬ inW (nI t) 6 = 0 := by rw [z]; decide
    rw [if_neg z0, if_neg z0, nI_clamp (by omega)]
    have H := L.wr.th t ht
    by_cases h0 : y < 0
    · have ny : ∀ q : Nat, q < 2 ^ 31 → ¬ y = nI q := fun q hq e => nI_pos hq (e ▸ h0)
      rw [if_pos h0, if_neg (show ¬ y = 0 from ny 0 (by decide)), if_neg (show ¬ y = 1 from ny 1 (by decide)), if_neg (show ¬ y = 2 from ny 2 (by decide)), if_neg (show ¬ y = 3 from ny 3 (by decide)), if_neg (show ¬ y = 4 from ny 4 (by decide)), if_neg (show ¬ y = 5 from ny 5 (by decide)), if_neg (show ¬ y = 6 from ny 6 (by decide))]
    · rw [if_neg h0]
      by_cases h6 : y ≤ 6
      · rw [if_pos h6, gI (by omega) (by decide), ← H.tb.st]
        obtain ⟨q, hq, rfl⟩ := le_ok (n := 6) (by decide) h0 h6
        rcases H.ru with ⟨r1, -⟩ | ⟨r1, I⟩
        · obtain ⟨p, d, c, w, P, Q⟩ := L.wr.wt ht r1
          have h8 := w.tc.d8
          rw [if_pos r1]
          unfold r_thread_34
          rcases (show q = 0 ∨ q = 1 ∨ q = 2 ∨ q = 3 ∨ q = 4 ∨ q = 5 ∨ q = 6 by omega) with rfl | rfl | rfl | rfl | rfl | rfl | rfl
          · rw [if_pos (by decide), if_pos (by decide), gI (by omega) (by decide), nI_clamp (by omega), H.tb.st]
          · rw [if_neg (by decide), if_pos (by decide), if_neg (by decide), if_neg (by decide), if_pos (by decide), gI (by omega) (by decide), nI_clamp (by omega), w.tc.st]
          · rw [if_neg (by decide), if_neg (by decide), if_pos (by decide), if_neg (by decide), if_neg (by decide), if_pos (by decide), gI (by omega) (by decide), nI_clamp (by omega), H.tb.sp]
          · rw [if_neg (by decide), if_neg (by decide), if_neg (by decide), if_pos (by decide), if_neg (by decide), if_neg (by decide), if_neg (by decide), if_pos (by decide), gI (by omega) (by decide), nI_clamp (by omega), w.tc.rw.cs, w.tc.rw.cu]
          · rw [if_neg (by decide), if_neg (by decide), if_neg (by decide), if_neg (by decide), if_pos (by decide), if_neg (by decide), if_neg (by decide), if_neg (by decide), if_neg (by decide), if_neg (by decide), if_pos (by decide), gI (by omega) (by decide), nI_clamp (by omega), w.tc.ds, w.tc.du]
          · rw [if_neg (by decide), if_neg (by decide), if_neg (by decide), if_neg (by decide), if_neg (by decide), if_neg (by decide), if_neg (by decide), if_neg (by decide), if_neg (by decide), if_neg (by decide), if_pos (by decide), w.tc.aw]
            exact r_t5 ht w d 0 40 (by omega) (by omega)
          · rw [if_neg (by decide), if_neg (by decide), if_neg (by decide), if_neg (by decide), if_neg (by decide), if_neg (by decide), if_neg (by decide), if_neg (by decide), if_neg (by decide), if_neg (by decide), if_neg (by decide), if_pos (by decide), dN_of w.tc.ds h8]
            have e := r_t6 ht w d 0 40 (by omega) (by omega)
            refine e.trans ?_
            congr 2
            rcases hv_H (s := s) (t := t) d 0 with ⟨a, b⟩ | ⟨a, b, b1, b2, b3⟩
            · rw [a, if_pos ((cntH_0 d).mpr (fun b' h1 h2 => b b' h1 (by omega))), if_pos rfl]
            · rw [a, if_neg (fun z => b3 ((cntH_0 d).mp z b b1 (by omega))), if_neg (by decide)]
        · rw [if_neg r1]
          have hL : r_thread_129 40 (nI t) (nI q) 0 0 0 u = some (0, u) := by
            have e : r_thread_209 (nI q) 0 u = some (0, u) := by
              unfold r_thread_209 r_thread_219
              split
              · rfl
              · rw [if_pos rfl]
            rw [r_thread_129.eq_2, gI (by omega) (by decide)]
            split
            · exact e
            · rw [if_pos rfl]; exact e
          unfold r_thread_34
          rcases (show q = 0 ∨ q = 1 ∨ q = 2 ∨ q = 3 ∨ q = 4 ∨ q = 5 ∨ q = 6 by omega) with rfl | rfl | rfl | rfl | rfl | rfl | rfl
          · rw [if_pos (by decide), if_pos (by decide), gI (by omega) (by decide), nI_clamp (by omega), H.tb.st]
          · rw [if_neg (by decide), if_pos (by decide), if_pos rfl, if_neg (by decide), if_pos (by decide), I.a2]
          · rw [if_neg (by decide), if_neg (by decide), if_pos (by decide), if_neg (by decide), if_neg (by decide), if_pos (by decide), gI (by omega) (by decide), nI_clamp (by omega), H.tb.sp]
          · rw [if_neg (by decide), if_neg (by decide), if_neg (by decide), if_pos (by decide), if_neg (by decide), if_neg (by decide), if_neg (by decide), if_pos (by decide), gI (by omega) (by decide), nI_clamp (by omega), I.a0, I.a1]
          · rw [if_neg (by decide), if_neg (by decide), if_neg (by decide), if_neg (by decide), if_pos (by decide), if_pos rfl, if_neg (by decide), if_neg (by decide), if_neg (by decide), if_neg (by decide), if_pos (by decide), I.a3]
          · rw [if_neg (by decide), if_neg (by decide), if_neg (by decide), if_neg (by decide), if_neg (by decide), if_neg (by decide), if_neg (by decide), if_neg (by decide), if_neg (by decide), if_neg (by decide), if_pos (by decide), I.a4]
            exact hL
          · rw [if_neg (by decide), if_neg (by decide), if_neg (by decide), if_neg (by decide), if_neg (by decide), if_neg (by decide), if_neg (by decide), if_neg (by decide), if_neg (by decide), if_neg (by decide), if_neg (by decide), if_pos (by decide), dN_of (d := 0) I.a3 (by omega)]
            exact hL
      · have ny : ∀ q : Nat, q ≤ 6 → ¬ y = nI q := fun q hq e => h6 (e ▸ (nI_le (b := 6) hq (by decide)))
        rw [if_neg h6, if_neg (show ¬ y = 0 from ny 0 (by decide)), if_neg (show ¬ y = 1 from ny 1 (by decide)), if_neg (show ¬ y = 2 from ny 2 (by decide)), if_neg (show ¬ y = 3 from ny 3 (by decide)), if_neg (show ¬ y = 4 from ny 4 (by decide)), if_neg (show ¬ y = 5 from ny 5 (by decide)), if_neg (show ¬ y = 6 from ny 6 (by decide))]
/-! feed -/
theorem q255 (i : Nat) (hi : i < 8) : (255 : Int32).toBitVec.getLsbD i = true := by
  rcases (show i = 0 ∨ i = 1 ∨ i = 2 ∨ i = 3 ∨ i = 4 ∨ i = 5 ∨ i = 6 ∨ i = 7 by omega) with rfl | rfl | rfl | rfl | rfl | rfl | rfl | rfl <;> rfl
theorem q255' (i : Nat) (hi : 8 ≤ i) : (255 : Int32).toBitVec.getLsbD i = false := by
  show (255#32).getLsbD i = false
  rw [BitVec.getLsbD_ofNat, Nat.testBit_lt_two_pow (Nat.lt_of_lt_of_le (by decide : 255 < 2 ^ 8) (Nat.pow_le_pow_right (by decide) hi)), Bool.and_false]
theorem low8 (y : Int32) : (y.toInt8.toInt32) &&& 255 = y &&& 255 := by
  apply Int32.toBitVec_inj.mp
  apply BitVec.eq_of_getLsbD_eq
  intro i hi
  rw [Int32.toBitVec_and, Int32.toBitVec_and, BitVec.getLsbD_and, BitVec.getLsbD_and]
  by_cases h : i < 8
  · rw [q255 i h, Bool.and_true, Bool.and_true]
    show (BitVec.signExtend 32 (BitVec.signExtend 8 y.toBitVec)).getLsbD i = y.toBitVec.getLsbD i
    rw [BitVec.getLsbD_signExtend, if_pos h, BitVec.getLsbD_signExtend, if_pos (by omega)]
    simp [h]; omega
  · rw [q255' i (by omega), Bool.and_false, Bool.and_false]
theorem sh8 (x k : Int32) (n : Nat) (hn : n ≤ 24) (h1 : (k.toBitVec.smod 32).toNat = n) (h2 : ((k.toUInt32 &&& Int32.toUInt32 31).toBitVec % 32#32).toNat = n) : (x >>> k) &&& 255 = (x.toUInt32 >>> (k.toUInt32 &&& Int32.toUInt32 31)).toInt32 &&& 255 := by
  apply Int32.toBitVec_inj.mp
  apply BitVec.eq_of_getLsbD_eq
  intro i hi
  rw [Int32.toBitVec_and, Int32.toBitVec_and, BitVec.getLsbD_and, BitVec.getLsbD_and]
  by_cases h : i < 8
  · rw [q255 i h, Bool.and_true, Bool.and_true]
    have e1 : (x >>> k).toBitVec = x.toBitVec.sshiftRight n := by
      show x.toBitVec.sshiftRight (k.toBitVec.smod 32).toNat = _
      rw [h1]
    have e2 : ((x.toUInt32 >>> (k.toUInt32 &&& Int32.toUInt32 31)).toInt32).toBitVec = x.toBitVec >>> n := by
      show x.toBitVec >>> ((k.toUInt32 &&& Int32.toUInt32 31).toBitVec % 32#32).toNat = _
      rw [h2]
    rw [e1, e2, BitVec.getLsbD_sshiftRight, BitVec.getLsbD_ushiftRight]
    have : ¬ (32 ≤ i) := by omega
    simp [this]; intro h3; omega
  · rw [q255' i (by omega), Bool.and_false, Bool.and_false]
theorem byt_ok (x k : Int32) (hk : k = 24 ∨ k = 16 ∨ k = 8 ∨ k = 0) : (vp_nar .byte ((x >>> k).toInt8.toInt32)) &&& 255 = byt x k := by
  have e : vp_nar .byte ((x >>> k).toInt8.toInt32) = (x >>> k).toInt8.toInt32.toInt8.toInt32 := rfl
  rw [e, low8, low8]
  unfold byt
  rcases hk with rfl | rfl | rfl | rfl
  · exact sh8 x 24 24 (by decide) (by decide) (by decide)
  · exact sh8 x 16 16 (by decide) (by decide) (by decide)
  · exact sh8 x 8 8 (by decide) (by decide) (by decide)
  · exact sh8 x 0 0 (by decide) (by decide) (by decide)
theorem byt_nI (y : Int32) : ∃ q, q < 256 ∧ y &&& 255 = nI q := by
  refine ⟨(y.toBitVec &&& 255#32).toNat, ?_, ?_⟩
  · rw [BitVec.toNat_and]
    exact Nat.lt_of_le_of_lt Nat.and_le_right (by decide)
  · apply Int32.toBitVec_inj.mp
    show y.toBitVec &&& 255#32 = BitVec.ofNat 32 _
    rw [BitVec.ofNat_toNat]; simp
def TPz (s u : St) (z : Nat) : Prop := s.1 129 0 0 = nI z ∧ u.1 201 0 0 = nI z ∧ ∀ i, i < z → ∃ b, b < 256 ∧ s.1 128 0 i = nI b ∧ (u.1 200 0 i) &&& 255 = nI b
def pu1 (u : St) (z : Nat) (v : Int32) : St := si (si u 200 0 z v) 201 0 0 (nI (z + 1))
/-- only the tapes have changed -/
def Tc (s s' : St) : Prop := s'.2 = s.2 ∧ ∀ id, ¬ (id = 128 ∨ id = 129) → s'.1 id = s.1 id
def Tu (u u' : St) : Prop := u'.2 = u.2 ∧ ∀ id, ¬ (id = 200 ∨ id = 201) → u'.1 id = u.1 id
theorem feed1 {s u : St} {z : Nat} {x : Int32} {k : Int32} (hk : k = 24 ∨ k = 16 ∨ k = 8 ∨ k = 0) (h : TPz s u z) : TPz (pt1 s z (byt x k)) (pu1 u z (vp_nar .byte ((x >>> k).toInt8.toInt32))) (z + 1) := by
  obtain ⟨h1, h2, h3⟩ := h
  refine ⟨si_eq, si_eq, fun i hi => ?_⟩
  unfold pt1 pu1
  rw [si_o (a := 128) (id := 129) (by decide), si_o (a := 200) (id := 201) (by decide)]
  by_cases e : i = z
  · subst e
    rw [si_eq, si_eq, byt_ok x k hk]
    obtain ⟨q, q1, q2⟩ := byt_nI ((x.toUInt32 >>> (k.toUInt32 &&& Int32.toUInt32 31)).toInt32)
    exact ⟨q, q1, q2, q2⟩
  · rw [si_q e, si_q e]; exact h3 i (by omega)
def fw (a b c d e : Int32) (k : Nat) : Int32 := if k / 4 = 0 then a else if k / 4 = 1 then b else if k / 4 = 2 then c else if k / 4 = 3 then d else e
def fsh (k : Nat) : Int32 := nI (24 - 8 * (k % 4))
theorem fd_c : ∀ k, k < 20 → nI k / 4 = nI (k / 4) ∧ (((24 : Int32) - ((8 : Int32) * (nI k - nI k / 4 * 4))) &&& 31) = fsh k ∧ (fsh k = 24 ∨ fsh k = 16 ∨ fsh k = 8 ∨ fsh k = 0) := by decide
def fC (s : St) (z : Nat) (a b c d e : Int32) : Nat → St
  | 0 => s
  | k + 1 => pt1 (fC s z a b c d e k) (z + k) (byt (fw a b c d e k) (fsh k))
def fU (u : St) (z : Nat) (a b c d e : Int32) : Nat → St
  | 0 => u
  | k + 1 => pu1 (fU u z a b c d e k) (z + k) (vp_nar .byte ((fw a b c d e k >>> fsh k).toInt8.toInt32))
theorem f_all {s u : St} {z : Nat} {a b c d e : Int32} (h : TPz s u z) : ∀ k, k ≤ 20 → TPz (fC s z a b c d e k) (fU u z a b c d e k) (z + k)
  | 0, _ => h
  | k + 1, hk => feed1 (fd_c k (by omega)).2.2 (f_all h k (by omega))
theorem fC_t {s : St} {z : Nat} {a b c d e : Int32} : ∀ k, Tc s (fC s z a b c d e k)
  | 0 => ⟨rfl, fun _ _ => rfl⟩
  | k + 1 => by
    have ih := fC_t (s := s) (z := z) (a := a) (b := b) (c := c) (d := d) (e := e) k
    refine ⟨ih.1, fun id hi => ?_⟩
    show (pt1 (fC s z a b c d e k) (z + k) _).1 id = _
    unfold pt1
    rw [si_id (by omega), si_id (by omega)]; exact ih.2 id hi
theorem fU_t {u : St} {z : Nat} {a b c d e : Int32} : ∀ k, Tu u (fU u z a b c d e k)
  | 0 => ⟨rfl, fun _ _ => rfl⟩
  | k + 1 => by
    have ih := fU_t (u := u) (z := z) (a := a) (b := b) (c := c) (d := d) (e := e) k
    refine ⟨ih.1, fun id hi => ?_⟩
    show (pu1 (fU u z a b c d e k) (z + k) _).1 id = _
    unfold pu1
    rw [si_id (by omega), si_id (by omega)]; exact ih.2 id hi
theorem fU_z {u : St} {z : Nat} {a b c d e : Int32} (h : u.1 201 0 0 = nI z) : ∀ k, (fU u z a b c d e k).1 201 0 0 = nI (z + k)
  | 0 => h
  | k + 1 => by show (pu1 _ (z + k) _).1 201 0 0 = _; unfold pu1; rw [si_eq]; congr 1
theorem r_f18 {u : St} {z : Nat} {a b c d e : Int32} (h : u.1 201 0 0 = nI z) (hz : z + 20 ≤ 800) : ∀ (m k N : Nat), k + m = 20 → m < N → r_feed_18 N a b c d e (nI k) (fU u z a b c d e k) = some (nI (z + 20), fU u z a b c d e 20) := by
  intro m
  induction m with
  | zero =>
    intro k N hk hN
    obtain ⟨N, rfl⟩ : ∃ q, N = q + 1 := ⟨N - 1, by omega⟩
    have : k = 20 := by omega
    subst this
    rw [r_feed_18.eq_2, if_pos (show (20 : Int32) ≤ nI 20 by decide), bnd_d, fU_z h 20]
  | succ m ih =>
    intro k N hk hN
    obtain ⟨N, rfl⟩ : ∃ q, N = q + 1 := ⟨N - 1, by omega⟩
    have hi := ih (k + 1) N (by omega) (by omega)
    obtain ⟨c1, c2, c3⟩ := fd_c k (by omega)
    have st : ∀ y, y = fw a b c d e k → r_feed_73 (r_feed_18 N) a b c d e (nI k) y (fU u z a b c d e k) = some (nI (z + 20), fU u z a b c d e 20) := fun y hy => by
      subst hy
      unfold r_feed_73
      rw [bnd_d, fU_z h k, c2, gI (by omega) (by decide), nI_clamp (by omega), bnd_d, si_o (by decide), fU_z h k, bnd_d, nI_1, nI_1]
      exact hi
    rw [r_feed_18.eq_2, if_neg (show ¬ (20 : Int32) ≤ nI k from nI_ge (b := 20) (by omega) (by decide)), c1]
    have hd : k / 4 < 5 := by omega
    unfold fw at st
    by_cases h0 : k / 4 = 0
    · rw [if_pos (by rw [h0]; rfl)]; exact st a (by rw [if_pos h0])
    · rw [if_neg (fun q => h0 ((nI_z (by omega)).mp q))]
      by_cases h1 : k / 4 = 1
      · rw [if_pos (by rw [h1]; rfl)]; exact st b (by rw [if_neg h0, if_pos h1])
      · rw [if_neg (fun q => h1 ((nI_o (by omega)).mp q))]
        by_cases h2 : k / 4 = 2
        · rw [if_pos (by rw [h2]; rfl)]; exact st c (by rw [if_neg h0, if_neg h1, if_pos h2])
        · rw [if_neg (fun q => h2 ((nI_t (by omega)).mp q))]
          by_cases h3 : k / 4 = 3
          · rw [if_pos (by rw [h3]; rfl)]; exact st d (by rw [if_neg h0, if_neg h1, if_neg h2, if_pos h3])
          · rw [if_neg (show ¬ nI (k / 4) = 3 from fun q => h3 ((nI_eq (b := 3) (by omega) (by decide)).mp q))]; exact st e (by rw [if_neg h0, if_neg h1, if_neg h2, if_neg h3])
theorem fC_pt5 {s : St} {z : Nat} {a b c d e : Int32} : fC s z a b c d e 20 = pt5 s z a b c d e := rfl
theorem WR.tape {sd : Nat → Nat → Nat} {pc n : Nat} {s u s' u' : St} (w : WR sd pc n s u) (hs : Tc s s') (hu : Tu u u') (hG : GV s') : WR sd pc n s' u' := by
  have e2 : ∀ id, s'.2 id = s.2 id := fun id => by rw [hs.1]
  have f2 : ∀ id, u'.2 id = u.2 id := fun id => by rw [hu.1]
  obtain ⟨h12, hp1, hp2, hp3⟩ := w.wc.pp
  have ap : AP s s' := fun id z1 z2 => hs.2 id (by omega)
  have ar : AR u u' := fun id z1 z2 => ⟨by rw [hu.2 id (by omega)], by rw [f2]⟩
  refine ⟨⟨hG, w.wc.nr.lv (fun id z1 z2 => ⟨hs.2 id (by omega), e2 id⟩) (fun id z => ⟨by rw [hu.2 id (by omega)], by rw [f2]⟩), by rw [hs.2 16 (by omega)]; exact w.wc.ck, ⟨h12, by rw [hs.2 132 (by omega)]; exact hp1, by rw [hu.2 210 (by omega)]; exact hp2, fun p hp => (hp3 p hp).to ap ar⟩, w.wc.sg.lb (hs.2 44 (by omega)) (hs.2 80 (by omega)) (hs.2 81 (by omega)) (fun id z => by rw [hu.2 id (by omega)]), fun b hb => by rw [hs.2 114 (by omega), hu.2 238 (by omega), e2, f2]; exact w.wc.bx b hb⟩, fun t ht => ?_⟩
  exact (w.th t ht).other (fun id e z => ⟨by rw [hs.2 id (by omega)], by rw [e2]⟩) (fun id e hp z => ⟨by rw [hu.2 id (fun q => by unfold PT at hp; omega)], by rw [f2]⟩) (fun id e z => ⟨by rw [hs.2 id (by omega)], by rw [e2]⟩) (fun id e hp z => ⟨by rw [hu.2 id (by omega)], by rw [f2]⟩) ap ar (by rw [hs.2 16 (by omega)]; exact Nat.le_refl _)
theorem Tc.gv {s s' : St} (h : Tc s s') (hG : GV s) : GV s' := fun id o e => by
  by_cases z : id = 128 ∨ id = 129
  · rcases z with rfl | rfl <;> simp [val]
  · rw [h.2 id z]; exact hG id o e
theorem S_feed {sd : Nat → Nat → Nat} {pc n k : Nat} {s u : St} (a b c d e : Int32) (L : RL sd pc n k s u) : (s.1 129 0 0 = nI (tN s) ∧ tN s ≤ 800) ∧ ∃ u', r_feed a b c d e u = some (feedV s a b c d e, u') ∧ RL sd pc n k (feedS s a b c d e) u' ∧ Rf s (feedS s a b c d e) ∧ Cl u u' := by
  obtain ⟨z, z1, z2, z3, z4⟩ := L.tp
  obtain ⟨ck, hc, hck⟩ := L.ck
  have tz : tN s = z := by unfold tN; rw [z2, nI_clamp (by omega)]
  refine ⟨⟨by rw [tz]; exact z2, by omega⟩, ?_⟩
  unfold r_feed feedV feedS
  rw [bnd_d, z2, z3, tz, show nI z + 20 = nI (z + 20) from nI_add z 20]
  by_cases h : z + 20 ≤ 800
  · have hl : nI (z + 20) ≤ 800 := nI_le (b := 800) h (by decide)
    simp only [if_pos hl]
    have hT := f_all (a := a) (b := b) (c := c) (d := d) (e := e) (show TPz s u z from ⟨z2, z3, z4⟩) 20 (Nat.le_refl _)
    have tc := fC_t (s := s) (z := z) (a := a) (b := b) (c := c) (d := d) (e := e) 20
    have tu := fU_t (u := u) (z := z) (a := a) (b := b) (c := c) (d := d) (e := e) 20
    rw [← fC_pt5]
    refine ⟨_, r_f18 z3 h 20 0 30 (by omega) (by omega), ⟨L.wr.tape tc tu (tc.gv L.wr.wc.gv), ⟨ck, hc, by rw [tc.2 16 (by omega)]; exact hck⟩, L.nk, ⟨z + 20, h, hT⟩, by rw [tc.2 133 (by omega), tu.2 209 (by omega)]; exact L.pl⟩, fun id hi => ⟨tc.2 id (by omega), by rw [tc.1]⟩, fun id hi => ⟨tu.2 id (by omega), by rw [tu.1]⟩⟩
  · have hl : ¬ nI (z + 20) ≤ 800 := nI_ge (a := 800) (by omega) (by omega)
    simp only [if_neg hl]
    exact ⟨u, rfl, L, Rf.refl s, Cl.refl u⟩
