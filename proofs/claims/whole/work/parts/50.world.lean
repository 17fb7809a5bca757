/-! the world, on both sides; the parts of a TURN -/
def WC (sd : Nat → Nat → Nat) (pc n : Nat) (s u : St) : Prop := (GV s) ∧ (NR s u) ∧ (∃ n, n < 2 ^ 30 ∧ s.1 16 0 0 = nI n) ∧ (PP sd s u pc) ∧ (SG s u n) ∧ (∀ b, b < 8 → s.1 114 0 b = u.1 238 0 b ∧ s.2 115 0 b = u.2 239 0 b)
theorem WC.gv {sd : Nat → Nat → Nat} {pc n : Nat} {s u : St} (h : WC sd pc n s u) : GV s := h.1
theorem WC.nr {sd : Nat → Nat → Nat} {pc n : Nat} {s u : St} (h : WC sd pc n s u) : NR s u := h.2.1
theorem WC.ck {sd : Nat → Nat → Nat} {pc n : Nat} {s u : St} (h : WC sd pc n s u) : ∃ n, n < 2 ^ 30 ∧ s.1 16 0 0 = nI n := h.2.2.1
theorem WC.pp {sd : Nat → Nat → Nat} {pc n : Nat} {s u : St} (h : WC sd pc n s u) : PP sd s u pc := h.2.2.2.1
theorem WC.sg {sd : Nat → Nat → Nat} {pc n : Nat} {s u : St} (h : WC sd pc n s u) : SG s u n := h.2.2.2.2.1
theorem WC.bx {sd : Nat → Nat → Nat} {pc n : Nat} {s u : St} (h : WC sd pc n s u) : ∀ b, b < 8 → s.1 114 0 b = u.1 238 0 b ∧ s.2 115 0 b = u.2 239 0 b := h.2.2.2.2.2
def WR (sd : Nat → Nat → Nat) (pc n : Nat) (s u : St) : Prop := (WC sd pc n s u) ∧ (∀ t, t < 6 → TH sd pc s u t)
theorem WR.wc {sd : Nat → Nat → Nat} {pc n : Nat} {s u : St} (h : WR sd pc n s u) : WC sd pc n s u := h.1
theorem WR.th {sd : Nat → Nat → Nat} {pc n : Nat} {s u : St} (h : WR sd pc n s u) : ∀ t, t < 6 → TH sd pc s u t := h.2
/-- while THREAD t goes: p its PROGRAM, d its depth -/
def WT (sd : Nat → Nat → Nat) (pc n : Nat) (s u : St) (t p d c : Nat) : Prop := (WC sd pc n s u) ∧ (∀ g, g < 6 → g ≠ t → TH sd pc s u g) ∧ (TB s u t) ∧ (s.1 32 t 0 = nI t) ∧ (TC sd s u t p d c) ∧ (p < pc) ∧ (s.1 38 t 0 = 1)
theorem WT.wc {sd : Nat → Nat → Nat} {pc n : Nat} {s u : St} {t p d c : Nat} (h : WT sd pc n s u t p d c) : WC sd pc n s u := h.1
theorem WT.th {sd : Nat → Nat → Nat} {pc n : Nat} {s u : St} {t p d c : Nat} (h : WT sd pc n s u t p d c) : ∀ g, g < 6 → g ≠ t → TH sd pc s u g := h.2.1
theorem WT.tb {sd : Nat → Nat → Nat} {pc n : Nat} {s u : St} {t p d c : Nat} (h : WT sd pc n s u t p d c) : TB s u t := h.2.2.1
theorem WT.nu {sd : Nat → Nat → Nat} {pc n : Nat} {s u : St} {t p d c : Nat} (h : WT sd pc n s u t p d c) : s.1 32 t 0 = nI t := h.2.2.2.1
theorem WT.tc {sd : Nat → Nat → Nat} {pc n : Nat} {s u : St} {t p d c : Nat} (h : WT sd pc n s u t p d c) : TC sd s u t p d c := h.2.2.2.2.1
theorem WT.hp {sd : Nat → Nat → Nat} {pc n : Nat} {s u : St} {t p d c : Nat} (h : WT sd pc n s u t p d c) : p < pc := h.2.2.2.2.2.1
theorem WT.rn {sd : Nat → Nat → Nat} {pc n : Nat} {s u : St} {t p d c : Nat} (h : WT sd pc n s u t p d c) : s.1 38 t 0 = 1 := h.2.2.2.2.2.2
def Fc (s s' : St) : Prop := ∀ id, id = 16 ∨ (48 ≤ id ∧ id ≤ 76) ∨ (96 ≤ id ∧ id ≤ 99) ∨ 128 ≤ id → s'.1 id = s.1 id ∧ s'.2 id = s.2 id
def Fc0 (s s' : St) : Prop := ∀ id, (48 ≤ id ∧ id ≤ 76) ∨ (96 ≤ id ∧ id ≤ 99) ∨ 128 ≤ id → s'.1 id = s.1 id ∧ s'.2 id = s.2 id
theorem Fc.z {s s' : St} (h : Fc s s') : Fc0 s s' := fun id z => h id (Or.inr z)
theorem Fc0.trans {s s1 s2 : St} (h : Fc0 s s1) (h' : Fc0 s1 s2) : Fc0 s s2 := fun id hi => ⟨(h' id hi).1.trans (h id hi).1, (h' id hi).2.trans (h id hi).2⟩
def Fr (u u' : St) : Prop := ∀ id, 200 ≤ id → id ≤ 236 → u'.1 id 0 = u.1 id 0 ∧ u'.2 id 0 = u.2 id 0
theorem Fc.refl (s : St) : Fc s s := fun _ _ => ⟨rfl, rfl⟩
theorem Fr.refl (s : St) : Fr s s := fun _ _ _ => ⟨rfl, rfl⟩
theorem Fc.trans {s s1 s2 : St} (h : Fc s s1) (h' : Fc s1 s2) : Fc s s2 := fun id hi => ⟨(h' id hi).1.trans (h id hi).1, (h' id hi).2.trans (h id hi).2⟩
theorem Fr.trans {s s1 s2 : St} (h : Fr s s1) (h' : Fr s1 s2) : Fr s s2 := fun id h1 h2 => ⟨(h' id h1 h2).1.trans (h id h1 h2).1, (h' id h1 h2).2.trans (h id h1 h2).2⟩
theorem Ac.fc {t : Nat} {s s' : St} (h : Ac t s s') : Fc s s' := fun id hi => ⟨by funext o e; exact (h id o e (fun z => by unfold PC at z; omega)).1, by funext o e; exact (h id o e (fun z => by unfold PC at z; omega)).2⟩
theorem Ag.fr {t : Nat} {u u' : St} (h : Ag t u u') : Fr u u' := fun id h1 h2 => ⟨by funext e; exact (h id e (fun z => by unfold PT at z; omega)).1, by funext e; exact (h id e (fun z => by unfold PT at z; omega)).2⟩
theorem Fc.ap {s s' : St} (h : Fc s s') : AP s s' := fun id h1 h2 => (h id (by omega)).1
theorem Fr.ar {u u' : St} (h : Fr u u') : AR u u' := fun id h1 h2 => h id (by omega) (by omega)
theorem PP.to {sd : Nat → Nat → Nat} {s u s' u' : St} {pc : Nat} (h : PP sd s u pc) (f : Fc s s') (g : Fr u u') : PP sd s' u' pc :=
  ⟨h.1, by rw [(f 132 (by omega)).1]; exact h.2.1, by rw [(g 210 (by omega) (by omega)).1]; exact h.2.2.1, fun p hp => (h.2.2.2 p hp).to f.ap g.ar⟩
theorem WT.ev {sd : Nat → Nat → Nat} {pc n t p d c : Nat} {s u : St} (w : WT sd pc n s u t p d c) : EV sd s u t p :=
  ⟨Nat.lt_of_lt_of_le w.hp w.wc.pp.1, w.wc.pp.2.2.2 p w.hp, w.wc.nr, fun _ => w.nu, w.wc.gv, w.wc.ck⟩
theorem WR.wt {sd : Nat → Nat → Nat} {pc n t : Nat} {s u : St} (w : WR sd pc n s u) (ht : t < 6) (hr : s.1 38 t 0 = 1) : ∃ p d c, WT sd pc n s u t p d c ∧ PS sd s u t p d ∧ SP s t p d := by
  have h := w.th t ht
  rcases h.ru with ⟨r1, p, d, c, r2, T, P, Q⟩ | ⟨r1, I⟩
  · exact ⟨p, d, c, ⟨w.wc, fun g hg _ => w.th g hg, h.tb, h.nu, T, r2, r1⟩, P, Q⟩
  · exact absurd hr r1
theorem WT.wr {sd : Nat → Nat → Nat} {pc n t p d c : Nat} {s u : St} (w : WT sd pc n s u t p d c) (P : PS sd s u t p d) (Q : SP s t p d) : WR sd pc n s u :=
  ⟨w.wc, fun g hg => by
    by_cases h : g = t
    · subst h; exact ⟨w.tb, w.nu, Or.inl ⟨w.rn, p, d, c, w.hp, w.tc, P, Q⟩⟩
    · exact w.th g hg h⟩
theorem WT.cN {sd : Nat → Nat → Nat} {pc n t p d c : Nat} {s u : St} (w : WT sd pc n s u t p d c) (g : Nat) (hg : g < 6) : cN s g ≤ 22 := by
  by_cases h : g = t
  · subst h; rw [cN_of w.tc.rw.cs w.tc.rw.c22]; exact w.tc.rw.c22
  · exact (w.th g hg h).cN
theorem WC.fw {sd : Nat → Nat → Nat} {pc n t : Nat} {s u s' u' : St} (w : WC sd pc n s u) (ht : t < 6) (ac : Ac t s s') (ag : Ag t u u') (sb : SbR t s u s' u') (h44 : s'.1 44 t 0 = s.1 44 t 0) (hc : ∀ g, g < 6 → cN s g ≤ 22) (hG : GV s') (hN : NR s' u') : WC sd pc n s' u' :=
  ⟨hG, hN, by rw [(ac 16 0 0 (fun z => by unfold PC at z; omega)).1]; exact w.ck, w.pp.to ac.fc ag.fr, w.sg.fw ht ac ag sb h44 hc, fun b hb => by
    rw [(ac 114 0 b (fun z => by unfold PC at z; omega)).1, (ac 115 0 b (fun z => by unfold PC at z; omega)).2, (ag 238 b (fun z => by unfold PT at z; omega)).1, (ag 239 b (fun z => by unfold PT at z; omega)).2]; exact w.bx b hb⟩
theorem WT.fm {sd : Nat → Nat → Nat} {pc n t p d c d' c' : Nat} {s u s' u' : St} (w : WT sd pc n s u t p d c) (ht : t < 6) (f : Fm t s u s' u') (E : EV sd s' u' t p) (T : TC sd s' u' t p d' c') : WT sd pc n s' u' t p d' c' :=
  ⟨w.wc.fw ht f.ac f.ag f.sb (by rw [(f.ks 44 (by omega)).1]) w.cN E.gv E.nr, fun g hg hn => (w.th g hg hn).fw hn f.ac f.ag, w.tb.fm f, by rw [(f.ks 32 (by omega)).1]; exact w.nu, T, w.hp, by rw [(f.ks 38 (by omega)).1]; exact w.rn⟩
/-- a THROW, to its end -/
theorem sim_out {sd : Nat → Nat → Nat} {pc n t p d c : Nat} {s u : St} {x2 x5 : Int32} {v : Int64} (ht : t < 6) (w : WT sd pc n s u t p d c) (h44 : s.1 44 t 0 = -1) (hT : TF s t x2 v x5) :
    ∃ r y s' u', unwS t (dN s t) s = (y, s') ∧ r_throwOut_32 40 (nI t) x2 v x5 u = some (r, u') ∧ (∀ q, r_thrown r q = some (y, q)) ∧ WR sd pc n s' u' ∧ Fc s s' ∧ Fr u u' ∧ Cl u u' := by
  obtain ⟨r, y, s', u', r1, r2, F, B, E, r6⟩ := sim_unw ht d 40 s u c w.ev w.tc w.tb hT (by have := w.tc.d8; omega)
  have h44' := F.k44 h44
  refine ⟨r, y, s', u', by rw [dN_of w.tc.ds w.tc.d8]; exact r1, r2, fun q => ?_, ⟨w.wc.fw ht F.ac F.ag F.sb (h44'.trans h44.symm) w.cN E.gv E.nr, fun g hg => ?_⟩, F.ac.fc, F.ag.fr, F.cl⟩
  · unfold r_thrown
    rcases r6 with ⟨a1, a2, -⟩ | ⟨a1, a2, -⟩
    · rw [a1, a2, if_neg (by decide)]
    · rw [a1, a2, if_pos rfl]
  · by_cases hgt : g = t
    · subst hgt
      refine ⟨B, E.nu hg, ?_⟩
      rcases r6 with ⟨a1, a2, a3, d', c', T', P'⟩ | ⟨a1, a2, a3, I⟩
      · exact Or.inl ⟨a3.trans w.rn, p, d', c', w.hp, T', P', Or.inl h44'⟩
      · exact Or.inr ⟨by rw [a3]; decide, I⟩
    · exact (w.th g hg hgt).fw hgt F.ac F.ag
/-- the same from the reference's door, with no send under way -/
theorem sim_raise {sd : Nat → Nat → Nat} {pc n t p d c : Nat} {s u : St} {x2 x5 : Int32} {v : Int64} (ht : t < 6) (w : WT sd pc n s u t p d c) (h44 : s.1 44 t 0 = -1) (hT : TF s t x2 v x5) :
    ∃ y s' u', unwS t (dN s t) s = (y, s') ∧ (cal2 (r_throwOut (nI t) x2 v x5 u) fun v9 s8 => cal2 (r_thrown v9 s8) fun v11 s10 => some (v11, s10)) = some (y, u') ∧ (y = 1 ∨ y = 3) ∧ WR sd pc n s' u' ∧ Fc s s' ∧ Fr u u' ∧ Cl u u' := by
  obtain ⟨r, y, s', u', a1, a2, a3, a4⟩ := sim_out ht w h44 hT
  have h261 : u.1 261 0 t = 0 := by
    rcases w.wc.sg.se t ht with z | ⟨g, r, z1, z2, z3, -⟩
    · exact z.2
    · rw [h44] at z3; exact absurd z3.symm (nI_n1 (by omega))
  refine ⟨y, s', u', a1, ?_, ?_, a4⟩
  · unfold r_throwOut
    rw [gI (by omega) (by decide), nI_clamp (by omega), h261, if_pos (by decide), a2, cal2_s, a3, cal2_s]
  · have := a3 s
    unfold r_thrown at this
    split at this
    · exact Or.inr (by injection this with z; injection z with z _; exact z.symm)
    · exact Or.inl (by injection this with z; injection z with z _; exact z.symm)
theorem m32z (t : Nat) : (32 : Int32) * nI t = nI (32 * t) := by rw [show (32 : Int32) = nI 32 from rfl, pk_mul]
theorem tf_eq {s : St} {t c : Nat} (ht : t < 6) {X : St} (hX : brS s t = si X 44 t 0 (-1)) (h80 : X.1 80 t 0 = nI c) (hc : c ≤ 22) (h1 : 1 ≤ c) (h32 : X.1 32 t 0 = nI t) :
    tfS s t = tellS (remS (si (sl (si X 44 t 0 (-1)) 45 t 0 (X.2 83 t 0)) 46 t 0 (X.1 82 t 0)) t c 0) 0 1 (nI t) (X.2 83 t 0) := by
  have e3 : tf3 s t = remS (si (sl (si X 44 t 0 (-1)) 45 t 0 (X.2 83 t 0)) 46 t 0 (X.1 82 t 0)) t c 0 := by
    unfold tf3 tf2
    rw [hX, si_2, si_o (by decide)]
    exact rmS_at (q := 0) (by rw [si_o (by decide), sl_1, si_o (by decide)]; exact h80) hc (by omega)
  unfold tfS
  rw [e3, rem_o (by omega) (by omega), si_o (by decide), sl_1, si_o (by decide), h32, rem_o2 (by omega), si_2, sl_e]
/-- the first of the row is THROWN -/
theorem sim_take {sd : Nat → Nat → Nat} {pc n t p d c : Nat} {s u : St} (ht : t < 6) (w : WT sd pc n s u t p d c) (P : PS sd s u t p d) (Q : SP s t p d) (h1 : 1 ≤ c) :
    ∃ y s' u', unwS t (dN (tfS s t) t) (tfS s t) = (y, s') ∧ r_throwFirst (nI t) u = some (y, u') ∧ (y = 1 ∨ y = 3) ∧ WR sd pc n s' u' ∧ Fc s s' ∧ Fr u u' ∧ Cl u u' := by
  have W := w.wr P Q
  have hc := w.tc.rw.c22
  obtain ⟨X, hX, hD⟩ := sim_drop ht w.wc.gv W.th w.wc.sg
  have hD0 := hD u (fun _ _ _ _ => ⟨rfl, rfl⟩)
  obtain ⟨V0, -, D0⟩ := hD0
  have sxt : ∀ id e, X.1 id t e = s.1 id t e ∧ X.2 id t e = s.2 id t e := fun id e => D0.sx id t e (fun z => z.2 rfl)
  have hT := tf_eq ht hX (by rw [(sxt 80 0).1]; exact w.tc.rw.cs) hc h1 (by rw [(sxt 32 0).1]; exact w.nu)
  have GT : GV (tfS s t) := GV_tf w.wc.gv
  obtain ⟨w0, l, a1, a2, a3, a4, a5⟩ := w.tc.rw.en 0 (by omega)
  have hv : X.2 83 t 0 = u.2 257 0 (32 * t) := (sxt 83 0).2.trans a4
  -- the reference: out of the row, the note
  have rF := r_from t c 0 (by omega) hc (by omega) u w.tc.rw.cu
  have s4o : ∀ id o e, ¬ ((80 ≤ id ∧ id ≤ 83)) → ¬ (17 ≤ id ∧ id ≤ 21) → ¬ ((id = 44 ∨ id = 45 ∨ id = 46) ∧ o = t) → (tfS s t).1 id o e = s.1 id o e ∧ (tfS s t).2 id o e = s.2 id o e := fun id o e z1 z2 z3 => by
    rw [hT, (tell_c z2).1, (tell_c z2).2, rem_o (by omega) (by omega), rem_o2 (by omega), si_ne (fun q => z3 ⟨by omega, q.2.1⟩), sl_1, si_ne (fun q => z3 ⟨by omega, q.2.1⟩), si_2, sl_r, if_neg (fun q => z3 ⟨by omega, q.2.1⟩), si_2]
    exact D0.sx id o e (fun q => z1 q.1)
  have N1 : NR (remS (si (sl (si X 44 t 0 (-1)) 45 t 0 (X.2 83 t 0)) 46 t 0 (X.1 82 t 0)) t c 0) (frS u t c 0) := by
    refine w.wc.nr.lv (fun id z1 z2 => ⟨by funext o e; rw [rem_o (by omega) (by omega), si_o (by omega), sl_1, si_o (by omega)]; exact (D0.sx id o e (by omega)).1, by funext o e; rw [rem_o2 (by omega), si_2, sl_o (by omega)]; exact (D0.sx id o e (by omega)).2⟩) (fun id z => ⟨by rw [frS_id (by omega)], by funext e; exact (fr_k hc (by omega)).2⟩)
  have G1 : ¬ (remS (si (sl (si X 44 t 0 (-1)) 45 t 0 (X.2 83 t 0)) 46 t 0 (X.1 82 t 0)) t c 0).1 17 1 0 < 0 := by
    rw [rem_o (by omega) (by omega), si_o (by decide), sl_1, si_o (by decide), (D0.sx 17 1 0 (by omega)).1]; exact w.wc.gv.H 1
  obtain ⟨U, n1, n2, n3⟩ := sim_note (t := t) (k := 1) (x := nI t) (v := X.2 83 t 0) (by omega) N1 G1 (fun _ => rfl)
  rw [show co t = 0 by unfold co; rw [if_pos ht], ← hT] at n2
  have fU : NrU t u U := fun id e z1 z2 => by rw [(n3 id (by omega)).1, (n3 id (by omega)).2]; exact fr_k hc (fun q => z2 q)
  obtain ⟨V, hV, D⟩ := hD U fU
  have cU : Cl u V := (Cl_fr.trans n3.cl).trans D.cl
  have nV : NR (tfS s t) V := n2.lv (fun _ _ _ => ⟨rfl, rfl⟩) (fun id z => ⟨by funext e; exact (D.uv id e (by omega) (by omega)).1, by funext e; exact (D.uv id e (by omega) (by omega)).2⟩)
  have vO : ∀ id e, ¬ (255 ≤ id ∧ id ≤ 259) → ¬ (263 ≤ id ∧ id ≤ 267) → ¬ (id = 261 ∧ e = t) → V.1 id 0 e = u.1 id 0 e ∧ V.2 id 0 e = u.2 id 0 e := fun id e z1 z2 z3 => by
    have q1 := D.uv id e (fun q => z1 q.1) z3
    have q2 := fU id e z2 (fun q => z1 q.1)
    exact ⟨q1.1.trans q2.1, q1.2.trans q2.2⟩
  have fr : Fr u V := fun id z1 z2 => ⟨by funext e; exact (vO id e (by omega) (by omega) (by omega)).1, by funext e; exact (vO id e (by omega) (by omega) (by omega)).2⟩
  have fc : Fc s (tfS s t) := fun id z => ⟨by funext o e; exact (s4o id o e (by omega) (by omega) (by omega)).1, by funext o e; exact (s4o id o e (by omega) (by omega) (by omega)).2⟩
  have e16 : (tfS s t).1 16 0 0 = s.1 16 0 0 := (s4o 16 0 0 (by omega) (by omega) (by omega)).1
  -- the THREAD's own row
  have sr4 : Sr t (remS s t c 0) (tfS s t) := fun id e hi => by
    have q := rem_cong (X := si (sl (si X 44 t 0 (-1)) 45 t 0 (X.2 83 t 0)) 46 t 0 (X.1 82 t 0)) (s := s) (t := t) (c := c) (q := 0) (fun id e hi => ⟨by rw [si_o (by omega), sl_1, si_o (by omega)]; exact (sxt id e).1, by rw [si_2, sl_o (by omega)]; exact (sxt id e).2⟩) id e hi
    rw [hT, (tell_c (by omega)).1, (tell_c (by omega)).2]; exact q
  have ur4 : Ur t (frS u t c 0) V := fun id e hp hi => by
    have q1 := D.uv id e (fun q => q.2 hp) (by omega)
    rw [q1.1, q1.2, (n3 id (by omega)).1, (n3 id (by omega)).2]; exact ⟨rfl, rfl⟩
  have R4 : RwR (tfS s t) V t d (c - 1) := (RwR_rem w.tc.rw (by omega)).same sr4 ur4 (fun e => by rw [(s4o 4 t e (by omega) (by omega) (by omega)).1, rem_o (by omega) (by omega)])
  have T4 : TC sd (tfS s t) V t p d (c - 1) := w.tc.rowto (fun id e hi => s4o id t e (by omega) (by omega) (by omega)) (fc 64 (by omega)).1 (fc 70 (by omega)).1 (by rw [e16]; exact Nat.le_refl _) (fr 216 (by omega) (by omega)).1 (fr 220 (by omega) (by omega)).1 (fun id e hp hi => vO id e (by omega) (by omega) (by omega)) R4
  have x44 : (tfS s t).1 44 t 0 = -1 := by rw [hT, (tell_c (by decide)).1, rem_o (by omega) (by omega), si_o (by decide), sl_1, si_eq]
  have x45 : (tfS s t).2 45 t 0 = X.2 83 t 0 := by rw [hT, (tell_c (by decide)).2, rem_o2 (by omega), si_2, sl_e]
  have x46 : (tfS s t).1 46 t 0 = s.1 82 t 0 := by rw [hT, (tell_c (by decide)).1, rem_o (by omega) (by omega), si_eq]; exact (sxt 82 0).1
  have rows : ∀ h e, h ≠ t → ∀ id, 80 ≤ id ∧ id ≤ 83 → (tfS s t).1 id h e = X.1 id h e ∧ (tfS s t).2 id h e = X.2 id h e := fun h e hn id hi => by
    rw [hT, (tell_c (by omega)).1, (tell_c (by omega)).2, rem_o (fun q => hn q.2) (fun q => hn q.2), rem_o2 (fun q => hn q.2), si_o (by omega), sl_1, si_o (by omega), si_2, sl_o (by omega)]; exact ⟨rfl, rfl⟩
  have WT4 : WT sd pc n (tfS s t) V t p d (c - 1) := by
    refine ⟨⟨GT, nV, by rw [e16]; exact w.wc.ck, w.wc.pp.to fc fr, ⟨w.wc.sg.n30, ?_, fun g hg => ?_, fun g g' hg hg' => ?_, fun g k hg hk => ?_⟩, fun b hb => ?_⟩, fun g hg hn => ?_, ⟨?_, ?_, ?_, fun k hk => ?_⟩, ?_, T4, w.hp, ?_⟩
    · rw [(vO 260 0 (by omega) (by omega) (by omega)).1]; exact w.wc.sg.sr
    · by_cases hgt : g = t
      · subst hgt; exact Or.inl ⟨x44, D.z⟩
      · unfold SE
        rw [(s4o 44 g 0 (by omega) (by omega) (by omega)).1, (vO 261 g (by omega) (by omega) (by omega)).1, (vO 262 g (by omega) (by omega) (by omega)).1]; exact w.wc.sg.se g hg
    · intro e1 e2
      by_cases hgt : g = t
      · subst hgt; exact absurd D.z e2
      · by_cases hgt' : g' = t
        · subst hgt'; rw [D.z] at e1; exact absurd e1 e2
        · rw [(vO 261 g (by omega) (by omega) (by omega)).1] at e1 e2
          rw [(vO 261 g' (by omega) (by omega) (by omega)).1] at e1
          exact w.wc.sg.di g g' hg hg' e1 e2
    · have fin : ∀ k', k' < cN s g → (tfS s t).1 81 g k = s.1 81 g k' → V.1 259 0 (32 * g + k) = u.1 259 0 (32 * g + k') → ¬ (tfS s t).1 81 g k = nI t → RS (tfS s t) V g k := fun k' q1 q2 q3 q4 => by
        obtain ⟨w', b1, b2⟩ := w.wc.sg.rs g k' hg q1
        refine ⟨w', q2.trans b1, ?_⟩
        rcases b2 with ⟨b3, b4, b5, b6⟩ | ⟨b3, b4, b5⟩
        · have hwt : w' ≠ t := fun z => q4 (by rw [q2, b1, z])
          refine Or.inl ⟨b3, b4, ?_, ?_⟩
          · rw [(s4o 44 w' 0 (by omega) (by omega) (by omega)).1]; exact b5
          · rw [q3, b6, (vO 261 w' (by omega) (by omega) (by omega)).1]
        · exact Or.inr ⟨b3, b4, q3.trans b5⟩
      by_cases hgt : g = t
      · subst hgt
        have ecN : cN (tfS s g) g = c - 1 := cN_of R4.cs (by omega)
        rw [ecN] at hk
        have k81 : (tfS s g).1 81 g k = s.1 81 g (jx 0 k) := by rw [(sr4 81 k (by omega)).1, rem_1 (Or.inl rfl) hk]
        have kl := jx_lt (q := 0) hk
        refine fin (jx 0 k) (by rw [cN_of w.tc.rw.cs hc]; exact kl) k81 (by rw [(ur4 259 _ (PT.r (by omega) (by omega)) (by omega)).1, fr_1 (Or.inr (Or.inr rfl)) hk]) (fun z => ?_)
        obtain ⟨w', b1, b2⟩ := w.wc.sg.rs g (jx 0 k) hg (by rw [cN_of w.tc.rw.cs hc]; exact kl)
        have : w' = g := by
          rcases b2 with q | q <;> exact (nI_eq (by omega) (by omega)).mp (b1.symm.trans (k81.symm.trans z))
        rcases b2 with q | q
        · exact q.2.1 this
        · omega
      · have ecN : cN (tfS s t) g = cN X g := by unfold cN; rw [(rows g 0 hgt 80 (by omega)).1]
        rw [ecN] at hk
        obtain ⟨k', q1, q2, q3, q4⟩ := D.rs g hg hgt k hk
        exact fin k' q1 (by rw [(rows g k hgt 81 (by omega)).1]; exact q2) q3 (by rw [(rows g k hgt 81 (by omega)).1]; exact q4)
    · rw [(s4o 114 0 b (by omega) (by omega) (by omega)).1, (s4o 115 0 b (by omega) (by omega) (by omega)).2, (vO 238 b (by omega) (by omega) (by omega)).1, (vO 239 b (by omega) (by omega) (by omega)).2]; exact w.wc.bx b hb
    · refine (w.th g hg hn).to (fun id e hi => s4o id g e (by omega) (by omega) (by omega)) (fun id e hp hi => vO id e (by omega) (by omega) (by omega)) fc.ap fr.ar (by rw [e16]; exact Nat.le_refl _) (fun d' c' R' => ?_) (fun _ z1 z2 => ?_)
      · obtain ⟨c'', R''⟩ := D.ro g hg hn d' c' R'
        exact ⟨c'', R''.same (fun id e hi => rows g e hn id hi) (fun _ _ _ _ => ⟨rfl, rfl⟩) (fun e => by rw [(s4o 4 g e (by omega) (by omega) (by omega)).1, (D.sx 4 g e (by omega)).1])⟩
      · have := D.ri g hg hn z1 z2
        exact ⟨by rw [(rows g 0 hn 80 (by omega)).1]; exact this.1, this.2⟩
    · rw [(s4o 38 t 0 (by omega) (by omega) (by omega)).1, (vO 240 t (by omega) (by omega) (by omega)).1]; exact w.tb.st
    · rw [(s4o 40 t 0 (by omega) (by omega) (by omega)).1, (vO 243 t (by omega) (by omega) (by omega)).1]; exact w.tb.sp
    · rw [(s4o 43 t 0 (by omega) (by omega) (by omega)).2, (vO 244 t (by omega) (by omega) (by omega)).2]; exact w.tb.di
    · rw [(s4o 34 t k (by omega) (by omega) (by omega)).2, (vO 245 (10 * t + k) (by omega) (by omega) (by omega)).2]; exact w.tb.lo k hk
    · rw [(s4o 32 t 0 (by omega) (by omega) (by omega)).1]; exact w.nu
    · rw [(s4o 38 t 0 (by omega) (by omega) (by omega)).1]; exact w.rn
  have go : ∀ x2, TF (tfS s t) t x2 (X.2 83 t 0) (u.1 258 0 (32 * t)) → r_throwFirst (nI t) u = r_throwFirst_21 (nI t) (nI (32 * t)) x2 u → ∃ y s' u', unwS t (dN (tfS s t) t) (tfS s t) = (y, s') ∧ r_throwFirst (nI t) u = some (y, u') ∧ (y = 1 ∨ y = 3) ∧ WR sd pc n s' u' ∧ Fc s s' ∧ Fr u u' ∧ Cl u u' := fun x2 hTF hr => by
    obtain ⟨r, y, s', u', b1, b2, b3, b4, b5, b6, b7⟩ := sim_out ht WT4 x44 hTF
    refine ⟨y, s', u', b1, ?_, ?_, b4, fc.trans b5, fr.trans b6, cU.trans b7⟩
    · rw [hr]
      unfold r_throwFirst_21
      rw [gI (by omega) (by decide), nI_clamp (by omega), gI (by omega) (by decide), show (0 : Int32) = nI 0 from rfl, rF, cal_s, ← hv, n1, cal_s, hV, b2, cal2_s, b3, cal2_s]
    · have := b3 s
      unfold r_thrown at this
      split at this
      · exact Or.inr (by injection this with z; injection z with z _; exact z.symm)
      · exact Or.inl (by injection this with z; injection z with z _; exact z.symm)
  have r0 : r_throwFirst (nI t) u = if u.1 256 0 (32 * t) = 7 then r_throwFirst_21 (nI t) (nI (32 * t)) 1 u else r_throwFirst_21 (nI t) (nI (32 * t)) 0 u := by
    unfold r_throwFirst
    rw [m32z, gI (by omega) (by decide), nI_clamp (by omega)]
  rcases a5 with ⟨b1, b2, b3, b4⟩ | ⟨b1, b2⟩
  · refine go 1 ⟨x45, Or.inr ⟨rfl, l, b2, by rw [x46]; exact b3, b4⟩⟩ ?_
    rw [r0, if_pos (by rw [show u.1 256 0 (32 * t) = nI w0 from a3, b1]; rfl)]
  · refine go 0 ⟨x45, Or.inl ⟨rfl, by rw [x46]; exact b2⟩⟩ ?_
    rw [r0, if_neg (by rw [show u.1 256 0 (32 * t) = nI w0 from a3]; exact fun z => b1 ((nI_eq (b := 7) (by omega) (by decide)).mp z))]
