/-! out of bodies that are at their ends, on both sides -/
theorem KM.i {r k : Int32} (h : (r, k) ∈ KM) : (r = 0 ↔ k = 5) ∧ (r = 1 ↔ k = 6) ∧ (r = 3 ↔ k = 8) ∧ (r = 4 ↔ k = 9) ∧ (r = 6 ↔ k = 11) ∧ (r = 8 ↔ k = 13) ∧ (r = 9 ↔ k = 14) ∧ (r = 10 ↔ k = 15) ∧ (r = 11 ↔ k = 16) ∧ (r = 12 ↔ k = 17) ∧ (r = 13 ↔ k = 18) ∧ (r = 15 ↔ k = 20) ∧ (r = 18 ↔ k = 23) ∧ (r = 30 ↔ k = 2) := by
  unfold KM at h
  simp only [List.mem_cons, Prod.mk.injEq, List.not_mem_nil, or_false] at h
  rcases h with ⟨rfl, rfl⟩ | ⟨rfl, rfl⟩ | ⟨rfl, rfl⟩ | ⟨rfl, rfl⟩ | ⟨rfl, rfl⟩ | ⟨rfl, rfl⟩ | ⟨rfl, rfl⟩ | ⟨rfl, rfl⟩ | ⟨rfl, rfl⟩ | ⟨rfl, rfl⟩ | ⟨rfl, rfl⟩ | ⟨rfl, rfl⟩ | ⟨rfl, rfl⟩ | ⟨rfl, rfl⟩ <;> decide
theorem km3 {r k : Int32} (h : (r, k) ∈ KM) : r = 3 ↔ k = 8 := (KM.i h).2.2.1
theorem km13 {r k : Int32} (h : (r, k) ∈ KM) : r = 13 ↔ k = 18 := (KM.i h).2.2.2.2.2.2.2.2.2.2.1
theorem km15 {r k : Int32} (h : (r, k) ∈ KM) : r = 15 ↔ k = 20 := (KM.i h).2.2.2.2.2.2.2.2.2.2.2.1
theorem km18 {r k : Int32} (h : (r, k) ∈ KM) : r = 18 ↔ k = 23 := (KM.i h).2.2.2.2.2.2.2.2.2.2.2.2.1
theorem nI_n1 {a : Nat} (h : a < 2 ^ 31) : ¬ nI a = -1 := fun z => nI_pos h (by rw [z]; decide)
theorem nI_n2 {a : Nat} (h : a < 2 ^ 31) : ¬ nI a = -2 := fun z => nI_pos h (by rw [z]; decide)
theorem m9s {t d : Nat} (h : 1 ≤ d) : (9 : Int32) * nI t + nI d - 1 = nI (9 * t + (d - 1)) := by
  rw [m9, nI_s1 (by omega)]; congr 1; omega
/-! programs, while they stay -/
def AP (s s' : St) : Prop := ∀ id, 64 ≤ id → id ≤ 76 → s'.1 id = s.1 id
def AR (u u' : St) : Prop := ∀ id, 210 ≤ id → id ≤ 226 → u'.1 id 0 = u.1 id 0 ∧ u'.2 id 0 = u.2 id 0
theorem Ac.ap {t : Nat} {s s' : St} (h : Ac t s s') : AP s s' := fun id h1 h2 => by
  funext o e; exact (h id o e (fun z => by unfold PC at z; omega)).1
theorem Ag.ar {t : Nat} {u u' : St} (h : Ag t u u') : AR u u' := fun id h1 h2 => by
  have hn : ∀ e, ¬ PT t id e := fun e z => by unfold PT at z; omega
  exact ⟨funext fun e => (h id e (hn e)).1, funext fun e => (h id e (hn e)).2⟩
theorem evOK_eq {s s' : St} {p : Nat} (e75 : s'.1 75 = s.1 75) (e76 : s'.1 76 = s.1 76) : ∀ m k n, evOK s' p m k n = evOK s p m k n
  | 0, _, _ => rfl
  | m + 1, k, n => by
    unfold evOK wkn
    rw [e75, e76, evOK_eq e75 e76 m]
theorem PR.to {sd : Nat → Nat → Nat} {s u s' u' : St} {p : Nat} (h : PR sd s u p) (hs : AP s s') (hu : AR u u') : PR sd s' u' p := by
  unfold PR StR XpR CdR nS at *
  simp only [hs 64 (by decide) (by decide), hs 65 (by decide) (by decide), hs 66 (by decide) (by decide), hs 68 (by decide) (by decide), hs 69 (by decide) (by decide), hs 70 (by decide) (by decide), hs 71 (by decide) (by decide), hs 72 (by decide) (by decide), hs 73 (by decide) (by decide), hs 74 (by decide) (by decide), hs 75 (by decide) (by decide), hs 76 (by decide) (by decide),
    (hu 211 (by decide) (by decide)).1, (hu 212 (by decide) (by decide)).1, (hu 213 (by decide) (by decide)).1, (hu 214 (by decide) (by decide)).1, (hu 216 (by decide) (by decide)).1, (hu 217 (by decide) (by decide)).1, (hu 218 (by decide) (by decide)).1, (hu 219 (by decide) (by decide)).1, (hu 220 (by decide) (by decide)).1, (hu 221 (by decide) (by decide)).1, (hu 222 (by decide) (by decide)).1, (hu 223 (by decide) (by decide)).1, (hu 224 (by decide) (by decide)).1, (hu 225 (by decide) (by decide)).1, (hu 226 (by decide) (by decide)).2,
    evOK_eq (hs 75 (by decide) (by decide)) (hs 76 (by decide) (by decide))]
  exact h
/-- what a THREAD's way leaves as it was: s u before, s' u' after -/
def Fm (t : Nat) (s u s' u' : St) : Prop := (Ac t s s') ∧ (Ag t u u') ∧ (Cl u u') ∧ (∀ id, id = 32 ∨ id = 34 ∨ id = 37 ∨ id = 38 ∨ id = 40 ∨ id = 43 ∨ id = 44 → s'.1 id t = s.1 id t ∧ s'.2 id t = s.2 id t) ∧ (∀ id, id = 240 ∨ id = 243 ∨ id = 244 ∨ id = 245 → u'.1 id 0 = u.1 id 0 ∧ u'.2 id 0 = u.2 id 0) ∧ (SbR t s u s' u')
theorem Fm.ac {t : Nat} {s u s' u' : St} (h : Fm t s u s' u') : Ac t s s' := h.1
theorem Fm.ag {t : Nat} {s u s' u' : St} (h : Fm t s u s' u') : Ag t u u' := h.2.1
theorem Fm.cl {t : Nat} {s u s' u' : St} (h : Fm t s u s' u') : Cl u u' := h.2.2.1
theorem Fm.ks {t : Nat} {s u s' u' : St} (h : Fm t s u s' u') : ∀ id, id = 32 ∨ id = 34 ∨ id = 37 ∨ id = 38 ∨ id = 40 ∨ id = 43 ∨ id = 44 → s'.1 id t = s.1 id t ∧ s'.2 id t = s.2 id t := h.2.2.2.1
theorem Fm.ku {t : Nat} {s u s' u' : St} (h : Fm t s u s' u') : ∀ id, id = 240 ∨ id = 243 ∨ id = 244 ∨ id = 245 → u'.1 id 0 = u.1 id 0 ∧ u'.2 id 0 = u.2 id 0 := h.2.2.2.2.1
theorem Fm.sb {t : Nat} {s u s' u' : St} (h : Fm t s u s' u') : SbR t s u s' u' := h.2.2.2.2.2
theorem Fm.trans {t : Nat} {s u s1 u1 s2 u2 : St} (h : Fm t s u s1 u1) (h' : Fm t s1 u1 s2 u2) : Fm t s u s2 u2 :=
  ⟨h.ac.trans h'.ac, h.ag.trans h'.ag, h.cl.trans h'.cl, fun id hi => ⟨(h'.ks id hi).1.trans (h.ks id hi).1, (h'.ks id hi).2.trans (h.ks id hi).2⟩, fun id hi => ⟨(h'.ku id hi).1.trans (h.ku id hi).1, (h'.ku id hi).2.trans (h.ku id hi).2⟩, h.sb.trans h'.sb⟩
theorem Fm.refl {t : Nat} {s u : St} (hc : cN s t ≤ 22) : Fm t s u s u := ⟨Ac.refl t s, Ag.refl t u, Cl.refl u, fun _ _ => ⟨rfl, rfl⟩, fun _ _ => ⟨rfl, rfl⟩, SbR.eq rfl (fun _ => rfl) (fun _ _ => rfl) hc⟩
/-- a step that leaves the row alone -/
theorem Fm.mk1 {t : Nat} {s u s' u' : St} (hc : cN s t ≤ 22) (ac : Ac t s s') (ag : Ag t u u') (cl : Cl u u') (ks : ∀ id, id = 32 ∨ id = 34 ∨ id = 37 ∨ id = 38 ∨ id = 40 ∨ id = 43 ∨ id = 44 → s'.1 id t = s.1 id t ∧ s'.2 id t = s.2 id t)
    (ku : ∀ id, id = 240 ∨ id = 243 ∨ id = 244 ∨ id = 245 → u'.1 id 0 = u.1 id 0 ∧ u'.2 id 0 = u.2 id 0) (h0 : s'.1 80 t 0 = s.1 80 t 0) (h1 : ∀ k, s'.1 81 t k = s.1 81 t k) (h2 : ∀ k, k < 32 → u'.1 259 0 (32 * t + k) = u.1 259 0 (32 * t + k)) : Fm t s u s' u' := ⟨ac, ag, cl, ks, ku, SbR.eq h0 h1 h2 hc⟩
theorem LvK.ku {t : Nat} {u u' : St} (h : LvK t u u') : ∀ id, ¬ (id = 242 ∨ id = 246 ∨ (255 ≤ id ∧ id ≤ 259)) → u'.1 id 0 = u.1 id 0 ∧ u'.2 id 0 = u.2 id 0 := fun id hi => ⟨funext fun e => (h.1 id e hi).1, funext fun e => (h.1 id e hi).2⟩
/-- where a THREAD is -/
def PS (sd : Nat → Nat → Nat) (s u : St) (t p d : Nat) : Prop := XR sd p (nS s p) (s.1 3 t d) (u.1 241 0 t) d
/-- what stays true of the rest while one THREAD goes -/
def EV (sd : Nat → Nat → Nat) (s u : St) (t p : Nat) : Prop := (p < 12) ∧ (PR sd s u p) ∧ (NR s u) ∧ (t < 6 → s.1 32 t 0 = nI t) ∧ (GV s) ∧ (∃ n, n < 2 ^ 30 ∧ s.1 16 0 0 = nI n)
theorem EV.p12 {sd : Nat → Nat → Nat} {s u : St} {t p : Nat} (h : EV sd s u t p) : p < 12 := h.1
theorem EV.pr {sd : Nat → Nat → Nat} {s u : St} {t p : Nat} (h : EV sd s u t p) : PR sd s u p := h.2.1
theorem EV.nr {sd : Nat → Nat → Nat} {s u : St} {t p : Nat} (h : EV sd s u t p) : NR s u := h.2.2.1
theorem EV.nu {sd : Nat → Nat → Nat} {s u : St} {t p : Nat} (h : EV sd s u t p) : t < 6 → s.1 32 t 0 = nI t := h.2.2.2.1
theorem EV.gv {sd : Nat → Nat → Nat} {s u : St} {t p : Nat} (h : EV sd s u t p) : GV s := h.2.2.2.2.1
theorem EV.ck {sd : Nat → Nat → Nat} {s u : St} {t p : Nat} (h : EV sd s u t p) : ∃ n, n < 2 ^ 30 ∧ s.1 16 0 0 = nI n := h.2.2.2.2.2
theorem EV.to {sd : Nat → Nat → Nat} {s u s' u' : St} {t p : Nat} (h : EV sd s u t p) (f : Fm t s u s' u') (hN : NR s' u') (hG : GV s') : EV sd s' u' t p :=
  ⟨h.p12, h.pr.to f.ac.ap f.ag.ar, hN, fun h6 => by rw [(f.ks 32 (by omega)).1]; exact h.nu h6, hG, by rw [(f.ac 16 0 0 (fun z => by unfold PC at z; omega)).1]; exact h.ck⟩
theorem nS_to {s s' : St} (h : AP s s') (p : Nat) : nS s' p = nS s p := by unfold nS; rw [h 64 (by decide) (by decide)]
theorem NR.lv {s u s' u' : St} (h : NR s u) (hs : ∀ id, 16 ≤ id → id ≤ 21 → s'.1 id = s.1 id ∧ s'.2 id = s.2 id) (hk : ∀ id, id = 237 ∨ (263 ≤ id ∧ id ≤ 267) → u'.1 id 0 = u.1 id 0 ∧ u'.2 id 0 = u.2 id 0) : NR s' u' :=
  h.to (fun id h1 h2 => ⟨by rw [(hs id h1 h2).1], by rw [(hs id h1 h2).2]⟩) hk
theorem leave_n {s : St} {t : Nat} : ∀ id, 16 ≤ id → id ≤ 21 → (leaveS s t).1 id = s.1 id ∧ (leaveS s t).2 id = s.2 id := fun id h1 h2 =>
  ⟨leave_id (by omega) (by omega) (by omega) (by omega) (by omega) (by omega) (by omega), by funext o e; exact leave_2 (by omega)⟩
/-- a leave, with all that it leaves -/
theorem sim_lv {sd : Nat → Nat → Nat} {s u : St} {t p d c : Nat} (ht : t < 7) (E : EV sd s u t p) (h : TC sd s u t p d c) (hd : 1 ≤ d) : ∃ u' c', r_leave (nI t) u = some u' ∧ TC sd (leaveS s t) u' t p (d - 1) c' ∧ LvK t u u' ∧ Fm t s u (leaveS s t) u' ∧ EV sd (leaveS s t) u' t p := by
  obtain ⟨u', c', h1, h2, h3, h4⟩ := sim_leave ht E.p12 E.pr.n4.2 h hd
  have F : Fm t s u (leaveS s t) u' := ⟨Ac_leave, h3.2.1, h3.2.2.1, fun id hi => ⟨by rw [leave_id (by omega) (by omega) (by omega) (by omega) (by omega) (by omega) (by omega)], by funext e; exact leave_2 (by omega)⟩, fun id hi => h3.ku id (by omega), h4⟩
  exact ⟨u', c', h1, h2, h3, F, E.to F (E.nr.lv leave_n (fun id hi => h3.ku id (by omega))) (GV_leave E.gv (by rw [dN_of h.ds h.d8]; exact hd))⟩
theorem leave_3 {s : St} {t : Nat} : (leaveS s t).1 3 = s.1 3 := leave_id (by decide) (by decide) (by decide) (by decide) (by decide) (by decide) (by decide)
/-- behind a statement, on both sides -/
def bhU (u : St) (t A : Nat) : St := si u 241 0 t (u.1 217 0 A)
theorem beh_eq {s : St} {t p d a : Nat} (hds : s.1 41 t 0 = nI d) (h8 : d ≤ 8) (hp : s.1 37 t 0 = nI p) (h13 : p < 13) (h3 : s.1 3 t d = nI a) (ha : a < 40) : behS s t = si s 3 t d (s.1 73 p a) := by
  unfold behS aN
  rw [dN_of hds h8, pN_of hp h13, h3, if_neg (nI_pos (by omega)), nI_clamp (by omega)]
theorem sim_beh {sd : Nat → Nat → Nat} {s u : St} {t p d c a : Nat} (E : EV sd s u t p) (h : TC sd s u t p d c) (h3 : s.1 3 t d = nI a) (ha : a < nS s p) (hsd : sd p a = d) :
    TC sd (behS s t) (bhU u t (40 * p + a)) t p d c ∧ PS sd (behS s t) (bhU u t (40 * p + a)) t p d ∧ Fm t s u (behS s t) (bhU u t (40 * p + a)) ∧ EV sd (behS s t) (bhU u t (40 * p + a)) t p := by
  have h8 := h.d8
  have h12 := E.p12
  have hc := h.rw.c22
  have hG := GV_beh (i := t) E.gv
  have n40 := E.pr.n4.2
  rw [beh_eq h.ds h8 h.hp (by omega) h3 (by omega)] at *
  unfold bhU
  have F : Fm t s u (si s 3 t d (s.1 73 p a)) (si u 241 0 t (u.1 217 0 (40 * p + a))) :=
    Fm.mk1 (by rw [cN_of h.rw.cs hc]; exact hc) ((Ac.refl t s).si (PC.a (by omega))) ((Ag.refl t u).si (PT.a (by omega))) ((Cl.refl u).si (by decide)) (fun id hi => ⟨by rw [si_id (by omega)], rfl⟩) (fun id hi => ⟨by rw [si_id (by omega)], rfl⟩) (si_o (by decide)) (fun k => si_o (by decide)) (fun k _ => si_o (by decide))
  refine ⟨h.to (fun id e hi => ⟨?_, rfl⟩) (by rw [si_id (by decide)]) (by rw [si_id (by decide)]) (by rw [si_o (by decide)]; exact Nat.le_refl _) (by rw [si_id (by decide)]) (by rw [si_id (by decide)]) (fun id e _ hi => ⟨si_o (by omega), rfl⟩), ?_, F, E.to F (E.nr.lv (fun id _ _ => ⟨si_id (by omega), rfl⟩) (fun id _ => ⟨by rw [si_id (by omega)], rfl⟩)) hG⟩
  · by_cases e3 : id = 3
    · subst e3; exact si_q (by omega)
    · exact si_o e3
  · unfold PS
    rw [si_eq, si_eq, nS_to F.ac.ap]
    have := (E.pr.st a ha).nx
    rw [hsd] at this; exact this
def mu (s : St) (t : Nat) : Nat → Nat
  | 0 => 0
  | b + 1 => (3 - (s.1 1 t (b + 1)).toNatClampNeg) + mu s t b
theorem mu_to {s s' : St} {t : Nat} : ∀ d, (∀ b, 1 ≤ b → b ≤ d → s'.1 1 t b = s.1 1 t b) → mu s' t d = mu s t d
  | 0, _ => rfl
  | d + 1, h => by
    unfold mu
    rw [h (d + 1) (by omega) (by omega), mu_to d (fun b h1 h2 => h b h1 (by omega))]
theorem mu_le {s : St} {t : Nat} : ∀ d, mu s t d ≤ 3 * d
  | 0 => Nat.le_refl _
  | d + 1 => by
    unfold mu
    have := mu_le (s := s) (t := t) d
    omega
theorem tell_c {s : St} {o id : Nat} {x1 x2 : Int32} {x3 : Int64} (h : ¬ (17 ≤ id ∧ id ≤ 21)) : (tellS s o x1 x2 x3).1 id = s.1 id ∧ (tellS s o x1 x2 x3).2 id = s.2 id :=
  ⟨tell_id (by omega) (by omega) (by omega) (by omega), tell_2 (by omega)⟩
theorem Ac_tell {s : St} {t o : Nat} {x1 x2 : Int32} {x3 : Int64} : Ac t s (tellS s o x1 x2 x3) := fun id o' e hn => by
  have h : ¬ (17 ≤ id ∧ id ≤ 21) := fun z => hn (Or.inr (Or.inl z))
  rw [(tell_c h).1, (tell_c h).2]; exact ⟨rfl, rfl⟩
theorem NtK.cl {u u' : St} (h : NtK u u') : Cl u u' := fun id hi => h id (by omega)
theorem NtK.ag {t : Nat} {u u' : St} (h : NtK u u') : Ag t u u' := fun id e hn => by
  have := h id (fun z => hn (Or.inr (Or.inr (Or.inr (Or.inr ⟨z.1, by omega⟩)))))
  rw [this.1, this.2]; exact ⟨rfl, rfl⟩
theorem leave_eq0 {s : St} {t d : Nat} (hds : s.1 41 t 0 = nI d) (h1 : 1 ≤ d) (h8 : d ≤ 8) (h4 : s.1 4 t d = 0) : leaveS s t = si (si (si s 4 t d 0) 39 t 0 (s.1 2 t d)) 41 t 0 (nI (d - 1)) := by
  rw [leaveS_eq hds h1 h8, if_neg (by rw [h4]; decide), if_neg (by rw [h4]; decide)]
theorem over_eq {s : St} {t p d a q : Nat} {y : Int32} (hp : s.1 37 t 0 = nI p) (h13 : p < 13) (h0 : s.1 0 t d = nI a) (ha : a < 40) : overS s t d q y = si (si (si (si (si s 1 t d (nI q)) 3 t d (s.1 74 p (3 * a + q))) 4 t d 0) 6 t d 0) 39 t 0 y := by
  unfold overS enterPartS oN
  rw [pN_of hp h13, h0, nI_clamp (by omega)]
/-- from one body of a statement to another one of it -/
theorem over_core {sd : Nat → Nat → Nat} {s u u1 u2 s' : St} {t p e c c' a w q : Nat} {x : Int32} (E : EV sd s u t p) (h : TC sd s u t p (e + 1) c) (L : LvR sd s u t p (e + 1) a w) (h4 : s.1 4 t (e + 1) = 0)
    (h1 : TC sd (leaveS s t) u1 t p e c') (hK : LvK t u u1) (hF : SbR t s u (leaveS s t) u1) (hN : ∀ id, ¬ (id = 245 ∨ (263 ≤ id ∧ id ≤ 267)) → u2.1 id = u1.1 id ∧ u2.2 id = u1.2 id) (hq : q < 3) (hb : u.1 220 0 (3 * (40 * p + a) + q) = 1) (hk : ¬ (u.1 216 0 (40 * p + a) = 18 ∧ q = 0))
    (hs : ∀ id, ¬ (id = 34 ∨ (17 ≤ id ∧ id ≤ 21)) → s'.1 id = (overS s t (e + 1) q x).1 id ∧ s'.2 id = (overS s t (e + 1) q x).2 id) (ac : Ac t s s') :
    TC sd s' (giU u2 t e (40 * p + a) q x) t p (e + 1) c' ∧ PS sd s' (giU u2 t e (40 * p + a) q x) t p (e + 1) ∧ SbR t s u s' (giU u2 t e (40 * p + a) q x) := by
  have h8 := h.d8
  have h12 := E.p12
  have n40 := E.pr.n4.2
  have ha := L.1.1
  have hc := h.rw.c22
  rw [over_eq h.hp (by omega) L.2.1.1 (by omega)] at hs
  have eL := leave_eq0 h.ds (by omega) h8 h4
  have so : ∀ id, ¬ (id = 34 ∨ (17 ≤ id ∧ id ≤ 21)) → ¬ (id = 1 ∨ id = 3 ∨ id = 4 ∨ id = 6 ∨ id = 39) → s'.1 id = s.1 id ∧ s'.2 id = s.2 id := fun id z1 z2 =>
    ⟨by rw [(hs id z1).1, si_id (by omega), si_id (by omega), si_id (by omega), si_id (by omega), si_id (by omega)], (hs id z1).2⟩
  have sk : ∀ id k, id ≤ 8 → k ≠ e + 1 → s'.1 id t k = s.1 id t k ∧ s'.2 id t k = s.2 id t k := fun id k z1 z2 =>
    ⟨by rw [(hs id (by omega)).1, si_o (by omega), si_ne (fun z => z2 z.2.2), si_ne (fun z => z2 z.2.2), si_ne (fun z => z2 z.2.2), si_ne (fun z => z2 z.2.2)], by rw [(hs id (by omega)).2]; rfl⟩
  have s4 : s'.1 4 t (e + 1) = 0 := by rw [(hs 4 (by omega)).1, si_o (by decide), si_o (by decide), si_eq]
  have lk : ∀ id k, (id ≤ 8 ∧ k ≠ e + 1) ∨ id = 37 ∨ (80 ≤ id ∧ id ≤ 83) → (leaveS s t).1 id t k = s.1 id t k ∧ (leaveS s t).2 id t k = s.2 id t k := fun id k z => by
    rw [eL]
    refine ⟨?_, rfl⟩
    rw [si_o (by omega), si_o (by omega)]
    by_cases z4 : id = 4
    · subst z4; exact si_q (by omega)
    · exact si_o z4
  have T0 : TC sd (leaveS s t) u2 t p e c' := h1.to (fun _ _ _ => ⟨rfl, rfl⟩) rfl rfl (Nat.le_refl _) (by rw [(hN 216 (by omega)).1]) (by rw [(hN 220 (by omega)).1]) (fun id e _ hi => by rw [(hN id (by omega)).1, (hN id (by omega)).2]; exact ⟨rfl, rfl⟩)
  have uk : ∀ id e', ¬ (id = 242 ∨ id = 245 ∨ id = 246 ∨ (255 ≤ id ∧ id ≤ 259) ∨ (263 ≤ id ∧ id ≤ 267)) → u2.1 id 0 e' = u.1 id 0 e' ∧ u2.2 id 0 e' = u.2 id 0 e' := fun id e' z => by
    rw [(hN id (by omega)).1, (hN id (by omega)).2]; exact hK.1 id e' (by omega)
  refine ⟨TC_enter (s0 := leaveS s t) T0 (by omega) (by rw [nS_to Ac_leave.ap]; exact ha) hq (by rw [(uk 220 _ (by omega)).1]; exact hb) L.2.2.2.2.1.2 (by rw [leave_3]; exact L.2.1.2.1) (fun id k z => ?_) ?_ ?_ ?_ ?_ ?_ ?_ ?_ ?_ ?_ ?_ ?_, ?_, ?_⟩
  · rw [(lk id k z).1, (lk id k z).2]
    rcases z with ⟨z1, z2⟩ | z
    · exact sk id k z1 z2
    · rw [(so id (by omega) (by omega)).1, (so id (by omega) (by omega)).2]; exact ⟨rfl, rfl⟩
  · rw [ac.ap 64 (by decide) (by decide), Ac_leave.ap 64 (by decide) (by decide)]
  · rw [ac.ap 70 (by decide) (by decide), Ac_leave.ap 70 (by decide) (by decide)]
  · rw [(so 16 (by omega) (by omega)).1, leave_id (by decide) (by decide) (by decide) (by decide) (by decide) (by decide) (by decide)]
  · rw [(so 0 (by omega) (by omega)).1]; exact L.2.1.1
  · rw [(hs 1 (by omega)).1, si_o (by decide), si_o (by decide), si_o (by decide), si_o (by decide), si_eq]
  · rw [(so 2 (by omega) (by omega)).1, eL, si_o (by decide), si_eq]
  · rw [(hs 6 (by omega)).1, si_o (by decide), si_eq]
  · rw [(hs 39 (by omega)).1, si_eq]
  · rw [(so 41 (by omega) (by omega)).1]; exact h.ds
  · refine Or.inr ⟨?_, s4, ?_, gi_251⟩
    · rw [gi_o (by omega), (uk 216 _ (by omega)).1]; exact hk
    · rw [gi_250]; unfold giD; rw [(uk 216 _ (by omega)).1, if_neg hk]
  · rw [(so 42 (by omega) (by omega)).1, h.aw, s4, if_neg (by decide), Nat.zero_add, cntA_to (s := s) (s' := leaveS s t) e (fun b z1 z2 => (lk 4 b (by omega)).1)]
    show nI ((if s.1 4 t (e + 1) = 1 then 1 else 0) + cntA s t e) = _
    rw [h4, if_neg (by decide), Nat.zero_add]
  · unfold PS
    rw [gi_241, nS_to ac.ap, (hs 3 (by omega)).1, si_o (by decide), si_o (by decide), si_o (by decide), si_eq, (uk 219 _ (by omega)).1]
    rcases (E.pr.st a ha).bd q hq with z | z
    · exact absurd (hb.symm.trans z.2) (by decide)
    · have := z.2.2; rw [L.2.2.2.2.1.2] at this; exact this
  · refine SbR.trans (s1 := leaveS s t) (u1 := u1) hF (SbR.eq ?_ (fun k => ?_) (fun k _ => ?_) ?_)
    · rw [(so 80 (by omega) (by omega)).1, (lk 80 0 (by omega)).1]
    · rw [(so 81 (by omega) (by omega)).1, (lk 81 k (by omega)).1]
    · rw [gi_o (by omega), (hN 259 (by omega)).1]
    · rw [cN_of h1.rw.cs h1.rw.c22]; exact h1.rw.c22
theorem Ac_over {s : St} {t b q : Nat} {y : Int32} : Ac t s (overS s t b q y) := by
  unfold overS enterPartS
  exact (((((Ac.refl t s).si (PC.a (by omega))).si (PC.a (by omega))).si (PC.a (by omega))).si (PC.a (by omega))).si (PC.a (by omega))
theorem sim_over {sd : Nat → Nat → Nat} {s u u1 u2 s' : St} {t p e c c' a w q : Nat} {x : Int32} (E : EV sd s u t p) (h : TC sd s u t p (e + 1) c) (L : LvR sd s u t p (e + 1) a w) (h4 : s.1 4 t (e + 1) = 0)
    (h1 : TC sd (leaveS s t) u1 t p e c') (hK : LvK t u u1) (hF : Fm t s u (leaveS s t) u1) (hN : NtK u1 u2) (hq : q < 3) (hb : u.1 220 0 (3 * (40 * p + a) + q) = 1) (hk : ¬ (u.1 216 0 (40 * p + a) = 18 ∧ q = 0))
    (hs : ∀ id, ¬ (17 ≤ id ∧ id ≤ 21) → s'.1 id = (overS s t (e + 1) q x).1 id ∧ s'.2 id = (overS s t (e + 1) q x).2 id) :
    TC sd s' (giU u2 t e (40 * p + a) q x) t p (e + 1) c' ∧ PS sd s' (giU u2 t e (40 * p + a) q x) t p (e + 1) ∧ Fm t s u s' (giU u2 t e (40 * p + a) q x) := by
  have h8 := h.d8
  have ac : Ac t s s' := fun id o k hn => by
    have z : ¬ (17 ≤ id ∧ id ≤ 21) := fun z => hn (Or.inr (Or.inl z))
    rw [(hs id z).1, (hs id z).2]
    exact Ac_over id o k hn
  obtain ⟨A, B, C⟩ := over_core E h L h4 h1 hK hF.sb (fun id z => hN id (by omega)) hq hb hk (fun id z => hs id (by omega)) ac
  refine ⟨A, B, ac, (hF.ag.trans hN.ag).trans (Ag_gi (by omega)), (hF.cl.trans hN.cl).trans Cl_gi, fun id hi => ?_, fun id hi => ?_, C⟩
  · rw [(hs id (by omega)).1, (hs id (by omega)).2, over_id (by omega) (by omega) (by omega) (by omega) (by omega)]; exact ⟨rfl, rfl⟩
  · rw [gi_id (by omega), gi_o2 (by omega), (hN id (by omega)).1, (hN id (by omega)).2]; exact hF.ku id hi
theorem si_comm {s : St} {a o e b o2 e2 : Nat} {x y : Int32} (h : a ≠ b) : si (si s a o e x) b o2 e2 y = si (si s b o2 e2 y) a o e x := by
  refine Prod.ext ?_ rfl
  funext i j k
  show (if i = b ∧ j = o2 ∧ k = e2 then y else if i = a ∧ j = o ∧ k = e then x else s.1 i j k) = (if i = a ∧ j = o ∧ k = e then x else if i = b ∧ j = o2 ∧ k = e2 then y else s.1 i j k)
  by_cases h1 : i = a ∧ j = o ∧ k = e
  · rw [if_pos h1, if_pos h1, if_neg (fun z => h (h1.1.symm.trans z.1))]
  · rw [if_neg h1, if_neg h1]
theorem at_least (x : Int32) (s : St) : r_atLeast x 1 s = some (mx x 1, s) := by
  unfold r_atLeast mx
  by_cases h : x ≤ 1
  · rw [if_pos h]
    by_cases h2 : x < 1
    · rw [if_pos h2]
    · rw [if_neg h2, Int32.le_antisymm h (Int32.not_lt.mp h2)]
  · rw [if_neg h, if_neg (fun z => h (Int32.le_of_lt z))]
/-- what is to be THROWN on -/
def ThR (s u : St) (t d : Nat) : Prop := s.2 45 t 0 = u.2 253 0 (9 * t + d) ∧ ((u.1 252 0 (9 * t + d) = 1 ∧ s.1 46 t 0 = 0) ∨ (u.1 252 0 (9 * t + d) = 2 ∧ ∃ o, o < 8 ∧ s.1 46 t 0 = nI (o + 1) ∧ u.1 254 0 (9 * t + d) = nI o))
theorem kd_eq {s : St} {t p d a : Nat} (hp : s.1 37 t 0 = nI p) (h13 : p < 13) (h0 : s.1 0 t d = nI a) (ha : a < 40) : kdN s t d = s.1 68 p a := by
  unfold kdN oN
  rw [pN_of hp h13, h0, nI_clamp (by omega)]
theorem sim_settle {sd : Nat → Nat → Nat} {t p : Nat} (ht : t < 7) : ∀ (m n : Nat) (s u : St) (d c : Nat), EV sd s u t p → TC sd s u t p d c → PS sd s u t p d → mu s t d ≤ m → m < n →
    ∃ v s' u' d' c', setS t m s = (v, s') ∧ r_settle_0 n (nI t) u = some (v, u') ∧ TC sd s' u' t p d' c' ∧ Fm t s u s' u' ∧ EV sd s' u' t p ∧ ((v = 0 ∧ PS sd s' u' t p d' ∧ (d' = 0 ∨ s'.1 3 t d' ≠ -1)) ∨ (v = 1 ∧ ThR s' u' t d' ∧ ∃ a, a < nS s' p ∧ s'.1 3 t d' = nI a)) := by
  intro m
  induction m with
  | zero =>
    intro n s u d c E h hP hm hn
    obtain ⟨n, rfl⟩ : ∃ q, n = q + 1 := ⟨n - 1, by omega⟩
    have hc := h.rw.c22
    have hd : d = 0 := by
      rcases Nat.eq_zero_or_pos d with z | z
      · exact z
      · obtain ⟨e, rfl⟩ : ∃ e, d = e + 1 := ⟨d - 1, by omega⟩
        obtain ⟨a, w, L⟩ := h.lv (e + 1) (by omega) (Nat.le_refl _)
        have hw := L.1.2
        unfold mu at hm
        rw [L.2.2.1.1, nI_clamp (by omega)] at hm
        omega
    subst hd
    refine ⟨0, s, u, 0, c, rfl, ?_, h, Fm.refl (by rw [cN_of h.rw.cs hc]; exact hc), E, Or.inl ⟨rfl, hP, Or.inl rfl⟩⟩
    rw [r_settle_0.eq_2, gI (by omega) (by decide), nI_clamp (by omega)]
    split
    · rfl
    · rw [gI (by omega) (by decide), h.du, if_pos (by decide)]
  | succ m ih =>
    intro n s u d c E h hP hm hn
    obtain ⟨n, rfl⟩ : ∃ q, n = q + 1 := ⟨n - 1, by omega⟩
    have hc := h.rw.c22
    have h8 := h.d8
    have h12 := E.p12
    have n40 := E.pr.n4.2
    have hdN : dN s t = d := dN_of h.ds h8
    rw [setS.eq_2, hdN, h.ds]
    rcases hP with ⟨p1, p2⟩ | ⟨a0, q1, q2, q3, q4⟩
    · rcases Nat.eq_zero_or_pos d with z | z
      · subst z
        refine ⟨0, s, u, 0, c, by rw [if_pos (Or.inl (by decide))], ?_, h, Fm.refl (by rw [cN_of h.rw.cs hc]; exact hc), E, Or.inl ⟨rfl, Or.inl ⟨p1, p2⟩, Or.inl rfl⟩⟩
        rw [r_settle_0.eq_2, gI (by omega) (by decide), nI_clamp (by omega), p2, if_neg (by decide), gI (by omega) (by decide), h.du, if_pos (by decide)]
      · obtain ⟨e, rfl⟩ : ∃ e, d = e + 1 := ⟨d - 1, by omega⟩
        obtain ⟨a, w, L⟩ := h.lv (e + 1) (by omega) (Nat.le_refl _)
        have hw := L.1.2
        have ha := L.1.1
        have S := E.pr.st a ha
        obtain ⟨u1, c1, l1, T1, K1, F1, E1⟩ := sim_lv ht E h (by omega)
        have T1 : TC sd (leaveS s t) u1 t p e c1 := T1
        have kk : kdN s t (e + 1) = s.1 68 p a := kd_eq h.hp (by omega) L.2.1.1 (by omega)
        have e216 : u1.1 216 0 (40 * p + a) = u.1 216 0 (40 * p + a) := (K1.1 216 _ (by omega)).1
        have hsd : sd p a = e := L.2.2.2.2.1.2
        have hmu : mu s t (e + 1) = (3 - w) + mu s t e := by
          show (3 - (s.1 1 t (e + 1)).toNatClampNeg) + mu s t e = _
          rw [L.2.2.1.1, nI_clamp (by omega)]
        have muL : mu (leaveS s t) t e = mu s t e := mu_to e (fun b _ _ => by rw [leave_id (by decide) (by decide) (by decide) (by decide) (by decide) (by decide) (by decide)])
        have R : r_settle_0 (n + 1) (nI t) u = if u.1 216 0 (40 * p + a) = 3 then r_settle_0 n (nI t) (si u1 241 0 t (nI (40 * p + a))) else if u.1 216 0 (40 * p + a) = 15 then (if nI w = 0 then (cal (r_note0 2 (nI t) 0 u1) fun s22 => grd (ib (nI t) 7) (s22.1 242 0 (nI t).toNatClampNeg) fun v24 => cal (r_goIn (nI t) (nI (40 * p + a)) 1 v24 s22) fun s25 => r_settle_0 n (nI t) s25) else r_settle_111 (r_settle_0 n) (nI t) (nI (9 * t + e)) (nI (40 * p + a)) (nI w) u1) else r_settle_111 (r_settle_0 n) (nI t) (nI (9 * t + e)) (nI (40 * p + a)) (nI w) u1 := by
          rw [r_settle_0.eq_2, gI (by omega) (by decide), nI_clamp (by omega), p2, if_neg (by decide), gI (by omega) (by decide), h.du, if_neg (nI_nle (by omega) (by omega)), gI (by omega) (by decide), m9s (by omega), gI (by omega) (by decide), nI_clamp (by omega), L.2.1.2.2, gI (by omega) (by decide), L.2.2.1.2, l1, cal_s, gI (by omega) (by decide), nI_clamp (by omega), e216, gI (by omega) (by decide), gI (by omega) (by decide)]
          rfl
        have hcond : ¬ (nI (e + 1) ≤ 0 ∨ ¬ s.1 3 t (e + 1) = -1) := fun z => z.elim (nI_nle (by omega) (by omega)) (fun z => z p1)
        rw [if_neg hcond, kk, L.2.2.1.1, R]
        by_cases k15 : u.1 216 0 (40 * p + a) = 15
        · have k20 := (km15 S.kd).mp k15
          have k3 : ¬ u.1 216 0 (40 * p + a) = 3 := by rw [k15]; decide
          have k18 : ¬ u.1 216 0 (40 * p + a) = 18 := by rw [k15]; decide
          have k8 : ¬ s.1 68 p a = 8 := by rw [k20]; decide
          have h4 : s.1 4 t (e + 1) = 0 := by
            rcases L.2.2.2.2.2.1 with z | z
            · exact absurd z.1 k18
            · exact z.2.1
          rw [if_neg k3, if_pos k15]
          rcases (show w = 0 ∨ w = 1 ∨ w = 2 by omega) with rfl | rfl | rfl
          · rw [if_pos (show nI 0 = 0 from rfl), if_pos ⟨k20, by decide⟩]
            have hb1 := S.b1 (by rw [k20]; decide)
            have NO : NR (overS s t (e + 1) 1 (s.1 2 t (e + 1))) u1 := E.nr.lv (fun id z1 z2 => ⟨over_id (by omega) (by omega) (by omega) (by omega) (by omega), rfl⟩) (fun id hi => K1.ku id (by omega))
            have GO : GV (overS s t (e + 1) 1 (s.1 2 t (e + 1))) := GV_over E.gv (by decide) (E.gv 2 t (e + 1) : okN 3 _)
            obtain ⟨u2, n1, n2, n3⟩ := sim_note (k := 2) (x := (overS s t (e + 1) 1 (s.1 2 t (e + 1))).1 32 t 0) (v := 0) ht NO (GO.H 1) (fun h6 => by rw [over_id (by decide) (by decide) (by decide) (by decide) (by decide)]; exact E.nu h6)
            have x242 : u2.1 242 0 t = s.1 2 t (e + 1) := by
              rw [(n3 242 (by omega)).1, ← T1.st, leave_eq0 h.ds (by omega) h8 h4, si_o (by decide), si_eq]
            rw [n1, cal_s, gI (by omega) (by decide), nI_clamp (by omega), x242, show (1 : Int32) = nI 1 from rfl, r_goIn_eq (d := e) ht (by omega) (by omega) (by decide) (by rw [(n3 246 (by omega)).1]; exact T1.du), cal_s]
            obtain ⟨T2, P2, F2⟩ := sim_over (q := 1) (x := s.1 2 t (e + 1)) (s' := tellS (overS s t (e + 1) 1 (s.1 2 t (e + 1))) (co t) 2 ((overS s t (e + 1) 1 (s.1 2 t (e + 1))).1 32 t 0) 0) E h L h4 T1 K1 F1 n3 (by decide) hb1 (fun z => k18 z.1) (fun id z => tell_c z)
            have E2 := E.to F2 (n2.lv (fun _ _ _ => ⟨rfl, rfl⟩) (fun id hi => ⟨by rw [gi_id (by omega)], by rw [gi_o2 (by omega)]⟩)) (GV_tell GO)
            have s1' : (tellS (overS s t (e + 1) 1 (s.1 2 t (e + 1))) (co t) 2 ((overS s t (e + 1) 1 (s.1 2 t (e + 1))).1 32 t 0) 0).1 1 = (overS s t (e + 1) 1 (s.1 2 t (e + 1))).1 1 := (tell_c (by decide)).1
            have mu2 : mu (tellS (overS s t (e + 1) 1 (s.1 2 t (e + 1))) (co t) 2 ((overS s t (e + 1) 1 (s.1 2 t (e + 1))).1 32 t 0) 0) t (e + 1) = 2 + mu s t e := by
              show (3 - ((tellS (overS s t (e + 1) 1 (s.1 2 t (e + 1))) (co t) 2 ((overS s t (e + 1) 1 (s.1 2 t (e + 1))).1 32 t 0) 0).1 1 t (e + 1)).toNatClampNeg) + _ = _
              rw [s1', over_eq h.hp (by omega) L.2.1.1 (by omega), si_o (by decide), si_o (by decide), si_o (by decide), si_o (by decide), si_eq, nI_clamp (by decide), mu_to (s := s) e (fun b z1 z2 => by rw [(tell_c (by decide)).1, si_o (by decide), si_o (by decide), si_o (by decide), si_o (by decide), si_q (by omega)])]
            obtain ⟨v, s3, u3, d3, c3, r1, r2, r3, r4, r5, r6⟩ := ih n _ _ _ _ E2 T2 P2 (by rw [mu2]; omega) (by omega)
            exact ⟨v, s3, u3, d3, c3, r1, r2, r3, F2.trans r4, r5, r6⟩
          · rw [if_neg (show ¬ nI 1 = 0 by decide), if_neg (fun z => absurd z.2 (by decide)), if_pos ⟨k20, by decide⟩]
            have hb2 := S.b2 k20
            unfold lastS
            have NO : NR (overS s t (e + 1) 2 (mx (s.1 2 t (e + 1)) 1)) u1 := E.nr.lv (fun id z1 z2 => ⟨over_id (by omega) (by omega) (by omega) (by omega) (by omega), rfl⟩) (fun id hi => K1.ku id (by omega))
            have GO : GV (overS s t (e + 1) 2 (mx (s.1 2 t (e + 1)) 1)) := GV_over E.gv (by decide) (okN_mx (E.gv 2 t (e + 1) : okN 3 _))
            obtain ⟨u2, n1, n2, n3⟩ := sim_note (k := 3) (x := (overS s t (e + 1) 2 (mx (s.1 2 t (e + 1)) 1)).1 32 t 0) (v := 0) ht NO (GO.H 1) (fun h6 => by rw [over_id (by decide) (by decide) (by decide) (by decide) (by decide)]; exact E.nu h6)
            have x242 : u2.1 242 0 t = s.1 2 t (e + 1) := by
              rw [(n3 242 (by omega)).1, ← T1.st, leave_eq0 h.ds (by omega) h8 h4, si_o (by decide), si_eq]
            unfold r_settle_111
            rw [gI (by omega) (by decide), nI_clamp (by omega), e216, if_pos k15, if_pos (show nI 1 = 1 from rfl), n1, cal_s, gI (by omega) (by decide), nI_clamp (by omega), x242, at_least, cal2_s, show (2 : Int32) = nI 2 from rfl, r_goIn_eq (d := e) ht (by omega) (by omega) (by decide) (by rw [(n3 246 (by omega)).1]; exact T1.du), cal_s]
            unfold r_settle_189
            obtain ⟨T2, P2, F2⟩ := sim_over (q := 2) (x := mx (s.1 2 t (e + 1)) 1) (s' := tellS (overS s t (e + 1) 2 (mx (s.1 2 t (e + 1)) 1)) (co t) 3 ((overS s t (e + 1) 2 (mx (s.1 2 t (e + 1)) 1)).1 32 t 0) 0) E h L h4 T1 K1 F1 n3 (by decide) hb2 (fun z => k18 z.1) (fun id z => tell_c z)
            have E2 := E.to F2 (n2.lv (fun _ _ _ => ⟨rfl, rfl⟩) (fun id hi => ⟨by rw [gi_id (by omega)], by rw [gi_o2 (by omega)]⟩)) (GV_tell GO)
            have s1' : (tellS (overS s t (e + 1) 2 (mx (s.1 2 t (e + 1)) 1)) (co t) 3 ((overS s t (e + 1) 2 (mx (s.1 2 t (e + 1)) 1)).1 32 t 0) 0).1 1 = (overS s t (e + 1) 2 (mx (s.1 2 t (e + 1)) 1)).1 1 := (tell_c (by decide)).1
            have mu2 : mu (tellS (overS s t (e + 1) 2 (mx (s.1 2 t (e + 1)) 1)) (co t) 3 ((overS s t (e + 1) 2 (mx (s.1 2 t (e + 1)) 1)).1 32 t 0) 0) t (e + 1) = 1 + mu s t e := by
              show (3 - ((tellS (overS s t (e + 1) 2 (mx (s.1 2 t (e + 1)) 1)) (co t) 3 ((overS s t (e + 1) 2 (mx (s.1 2 t (e + 1)) 1)).1 32 t 0) 0).1 1 t (e + 1)).toNatClampNeg) + _ = _
              rw [s1', over_eq h.hp (by omega) L.2.1.1 (by omega), si_o (by decide), si_o (by decide), si_o (by decide), si_o (by decide), si_eq, nI_clamp (by decide), mu_to (s := s) e (fun b z1 z2 => by rw [(tell_c (by decide)).1, si_o (by decide), si_o (by decide), si_o (by decide), si_o (by decide), si_q (by omega)])]
            obtain ⟨v, s3, u3, d3, c3, r1, r2, r3, r4, r5, r6⟩ := ih n _ _ _ _ E2 T2 P2 (by rw [mu2]; omega) (by omega)
            exact ⟨v, s3, u3, d3, c3, r1, r2, r3, F2.trans r4, r5, r6⟩
          · rw [if_neg (show ¬ nI 2 = 0 by decide), if_neg (fun z => absurd z.2 (by decide)), if_neg (fun z => absurd z.2 (by decide))]
            unfold r_settle_111 r_settle_155
            rw [gI (by omega) (by decide), nI_clamp (by omega), e216, if_pos k15, if_neg (show ¬ nI 2 = 1 by decide), gI (by omega) (by decide), if_pos k15, gI (by omega) (by decide), nI_clamp (by omega), (K1.1 252 _ (by omega)).1]
            rcases L.2.2.2.2.2.2 with ⟨z1, z2⟩ | ⟨z1, z2, z3, z4, z5⟩
            · rw [if_neg (fun z => z z1), if_neg k8, show u.1 252 0 (9 * t + e) = 0 from z2, if_pos (by decide)]
              unfold r_settle_177 r_settle_189
              rw [gI (by omega) (by decide), nI_clamp (by omega), gI (by omega) (by decide), nI_clamp (by omega)]
              obtain ⟨B1, B2, B3, B4⟩ := sim_beh (a := a) E1 T1 (by rw [leave_3]; exact L.2.1.2.1) (by rw [nS_to Ac_leave.ap]; exact ha) hsd
              obtain ⟨v, s3, u3, d3, c3, r1, r2, r3, r4, r5, r6⟩ := ih n _ _ _ _ B4 B1 B2 (by rw [mu_to (s := leaveS s t) e (fun b z1 z2 => by rw [beh_eq T1.ds T1.d8 T1.hp (by omega) (by rw [leave_3]; exact L.2.1.2.1) (by omega), si_o (by decide)]), muL]; omega) (by omega)
              exact ⟨v, s3, u3, d3, c3, r1, r2, r3, (F1.trans B3).trans r4, r5, r6⟩
            · rw [if_pos (by rw [z1]; decide), if_neg (by rcases z5 with z5 | z5 <;> rw [show u.1 252 0 (9 * t + e) = _ from z5.1] <;> decide)]
              have eL : leaveS (si (sl s 45 t 0 (s.2 7 t (e + 1))) 46 t 0 (s.1 8 t (e + 1))) t = si (sl (leaveS s t) 45 t 0 (s.2 7 t (e + 1))) 46 t 0 (s.1 8 t (e + 1)) := by
                rw [leave_eq0 (s := si (sl s 45 t 0 (s.2 7 t (e + 1))) 46 t 0 (s.1 8 t (e + 1))) (d := e + 1) (by rw [si_o (by decide)]; exact h.ds) (by omega) h8 (by rw [si_o (by decide)]; exact h4), leave_eq0 h.ds (by omega) h8 h4, show (si (sl s 45 t 0 (s.2 7 t (e + 1))) 46 t 0 (s.1 8 t (e + 1))).1 2 t (e + 1) = s.1 2 t (e + 1) from by rw [si_o (by decide)]; rfl, si_comm (a := 46) (b := 4) (by decide), si_comm (a := 46) (b := 39) (by decide), si_comm (a := 46) (b := 41) (by decide)]
                rfl
              rw [eL]
              have F2 : Fm t s u (si (sl (leaveS s t) 45 t 0 (s.2 7 t (e + 1))) 46 t 0 (s.1 8 t (e + 1))) u1 := by
                refine ⟨(F1.ac.sl (PC.a (by omega))).si (PC.a (by omega)), F1.ag, F1.cl, fun id hi => ⟨?_, ?_⟩, F1.ku, F1.sb.trans (SbR.eq (si_o (by decide)) (fun k => si_o (by decide)) (fun k _ => rfl) (by rw [cN_of T1.rw.cs T1.rw.c22]; exact T1.rw.c22))⟩
                · rw [si_id (by omega)]; exact (F1.ks id hi).1
                · rw [si_2, sl_id (by omega)]; exact (F1.ks id hi).2
              refine ⟨1, _, u1, e, c1, rfl, rfl, T1.to (fun id k hi => ⟨si_o (by omega), by rw [si_2, sl_o (by omega)]⟩) (by rw [si_id (by decide)]; rfl) (by rw [si_id (by decide)]; rfl) (by rw [si_o (by decide)]; exact Nat.le_refl _) rfl rfl (fun _ _ _ _ => ⟨rfl, rfl⟩), F2, E.to F2 (E1.nr.lv (fun id _ _ => ⟨si_id (by omega), by rw [si_2, sl_id (by omega)]⟩) (fun _ _ => ⟨rfl, rfl⟩)) (GV_si (GV_sl E1.gv) (E.gv 8 t (e + 1) : okN 9 _)), Or.inr ⟨rfl, ⟨?_, ?_⟩, a, by rw [nS_to F2.ac.ap]; exact ha, by rw [si_o (by decide), sl_1, leave_3]; exact L.2.1.2.1⟩⟩
              · rw [si_2, sl_e, (K1.1 253 _ (by omega)).2]; exact z4
              · rw [si_eq, (K1.1 252 _ (by omega)).1, (K1.1 254 _ (by omega)).1]; exact z5
        · have k20 : ¬ s.1 68 p a = 20 := fun z => k15 ((km15 S.kd).mpr z)
          have h6 : s.1 6 t (e + 1) = 0 := by
            rcases L.2.2.2.2.2.2 with z | z
            · exact z.1
            · exact absurd z.2.1 k15
          rw [if_neg (fun z => k20 z.1), if_neg (fun z => k20 z.1), if_neg (fun z => z h6)]
          by_cases k3 : u.1 216 0 (40 * p + a) = 3
          · rw [if_pos k3, if_pos ((km3 S.kd).mp k3)]
            have F2 : Fm t (leaveS s t) u1 (leaveS s t) (si u1 241 0 t (nI (40 * p + a))) := Fm.mk1 (by rw [cN_of T1.rw.cs T1.rw.c22]; exact T1.rw.c22) (Ac.refl t _) ((Ag.refl t u1).si (PT.a (by omega))) ((Cl.refl u1).si (by decide)) (fun _ _ => ⟨rfl, rfl⟩) (fun id hi => ⟨by rw [si_id (by omega)], rfl⟩) rfl (fun _ => rfl) (fun k _ => si_o (by decide))
            obtain ⟨v, s3, u3, d3, c3, r1, r2, r3, r4, r5, r6⟩ := ih n (leaveS s t) (si u1 241 0 t (nI (40 * p + a))) e c1 (E1.to F2 (E1.nr.lv (fun _ _ _ => ⟨rfl, rfl⟩) (fun id hi => ⟨by rw [si_id (by omega)], rfl⟩)) E1.gv)
              (T1.to (fun _ _ _ => ⟨rfl, rfl⟩) rfl rfl (Nat.le_refl _) (by rw [si_id (by decide)]) (by rw [si_id (by decide)]) (fun id k _ hi => ⟨si_o (by omega), rfl⟩)) (Or.inr ⟨a, by rw [nS_to Ac_leave.ap]; exact ha, by rw [leave_3]; exact L.2.1.2.1, si_eq, hsd⟩) (by rw [muL]; omega) (by omega)
            exact ⟨v, s3, u3, d3, c3, r1, r2, r3, (F1.trans F2).trans r4, r5, r6⟩
          · rw [if_neg k3, if_neg k15, if_neg (fun z => k3 ((km3 S.kd).mpr z))]
            unfold r_settle_111 r_settle_155 r_settle_177 r_settle_189
            rw [gI (by omega) (by decide), nI_clamp (by omega), e216, if_neg k15, gI (by omega) (by decide), if_neg k15, gI (by omega) (by decide), gI (by omega) (by decide), nI_clamp (by omega)]
            obtain ⟨B1, B2, B3, B4⟩ := sim_beh (a := a) E1 T1 (by rw [leave_3]; exact L.2.1.2.1) (by rw [nS_to Ac_leave.ap]; exact ha) hsd
            obtain ⟨v, s3, u3, d3, c3, r1, r2, r3, r4, r5, r6⟩ := ih n _ _ _ _ B4 B1 B2 (by rw [mu_to (s := leaveS s t) e (fun b z1 z2 => by rw [beh_eq T1.ds T1.d8 T1.hp (by omega) (by rw [leave_3]; exact L.2.1.2.1) (by omega), si_o (by decide)]), muL]; omega) (by omega)
            exact ⟨v, s3, u3, d3, c3, r1, r2, r3, (F1.trans B3).trans r4, r5, r6⟩
    · have hne : ¬ s.1 3 t d = -1 := by rw [q2]; exact nI_n1 (by omega)
      refine ⟨0, s, u, d, c, by rw [if_pos (Or.inr hne)], ?_, h, Fm.refl (by rw [cN_of h.rw.cs hc]; exact hc), E, Or.inl ⟨rfl, Or.inr ⟨a0, q1, q2, q3, q4⟩, Or.inr hne⟩⟩
      rw [r_settle_0.eq_2, gI (by omega) (by decide), nI_clamp (by omega), q3, if_pos (nI_pos' (by omega))]
