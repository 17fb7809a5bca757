/-! what the two sides have in common: s the class's numbers, u the reference's -/
def KM : List (Int32 × Int32) := [(0, 5), (1, 6), (3, 8), (4, 9), (6, 11), (8, 13), (9, 14), (10, 15), (11, 16), (12, 17), (13, 18), (15, 20), (18, 23), (30, 2)]
def nS (s : St) (p : Nat) : Nat := (s.1 64 p 0).toNatClampNeg
def XR (sd : Nat → Nat → Nat) (p n : Nat) (c r : Int32) (k : Nat) : Prop := (c = -1 ∧ r = -1) ∨ ∃ a, a < n ∧ c = nI a ∧ r = nI (40 * p + a) ∧ sd p a = k
def CdR (s u : St) (p f e : Nat) : Prop :=
  (s.1 75 p f = 4 ∧ u.1 224 0 e = 1 ∧ u.2 226 0 e = (s.1 76 p f).toInt64) ∨ (s.1 75 p f = 2 ∧ u.1 224 0 e = 2 ∧ ∃ b, b < 10 ∧ s.1 76 p f = nI b ∧ u.1 225 0 e = nI (16 + b)) ∨
  (s.1 75 p f = 24 ∧ u.1 224 0 e = 3) ∨ (s.1 75 p f ∈ ([42, 43, 45, 60, 61, 35] : List Int32) ∧ u.1 224 0 e = s.1 75 p f)
def XpR (s u : St) (p a : Nat) : Prop := ∃ f m e, s.1 71 p a = nI f ∧ s.1 72 p a = nI (f + m) ∧ f + m ≤ 120 ∧ u.1 218 0 (40 * p + a) = nI e ∧ (e + m < 2400 ∧ 200 * p ≤ e ∧ e + m < 200 * p + 200) ∧ (∀ i, i < m → CdR s u p (f + i) (e + i)) ∧ u.1 224 0 (e + m) = 4 ∧ evOK s p m f 0
/-- a statement on both sides -/
def StR (sd : Nat → Nat → Nat) (s u : St) (p n a : Nat) : Prop := ((u.1 216 0 (40 * p + a), s.1 68 p a) ∈ KM) ∧ (XR sd p n (s.1 73 p a) (u.1 217 0 (40 * p + a)) (sd p a)) ∧ (∀ w, w < 3 → (s.1 74 p (3 * a + w) = -2 ∧ u.1 220 0 (3 * (40 * p + a) + w) = 0) ∨ (u.1 220 0 (3 * (40 * p + a) + w) = 1 ∧ sd p a < 8 ∧ XR sd p n (s.1 74 p (3 * a + w)) (u.1 219 0 (3 * (40 * p + a) + w)) (sd p a + 1))) ∧ (s.1 68 p a ∈ ([8, 15, 16, 17, 18, 20, 23] : List Int32) → u.1 220 0 (3 * (40 * p + a) + 0) = 1) ∧ (s.1 68 p a ∈ ([18, 20] : List Int32) → u.1 220 0 (3 * (40 * p + a) + 1) = 1) ∧ (s.1 68 p a = 20 → u.1 220 0 (3 * (40 * p + a) + 2) = 1) ∧ (s.1 68 p a ∈ ([2, 9, 18] : List Int32) → ∃ b, b < 10 ∧ s.1 69 p a = nI b ∧ u.1 221 0 (40 * p + a) = nI (16 + b)) ∧ (s.1 68 p a ∈ ([9, 11] : List Int32) → ∃ b, b < 8 ∧ s.1 70 p a = nI b ∧ u.1 222 0 (40 * p + a) = nI b) ∧ (s.1 68 p a = 14 → ∃ b, b < 6 ∧ s.1 70 p a = nI b ∧ u.1 223 0 (40 * p + a) = nI b) ∧ (s.1 68 p a = 23 → ∃ b, b < 1000000000 ∧ s.1 70 p a = nI b ∧ u.1 223 0 (40 * p + a) = nI b) ∧ (s.1 68 p a ∈ ([2, 5, 6, 8, 11, 13, 14] : List Int32) → XpR s u p a)
theorem StR.kd {sd : Nat → Nat → Nat} {s u : St} {p n a : Nat} (h : StR sd s u p n a) : (u.1 216 0 (40 * p + a), s.1 68 p a) ∈ KM := h.1
theorem StR.nx {sd : Nat → Nat → Nat} {s u : St} {p n a : Nat} (h : StR sd s u p n a) : XR sd p n (s.1 73 p a) (u.1 217 0 (40 * p + a)) (sd p a) := h.2.1
theorem StR.bd {sd : Nat → Nat → Nat} {s u : St} {p n a : Nat} (h : StR sd s u p n a) : ∀ w, w < 3 → (s.1 74 p (3 * a + w) = -2 ∧ u.1 220 0 (3 * (40 * p + a) + w) = 0) ∨ (u.1 220 0 (3 * (40 * p + a) + w) = 1 ∧ sd p a < 8 ∧ XR sd p n (s.1 74 p (3 * a + w)) (u.1 219 0 (3 * (40 * p + a) + w)) (sd p a + 1)) := h.2.2.1
theorem StR.b0 {sd : Nat → Nat → Nat} {s u : St} {p n a : Nat} (h : StR sd s u p n a) : s.1 68 p a ∈ ([8, 15, 16, 17, 18, 20, 23] : List Int32) → u.1 220 0 (3 * (40 * p + a) + 0) = 1 := h.2.2.2.1
theorem StR.b1 {sd : Nat → Nat → Nat} {s u : St} {p n a : Nat} (h : StR sd s u p n a) : s.1 68 p a ∈ ([18, 20] : List Int32) → u.1 220 0 (3 * (40 * p + a) + 1) = 1 := h.2.2.2.2.1
theorem StR.b2 {sd : Nat → Nat → Nat} {s u : St} {p n a : Nat} (h : StR sd s u p n a) : s.1 68 p a = 20 → u.1 220 0 (3 * (40 * p + a) + 2) = 1 := h.2.2.2.2.2.1
theorem StR.lt {sd : Nat → Nat → Nat} {s u : St} {p n a : Nat} (h : StR sd s u p n a) : s.1 68 p a ∈ ([2, 9, 18] : List Int32) → ∃ b, b < 10 ∧ s.1 69 p a = nI b ∧ u.1 221 0 (40 * p + a) = nI (16 + b) := h.2.2.2.2.2.2.1
theorem StR.bx {sd : Nat → Nat → Nat} {s u : St} {p n a : Nat} (h : StR sd s u p n a) : s.1 68 p a ∈ ([9, 11] : List Int32) → ∃ b, b < 8 ∧ s.1 70 p a = nI b ∧ u.1 222 0 (40 * p + a) = nI b := h.2.2.2.2.2.2.2.1
theorem StR.sn {sd : Nat → Nat → Nat} {s u : St} {p n a : Nat} (h : StR sd s u p n a) : s.1 68 p a = 14 → ∃ b, b < 6 ∧ s.1 70 p a = nI b ∧ u.1 223 0 (40 * p + a) = nI b := h.2.2.2.2.2.2.2.2.1
theorem StR.wn {sd : Nat → Nat → Nat} {s u : St} {p n a : Nat} (h : StR sd s u p n a) : s.1 68 p a = 23 → ∃ b, b < 1000000000 ∧ s.1 70 p a = nI b ∧ u.1 223 0 (40 * p + a) = nI b := h.2.2.2.2.2.2.2.2.2.1
theorem StR.xp {sd : Nat → Nat → Nat} {s u : St} {p n a : Nat} (h : StR sd s u p n a) : s.1 68 p a ∈ ([2, 5, 6, 8, 11, 13, 14] : List Int32) → XpR s u p a := h.2.2.2.2.2.2.2.2.2.2
def PR (sd : Nat → Nat → Nat) (s u : St) (p : Nat) : Prop := (s.1 64 p 0 = nI (nS s p) ∧ nS s p ≤ 40) ∧ (u.1 211 0 p = s.1 64 p 0) ∧ (u.1 212 0 p = s.1 65 p 0) ∧ (u.1 213 0 p = s.1 66 p 0) ∧ (∀ a, a < nS s p → StR sd s u p (nS s p) a) ∧ (XR sd p (nS s p) (s.1 74 p 120) (u.1 214 0 p) 0)
theorem PR.n4 {sd : Nat → Nat → Nat} {s u : St} {p : Nat} (h : PR sd s u p) : s.1 64 p 0 = nI (nS s p) ∧ nS s p ≤ 40 := h.1
theorem PR.e1 {sd : Nat → Nat → Nat} {s u : St} {p : Nat} (h : PR sd s u p) : u.1 211 0 p = s.1 64 p 0 := h.2.1
theorem PR.e2 {sd : Nat → Nat → Nat} {s u : St} {p : Nat} (h : PR sd s u p) : u.1 212 0 p = s.1 65 p 0 := h.2.2.1
theorem PR.e3 {sd : Nat → Nat → Nat} {s u : St} {p : Nat} (h : PR sd s u p) : u.1 213 0 p = s.1 66 p 0 := h.2.2.2.1
theorem PR.st {sd : Nat → Nat → Nat} {s u : St} {p : Nat} (h : PR sd s u p) : ∀ a, a < nS s p → StR sd s u p (nS s p) a := h.2.2.2.2.1
theorem PR.en {sd : Nat → Nat → Nat} {s u : St} {p : Nat} (h : PR sd s u p) : XR sd p (nS s p) (s.1 74 p 120) (u.1 214 0 p) 0 := h.2.2.2.2.2
def PP (sd : Nat → Nat → Nat) (s u : St) (pc : Nat) : Prop := pc ≤ 12 ∧ s.1 132 0 0 = nI pc ∧ u.1 210 0 0 = nI pc ∧ ∀ p, p < pc → PR sd s u p
/-- a TIMEOUT on both sides: of level b at place e -/
def TmR (s u : St) (t p a w b e : Nat) : Prop :=
  (u.1 216 0 (40 * p + a) = 18 ∧ w = 0 ∧ ∃ wi n : Nat, wi ≤ (s.1 16 0 0).toNatClampNeg ∧ n < 1000000000 ∧ s.1 70 p a = nI n ∧ s.1 5 t b = nI wi ∧ u.2 250 0 e = (nI wi).toInt64 + (nI n).toInt64 ∧ ((s.1 4 t b = 1 ∧ u.1 251 0 e = 0) ∨ (s.1 4 t b = 2 ∧ u.1 251 0 e = 1))) ∨
  (¬ (u.1 216 0 (40 * p + a) = 18 ∧ w = 0) ∧ s.1 4 t b = 0 ∧ u.2 250 0 e = -1 ∧ u.1 251 0 e = 0)
/-- a value held behind a last -/
def HdR (s u : St) (t p a w b e : Nat) : Prop :=
  (s.1 6 t b = 0 ∧ u.1 252 0 e = 0) ∨ (s.1 6 t b = 1 ∧ u.1 216 0 (40 * p + a) = 15 ∧ w = 2 ∧ s.2 7 t b = u.2 253 0 e ∧ ((u.1 252 0 e = 1 ∧ s.1 8 t b = 0) ∨ (u.1 252 0 e = 2 ∧ ∃ o, o < 8 ∧ s.1 8 t b = nI (o + 1) ∧ u.1 254 0 e = nI o)))
def LvR (sd : Nat → Nat → Nat) (s u : St) (t p b a w : Nat) : Prop :=
  (a < nS s p ∧ w < 3) ∧ (s.1 0 t b = nI a ∧ s.1 3 t (b - 1) = nI a ∧ u.1 247 0 (9 * t + (b - 1)) = nI (40 * p + a)) ∧ (s.1 1 t b = nI w ∧ u.1 248 0 (9 * t + (b - 1)) = nI w) ∧ s.1 2 t b = u.1 249 0 (9 * t + (b - 1)) ∧
  (u.1 220 0 (3 * (40 * p + a) + w) = 1 ∧ sd p a = b - 1) ∧ TmR s u t p a w b (9 * t + (b - 1)) ∧ HdR s u t p a w b (9 * t + (b - 1))
def RwE (s u : St) (t k : Nat) : Prop := ∃ w l : Nat, w < 8 ∧ s.1 81 t k = nI w ∧ u.1 256 0 (32 * t + k) = nI w ∧ s.2 83 t k = u.2 257 0 (32 * t + k) ∧ ((w = 7 ∧ l < 8 ∧ s.1 82 t k = nI (l + 1) ∧ u.1 258 0 (32 * t + k) = nI l) ∨ (w ≠ 7 ∧ s.1 82 t k = 0))
def RwR (s u : St) (t d c : Nat) : Prop := (s.1 80 t 0 = nI c) ∧ (u.1 255 0 t = nI c) ∧ (c ≤ 22) ∧ (∀ k, k < c → RwE s u t k) ∧ (∀ k k', k < c → k' < c → s.1 81 t k = s.1 81 t k' → s.1 82 t k = s.1 82 t k' → s.1 81 t k ≠ 6 → k = k') ∧ (∀ k l, k < c → s.1 82 t k = nI (l + 1) → l < 8 → l < d ∧ s.1 4 t (l + 1) = 2) ∧ (cn81 s t 6 c 0 ≤ 8)
theorem RwR.cs {s u : St} {t d c : Nat} (h : RwR s u t d c) : s.1 80 t 0 = nI c := h.1
theorem RwR.cu {s u : St} {t d c : Nat} (h : RwR s u t d c) : u.1 255 0 t = nI c := h.2.1
theorem RwR.c22 {s u : St} {t d c : Nat} (h : RwR s u t d c) : c ≤ 22 := h.2.2.1
theorem RwR.en {s u : St} {t d c : Nat} (h : RwR s u t d c) : ∀ k, k < c → RwE s u t k := h.2.2.2.1
theorem RwR.un {s u : St} {t d c : Nat} (h : RwR s u t d c) : ∀ k k', k < c → k' < c → s.1 81 t k = s.1 81 t k' → s.1 82 t k = s.1 82 t k' → s.1 81 t k ≠ 6 → k = k' := h.2.2.2.2.1
theorem RwR.tm {s u : St} {t d c : Nat} (h : RwR s u t d c) : ∀ k l, k < c → s.1 82 t k = nI (l + 1) → l < 8 → l < d ∧ s.1 4 t (l + 1) = 2 := h.2.2.2.2.2.1
theorem RwR.ou {s u : St} {t d c : Nat} (h : RwR s u t d c) : cn81 s t 6 c 0 ≤ 8 := h.2.2.2.2.2.2
def cntA (s : St) (t : Nat) : Nat → Nat
  | 0 => 0
  | b + 1 => (if s.1 4 t (b + 1) = 1 then 1 else 0) + cntA s t b
/-- a THREAD that RUNS, but for where it is -/
def TC (sd : Nat → Nat → Nat) (s u : St) (t p d c : Nat) : Prop := (s.1 37 t 0 = nI p) ∧ (s.1 41 t 0 = nI d) ∧ (u.1 246 0 t = nI d) ∧ (d ≤ 8) ∧ (s.1 39 t 0 = u.1 242 0 t) ∧ (∀ b, 1 ≤ b → b ≤ d → ∃ a w, LvR sd s u t p b a w) ∧ (RwR s u t d c) ∧ (s.1 42 t 0 = nI (cntA s t d))
theorem TC.hp {sd : Nat → Nat → Nat} {s u : St} {t p d c : Nat} (h : TC sd s u t p d c) : s.1 37 t 0 = nI p := h.1
theorem TC.ds {sd : Nat → Nat → Nat} {s u : St} {t p d c : Nat} (h : TC sd s u t p d c) : s.1 41 t 0 = nI d := h.2.1
theorem TC.du {sd : Nat → Nat → Nat} {s u : St} {t p d c : Nat} (h : TC sd s u t p d c) : u.1 246 0 t = nI d := h.2.2.1
theorem TC.d8 {sd : Nat → Nat → Nat} {s u : St} {t p d c : Nat} (h : TC sd s u t p d c) : d ≤ 8 := h.2.2.2.1
theorem TC.st {sd : Nat → Nat → Nat} {s u : St} {t p d c : Nat} (h : TC sd s u t p d c) : s.1 39 t 0 = u.1 242 0 t := h.2.2.2.2.1
theorem TC.lv {sd : Nat → Nat → Nat} {s u : St} {t p d c : Nat} (h : TC sd s u t p d c) : ∀ b, 1 ≤ b → b ≤ d → ∃ a w, LvR sd s u t p b a w := h.2.2.2.2.2.1
theorem TC.rw {sd : Nat → Nat → Nat} {s u : St} {t p d c : Nat} (h : TC sd s u t p d c) : RwR s u t d c := h.2.2.2.2.2.2.1
theorem TC.aw {sd : Nat → Nat → Nat} {s u : St} {t p d c : Nat} (h : TC sd s u t p d c) : s.1 42 t 0 = nI (cntA s t d) := h.2.2.2.2.2.2.2
/-- places of one THREAD -/
def PT (t id e : Nat) : Prop := ((id = 240 ∨ id = 241 ∨ id = 242 ∨ id = 243 ∨ id = 244 ∨ id = 246 ∨ id = 255) ∧ e = t) ∨ (247 ≤ id ∧ id ≤ 254 ∧ 9 * t ≤ e ∧ e < 9 * t + 9) ∨ (256 ≤ id ∧ id ≤ 259 ∧ 32 * t ≤ e ∧ e < 32 * t + 32) ∨ (id = 245 ∧ 10 * t ≤ e ∧ e < 10 * t + 10) ∨ (263 ≤ id ∧ id ≤ 268)
def Ag (t : Nat) (u v : St) : Prop := ∀ id e, ¬ PT t id e → v.1 id 0 e = u.1 id 0 e ∧ v.2 id 0 e = u.2 id 0 e
theorem Ag.refl (t : Nat) (u : St) : Ag t u u := fun _ _ _ => ⟨rfl, rfl⟩
theorem Ag.trans {t : Nat} {u v w : St} (h : Ag t u v) (h2 : Ag t v w) : Ag t u w := fun id e hp => ⟨(h2 id e hp).1.trans (h id e hp).1, (h2 id e hp).2.trans (h id e hp).2⟩
theorem Ag.si {t : Nat} {u v : St} {id e : Nat} {x : Int32} (hp : PT t id e) (h : Ag t u v) : Ag t u (si v id 0 e x) := fun a b hn => ⟨(by rw [si_ne (fun z => hn (by rw [z.1, z.2.2]; exact hp))]; exact (h a b hn).1), (h a b hn).2⟩
theorem Ag.sl {t : Nat} {u v : St} {id e : Nat} {x : Int64} (hp : PT t id e) (h : Ag t u v) : Ag t u (sl v id 0 e x) := fun a b hn => ⟨(h a b hn).1, (by rw [sl_r, if_neg (fun z => hn (by rw [z.1, z.2.2]; exact hp))]; exact (h a b hn).2)⟩
def PC (t id o : Nat) : Prop := ((id ≤ 8 ∨ (32 ≤ id ∧ id ≤ 46) ∨ (80 ≤ id ∧ id ≤ 83)) ∧ o = t) ∨ (17 ≤ id ∧ id ≤ 21) ∨ id = 77
def Ac (t : Nat) (s v : St) : Prop := ∀ id o e, ¬ PC t id o → v.1 id o e = s.1 id o e ∧ v.2 id o e = s.2 id o e
theorem Ac.refl (t : Nat) (u : St) : Ac t u u := fun _ _ _ _ => ⟨rfl, rfl⟩
theorem Ac.trans {t : Nat} {u v w : St} (h : Ac t u v) (h2 : Ac t v w) : Ac t u w := fun id o e hp => ⟨(h2 id o e hp).1.trans (h id o e hp).1, (h2 id o e hp).2.trans (h id o e hp).2⟩
theorem Ac.si {t : Nat} {u v : St} {id o e : Nat} {x : Int32} (hp : PC t id o) (h : Ac t u v) : Ac t u (si v id o e x) := fun a b c hn => ⟨(by rw [si_ne (fun z => hn (by rw [z.1, z.2.1]; exact hp))]; exact (h a b c hn).1), (h a b c hn).2⟩
theorem Ac.sl {t : Nat} {u v : St} {id o e : Nat} {x : Int64} (hp : PC t id o) (h : Ac t u v) : Ac t u (sl v id o e x) := fun a b c hn => ⟨(h a b c hn).1, (by rw [sl_r, if_neg (fun z => hn (by rw [z.1, z.2.1]; exact hp))]; exact (h a b c hn).2)⟩
theorem PC.a {t id : Nat} (h : id ≤ 8 ∨ (32 ≤ id ∧ id ≤ 46) ∨ (80 ≤ id ∧ id ≤ 83)) : PC t id t := Or.inl ⟨h, rfl⟩
theorem PT.a {t id : Nat} (h : id = 240 ∨ id = 241 ∨ id = 242 ∨ id = 243 ∨ id = 244 ∨ id = 246 ∨ id = 255) : PT t id t := Or.inl ⟨h, rfl⟩
theorem PT.l {t id b : Nat} (h : 247 ≤ id ∧ id ≤ 254) (hb : b < 9) : PT t id (9 * t + b) := Or.inr (Or.inl ⟨h.1, h.2, by omega, by omega⟩)
theorem PT.r {t id b : Nat} (h : 256 ≤ id ∧ id ≤ 259) (hb : b < 32) : PT t id (32 * t + b) := Or.inr (Or.inr (Or.inl ⟨h.1, h.2, by omega, by omega⟩))
/-- levels with the same numbers -/
theorem LvR.to {sd : Nat → Nat → Nat} {s u s' u' : St} {t p b a w : Nat} (h : LvR sd s u t p b a w) (eN : s'.1 64 = s.1 64) (e70 : s'.1 70 = s.1 70) (e16 : (s.1 16 0 0).toNatClampNeg ≤ (s'.1 16 0 0).toNatClampNeg)
    (es : ∀ id, id < 9 → id ≠ 3 → s'.1 id t b = s.1 id t b ∧ s'.2 id t b = s.2 id t b) (e3 : s'.1 3 t (b - 1) = s.1 3 t (b - 1)) (e216 : u'.1 216 0 = u.1 216 0) (e220 : u'.1 220 0 = u.1 220 0)
    (eu : ∀ id, 247 ≤ id → id ≤ 254 → u'.1 id 0 (9 * t + (b - 1)) = u.1 id 0 (9 * t + (b - 1)) ∧ u'.2 id 0 (9 * t + (b - 1)) = u.2 id 0 (9 * t + (b - 1))) : LvR sd s' u' t p b a w := by
  obtain ⟨h1, h2, h3, h4, h5, h6, h7⟩ := h
  refine ⟨by unfold nS at *; rw [eN]; exact h1, ⟨(es 0 (by decide) (by decide)).1.trans h2.1, e3.trans h2.2.1, (eu 247 (by decide) (by decide)).1.trans h2.2.2⟩, ⟨(es 1 (by decide) (by decide)).1.trans h3.1, (eu 248 (by decide) (by decide)).1.trans h3.2⟩, ?_, ?_, ?_, ?_⟩
  · rw [(es 2 (by decide) (by decide)).1, (eu 249 (by decide) (by decide)).1]; exact h4
  · rw [e220]; exact h5
  · unfold TmR at *
    rw [e216, e70, (es 5 (by decide) (by decide)).1, (es 4 (by decide) (by decide)).1, (eu 250 (by decide) (by decide)).2, (eu 251 (by decide) (by decide)).1]
    rcases h6 with ⟨a1, a2, wi, n, a3, a4⟩ | h6
    · exact Or.inl ⟨a1, a2, wi, n, by omega, a4⟩
    · exact Or.inr h6
  · unfold HdR at *
    rw [e216, (es 6 (by decide) (by decide)).1, (es 7 (by decide) (by decide)).2, (es 8 (by decide) (by decide)).1, (eu 252 (by decide) (by decide)).1, (eu 253 (by decide) (by decide)).2, (eu 254 (by decide) (by decide)).1]
    exact h7
theorem cntA_to {s s' : St} {t : Nat} : ∀ d, (∀ b, 1 ≤ b → b ≤ d → s'.1 4 t b = s.1 4 t b) → cntA s' t d = cntA s t d
  | 0, _ => rfl
  | d + 1, h => by
    unfold cntA
    rw [h (d + 1) (by omega) (by omega), cntA_to d (fun b h1 h2 => h b h1 (by omega))]
theorem cn81_to {s s' : St} {t : Nat} {x : Int32} : ∀ m k, (∀ i, k ≤ i → i < k + m → s'.1 81 t i = s.1 81 t i) → cn81 s' t x m k = cn81 s t x m k
  | 0, _, _ => rfl
  | m + 1, k, h => by
    unfold cn81
    rw [h k (by omega) (by omega), cn81_to m (k + 1) (fun i h1 h2 => h i (by omega) (by omega))]
theorem cn81_le {s : St} {t : Nat} {x : Int32} : ∀ m k, cn81 s t x m k ≤ m
  | 0, _ => Nat.le_refl _
  | m + 1, k => by
    unfold cn81
    have := cn81_le (s := s) (t := t) (x := x) m (k + 1)
    split <;> omega
