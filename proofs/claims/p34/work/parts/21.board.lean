/-! rows of 88 numbers: what a board is -/
abbrev zrow : Type := Nat → Int32
def cN (r : zrow) : Nat := (r 0).toNatClampNeg
def cC (r : zrow) : Nat := (r 1).toNatClampNeg
def cF (r : zrow) : Nat := (r 2).toNatClampNeg
def dN (r : zrow) : Nat := (r 3).toNatClampNeg
def eN (r : zrow) (c : Nat) : Nat := (r (17 + c)).toNatClampNeg
def xN (r : zrow) (c : Nat) : Nat := (r (22 + c)).toNatClampNeg
def kN (r : zrow) (f : Nat) : Nat := (r (32 + f)).toNatClampNeg
def oN (r : zrow) (f : Nat) : Nat := (r (42 + f)).toNatClampNeg
def tN (r : zrow) (f : Nat) : Nat := (r (52 + f)).toNatClampNeg
def nOf (r : zrow) (p : Nat) : Option Nat := fst (cN r) (fun n => bt (r (9 + n)) p)
def hasP (r : zrow) (c p : Nat) : Bool := decide (eN r c = p) || decide (xN r c = p) || bt (r (27 + c)) p
def role (r : zrow) (c p : Nat) : Option Nat := if eN r c = p then some 0 else if xN r c = p then some 1 else if bt (r (27 + c)) p = true then some 2 else none
def chOf (r : zrow) (p : Nat) : Option Nat := fst (cC r) (fun c => hasP r c p)
/-- a board that the calls can make -/
def zVr (r : zrow) : Prop :=
  ((r 0 = nI (cN r) ∧ cN r ≤ 8) ∧ (r 1 = nI (cC r) ∧ cC r ≤ 5) ∧ (r 2 = nI (cF r) ∧ cF r ≤ 10)) ∧
  (∀ i, i < cN r → (∀ p, 16 ≤ p → bt (r (9 + i)) p = false) ∧ ∀ j, j < i → ∀ p, bt (r (9 + i)) p = true → bt (r (9 + j)) p = false) ∧
  (∀ c, c < cC r → (r (17 + c) = nI (eN r c) ∧ eN r c < 16) ∧ (r (22 + c) = nI (xN r c) ∧ xN r c < 16) ∧ ∀ p, 16 ≤ p → bt (r (27 + c)) p = false) ∧
  (∀ f, f < cF r → (r (32 + f) = nI (kN r f) ∧ kN r f < 5) ∧ (r (42 + f) = nI (oN r f) ∧ oN r f < 16) ∧ (kN r f ≠ 0 → kN r f ≠ 4 → oN r f < cN r) ∧ (kN r f = 4 → oN r f < cC r) ∧ (r (52 + f) = nI (tN r f) ∧ tN r f < 16) ∧ (kN r f = 1 → oN r f < tN r f ∧ tN r f < cN r)) ∧
  ((r 3 = nI (dN r) ∧ dN r ≤ 10000) ∧ (∀ p, 16 ≤ p → bt (r 5) p = false) ∧ (r 6 = -1 ∨ ∃ f, f < cF r ∧ r 6 = nI f) ∧ (∀ k, bt (r 7) k = true → k < cF r ∨ k = 10)) ∧
  (∀ f, cF r ≤ f → f < 10 → r (62 + f) = -1) ∧ (∀ d, d < 5 → ct (cF r) (fun f => decide (r (62 + f) = nI d)) ≤ 3)
theorem zVr.n {r : zrow} (h : zVr r) : r 0 = nI (cN r) ∧ cN r ≤ 8 := h.1.1
theorem zVr.c {r : zrow} (h : zVr r) : r 1 = nI (cC r) ∧ cC r ≤ 5 := h.1.2.1
theorem zVr.f {r : zrow} (h : zVr r) : r 2 = nI (cF r) ∧ cF r ≤ 10 := h.1.2.2
theorem zVr.net {r : zrow} (h : zVr r) {i : Nat} (hi : i < cN r) : ∀ p, 16 ≤ p → bt (r (9 + i)) p = false := (h.2.1 i hi).1
theorem zVr.dis {r : zrow} (h : zVr r) {i j p : Nat} (hi : i < cN r) (hj : j < cN r) (h1 : bt (r (9 + i)) p = true) (h2 : bt (r (9 + j)) p = true) : i = j := by
  rcases Nat.lt_trichotomy i j with h3 | h3 | h3
  · rw [(h.2.1 j hj).2 i h3 p h2] at h1
    cases h1
  · exact h3
  · rw [(h.2.1 i hi).2 j h3 p h1] at h2
    cases h2
theorem zVr.chip {r : zrow} (h : zVr r) {c : Nat} (hc : c < cC r) : (r (17 + c) = nI (eN r c) ∧ eN r c < 16) ∧ (r (22 + c) = nI (xN r c) ∧ xN r c < 16) ∧ ∀ p, 16 ≤ p → bt (r (27 + c)) p = false := h.2.2.1 c hc
theorem zVr.flt {r : zrow} (h : zVr r) {f : Nat} (hf : f < cF r) : (r (32 + f) = nI (kN r f) ∧ kN r f < 5) ∧ (r (42 + f) = nI (oN r f) ∧ oN r f < 16) ∧ (kN r f ≠ 0 → kN r f ≠ 4 → oN r f < cN r) ∧ (kN r f = 4 → oN r f < cC r) ∧ (r (52 + f) = nI (tN r f) ∧ tN r f < 16) ∧ (kN r f = 1 → oN r f < tN r f ∧ tN r f < cN r) := h.2.2.2.1 f hf
theorem zVr.day {r : zrow} (h : zVr r) : r 3 = nI (dN r) ∧ dN r ≤ 10000 := h.2.2.2.2.1.1
theorem zVr.vch {r : zrow} (h : zVr r) : ∀ p, 16 ≤ p → bt (r 5) p = false := h.2.2.2.2.1.2.1
theorem zVr.pl {r : zrow} (h : zVr r) : r 6 = -1 ∨ ∃ f, f < cF r ∧ r 6 = nI f := h.2.2.2.2.1.2.2.1
theorem zVr.sus {r : zrow} (h : zVr r) : ∀ k, bt (r 7) k = true → k < cF r ∨ k = 10 := h.2.2.2.2.1.2.2.2
theorem zVr.drw {r : zrow} (h : zVr r) : ∀ f, cF r ≤ f → f < 10 → r (62 + f) = -1 := h.2.2.2.2.2.1
theorem zVr.fil {r : zrow} (h : zVr r) : ∀ d, d < 5 → ct (cF r) (fun f => decide (r (62 + f) = nI d)) ≤ 3 := h.2.2.2.2.2.2
/-- the class's board in cell b is the row's -/
def zBr (s : zs) (b : Nat) (r : zrow) : Prop :=
  (s.1 b 9 = r 0 ∧ s.1 b 10 = r 1 ∧ s.1 b 11 = r 2) ∧
  (∀ i, i < 8 → s.1 (b + 1) i = r (9 + i)) ∧ (∀ p, p < 16 → s.1 (b + 2) p = zo (nOf r p)) ∧
  (∀ c, c < 5 → s.1 (b + 3) c = r (17 + c) ∧ s.1 (b + 4) c = r (22 + c) ∧ s.1 (b + 5) c = r (27 + c)) ∧
  (∀ f, f < 10 → s.1 (b + 6) f = r (32 + f) ∧ s.1 (b + 7) f = r (42 + f) ∧ s.1 (b + 8) f = r (52 + f)) ∧
  (∀ p, p < 16 → s.1 (b + 9) p = r (72 + p)) ∧ (∀ p, bt (s.1 b 12) p = (nOf r p).isSome) ∧ (∀ p, bt (s.1 b 13) p = (chOf r p).isSome)
theorem zBr.n {s : zs} {b : Nat} {r : zrow} (h : zBr s b r) : s.1 b 9 = r 0 := h.1.1
theorem zBr.c {s : zs} {b : Nat} {r : zrow} (h : zBr s b r) : s.1 b 10 = r 1 := h.1.2.1
theorem zBr.f {s : zs} {b : Nat} {r : zrow} (h : zBr s b r) : s.1 b 11 = r 2 := h.1.2.2
theorem zBr.net {s : zs} {b : Nat} {r : zrow} (h : zBr s b r) {i : Nat} (hi : i < 8) : s.1 (b + 1) i = r (9 + i) := h.2.1 i hi
theorem zBr.of {s : zs} {b : Nat} {r : zrow} (h : zBr s b r) {p : Nat} (hp : p < 16) : s.1 (b + 2) p = zo (nOf r p) := h.2.2.1 p hp
theorem zBr.e {s : zs} {b : Nat} {r : zrow} (h : zBr s b r) {c : Nat} (hc : c < 5) : s.1 (b + 3) c = r (17 + c) := (h.2.2.2.1 c hc).1
theorem zBr.x {s : zs} {b : Nat} {r : zrow} (h : zBr s b r) {c : Nat} (hc : c < 5) : s.1 (b + 4) c = r (22 + c) := (h.2.2.2.1 c hc).2.1
theorem zBr.l {s : zs} {b : Nat} {r : zrow} (h : zBr s b r) {c : Nat} (hc : c < 5) : s.1 (b + 5) c = r (27 + c) := (h.2.2.2.1 c hc).2.2
theorem zBr.k {s : zs} {b : Nat} {r : zrow} (h : zBr s b r) {f : Nat} (hf : f < 10) : s.1 (b + 6) f = r (32 + f) := (h.2.2.2.2.1 f hf).1
theorem zBr.o {s : zs} {b : Nat} {r : zrow} (h : zBr s b r) {f : Nat} (hf : f < 10) : s.1 (b + 7) f = r (42 + f) := (h.2.2.2.2.1 f hf).2.1
theorem zBr.t {s : zs} {b : Nat} {r : zrow} (h : zBr s b r) {f : Nat} (hf : f < 10) : s.1 (b + 8) f = r (52 + f) := (h.2.2.2.2.1 f hf).2.2
theorem zBr.bl {s : zs} {b : Nat} {r : zrow} (h : zBr s b r) {p : Nat} (hp : p < 16) : s.1 (b + 9) p = r (72 + p) := h.2.2.2.2.2.1 p hp
theorem zBr.pn {s : zs} {b : Nat} {r : zrow} (h : zBr s b r) (p : Nat) : bt (s.1 b 12) p = (nOf r p).isSome := h.2.2.2.2.2.2.1 p
theorem zBr.pc {s : zs} {b : Nat} {r : zrow} (h : zBr s b r) (p : Nat) : bt (s.1 b 13) p = (chOf r p).isSome := h.2.2.2.2.2.2.2 p
/-- the reference's row is the row -/
def zRr (R : zr) (r : zrow) : Prop := ∀ k, k < 88 → R 1 k = r k
/-! small ones -/
theorem h6 (x : Int32) {k : Nat} (hk : k < 32) : f_X6_hasBit x (nI k) = bt x k := by
  unfold f_X6_hasBit
  rw [b_key x hk]
  cases bt x k <;> rfl
theorem h7 (x : Int32) {k : Nat} (hk : k < 32) : f_X7_has x (nI k) = bt x k := by
  unfold f_X7_has
  rw [b_key x hk]
  cases bt x k <;> rfl
theorem a1 (i : Nat) : nI i + 1 = nI (i + 1) := nI_1 i
theorem a9 (i : Nat) : (9 : Int32) + nI i = nI (9 + i) := nI_add 9 i
theorem a17 (i : Nat) : (17 : Int32) + nI i = nI (17 + i) := nI_add 17 i
theorem a22 (i : Nat) : (22 : Int32) + nI i = nI (22 + i) := nI_add 22 i
theorem a27 (i : Nat) : (27 : Int32) + nI i = nI (27 + i) := nI_add 27 i
theorem a32 (i : Nat) : (32 : Int32) + nI i = nI (32 + i) := nI_add 32 i
theorem a42 (i : Nat) : (42 : Int32) + nI i = nI (42 + i) := nI_add 42 i
theorem a52 (i : Nat) : (52 : Int32) + nI i = nI (52 + i) := nI_add 52 i
theorem a62 (i : Nat) : (62 : Int32) + nI i = nI (62 + i) := nI_add 62 i
theorem a72 (i : Nat) : (72 : Int32) + nI i = nI (72 + i) := nI_add 72 i
theorem m1_ne {n : Nat} (h : n < 2 ^ 31) : ¬ nI n = -1 := fun q => nI_pos h (by rw [q]; decide)
theorem zo_m1 {o : Option Nat} (h : ∀ j, o = some j → j < 2 ^ 31) : zo o = -1 ↔ o = none := by
  cases o with
  | none => exact ⟨fun _ => rfl, fun _ => rfl⟩
  | some n => exact ⟨fun q => absurd q (m1_ne (h n rfl)), fun q => by cases q⟩
theorem isIn_n {m a b : Nat} (hm : m < 2 ^ 31) (ha : a < 2 ^ 31) (hb : b < 2 ^ 31) : f_X7_isIn (nI m) (nI a) (nI b) = (decide (a ≤ m) && decide (m ≤ b)) := by
  unfold f_X7_isIn
  by_cases h : m < a
  · rw [if_pos (nI_lt h ha), decide_eq_false (by omega), Bool.false_and]
  · rw [if_neg (nI_nlt (by omega) hm), decide_eq_true (by omega), Bool.true_and]
    by_cases h2 : b < m
    · rw [if_pos (nI_lt h2 hm), decide_eq_false (by omega)]
    · rw [if_neg (nI_nlt (by omega) hb), decide_eq_true (by omega)]
theorem isIn_neg {x : Int32} (h : x < 0) {a : Nat} (ha : a < 2 ^ 31) (y : Int32) : f_X7_isIn x (nI a) y = false := by
  unfold f_X7_isIn
  have h0 : x < nI a := Int32.lt_of_lt_of_le h (nI_pos' ha)
  rw [if_pos h0]
/-- a number is less than 0, or its place -/
theorem n_cs (x : Int32) : x < 0 ∨ ∃ m, m < 2 ^ 31 ∧ x = nI m := by
  by_cases h : x < 0
  · exact Or.inl h
  · exact Or.inr (nI_of h)
/-! nets, chips -/
theorem r_ones (x : Int32) : f_X7_ones x = some (nI (ct 16 (bt x))) := by
  have h := zlp (fun k i => f_X7_ones_4 k x (nI (ct i (bt x))) (nI i)) 16 (some (nI (ct 16 (bt x)))) (fun k i hi => by
    show f_X7_ones_4 (k + 1) x (nI (ct i (bt x))) (nI i) = f_X7_ones_4 k x (nI (ct (i + 1) (bt x))) (nI (i + 1))
    have e1 : ¬ (16 : Int32) ≤ nI i := nI_ge hi (by decide)
    have e2 : nI (ct i (bt x)) + (if bt x i = true then (1 : Int32) else 0) = nI (ct (i + 1) (bt x)) := by
      show _ = nI (ct i (bt x) + _)
      by_cases h : bt x i = true
      · rw [if_pos h, if_pos h]
        exact nI_1 _
      · rw [if_neg h, if_neg h]
        exact nI_add _ 0
    simp only [f_X7_ones_4, e1, if_false, zlt, b_key x (show i < 32 by omega), e2, a1]) (fun k => by
    show f_X7_ones_4 (k + 1) x (nI (ct 16 (bt x))) (nI 16) = _
    simp only [f_X7_ones_4, show (16 : Int32) ≤ nI 16 from nI_le (Nat.le_refl 16) (by decide), if_true]) 16 0 zFu (by omega) (zfu (by omega))
  unfold f_X7_ones
  rw [show f_X7_ones_4 zFu x 0 0 = _ from h]
  rfl
theorem r_netOf {R : zr} {r : zrow} (hR : zRr R r) (hV : zVr r) {p : Nat} (hp : p < 32) : f_X7_netOf R (nI p) = some (zo (nOf r p)) := by
  have hn := hV.n
  have e0 : R 1 0 = nI (cN r) := (hR 0 (by omega)).trans hn.1
  have h := zlq (fun k i => f_X7_netOf_2 k R (nI p) (nI i)) (fun n => bt (r (9 + n)) p) (fun j => some (Sum.inr (nI j))) (some (Sum.inl ())) (cN r) (fun k i hi _ hq => by
    show f_X7_netOf_2 (k + 1) R (nI p) (nI i) = f_X7_netOf_2 k R (nI p) (nI (i + 1))
    have e1 : ¬ nI (cN r) ≤ nI i := nI_ge hi (by omega)
    simp only [f_X7_netOf_2, e0, e1, if_false, a9, zin_n (show 9 + i < 88 by omega) (by decide), if_true, cl_n (show 9 + i < 2 ^ 31 by omega), hR (9 + i) (by omega), h7 _ hp, hq, Bool.false_eq_true, a1]) (fun k i hi _ hq => by
    show f_X7_netOf_2 (k + 1) R (nI p) (nI i) = _
    have e1 : ¬ nI (cN r) ≤ nI i := nI_ge hi (by omega)
    simp only [f_X7_netOf_2, e0, e1, if_false, a9, zin_n (show 9 + i < 88 by omega) (by decide), if_true, cl_n (show 9 + i < 2 ^ 31 by omega), hR (9 + i) (by omega), h7 _ hp, hq]) (fun k => by
    show f_X7_netOf_2 (k + 1) R (nI p) (nI (cN r)) = _
    simp only [f_X7_netOf_2, e0, nI_le (Nat.le_refl (cN r)) (by omega), if_true]) (cN r) 0 zFu (by omega) (zfu (by omega)) (fun j hj => absurd hj (Nat.not_lt_zero j))
  unfold f_X7_netOf
  rw [show f_X7_netOf_2 zFu R (nI p) 0 = _ from h]
  unfold nOf
  cases fst (cN r) (fun n => bt (r (9 + n)) p) <;> rfl
theorem nOf_lt {r : zrow} {p n : Nat} (h : nOf r p = some n) : n < cN r := fst_lt h
theorem nOf_bt {r : zrow} {p n : Nat} (h : nOf r p = some n) : bt (r (9 + n)) p = true := (fst_some.mp h).2.1
theorem nOf_iff {r : zrow} (hV : zVr r) {p n : Nat} : nOf r p = some n ↔ n < cN r ∧ bt (r (9 + n)) p = true := by
  constructor
  · exact fun h => ⟨nOf_lt h, nOf_bt h⟩
  · intro ⟨h1, h2⟩
    refine fst_some.mpr ⟨h1, h2, fun i hi => ?_⟩
    cases h3 : bt (r (9 + i)) p
    · rfl
    · exact absurd (hV.dis (show i < cN r by omega) h1 h3 h2) (by omega)
theorem r_roleOf {R : zr} {r : zrow} (hR : zRr R r) (hV : zVr r) {c p : Nat} (hc : c < cC r) (hp : p < 32) : f_X7_roleOf R (nI c) (nI p) = some (zo (role r c p)) := by
  have h5 := hV.c.2
  obtain ⟨he, hx, hl⟩ := hV.chip hc
  have q1 : (nI (eN r c) = nI p) = (eN r c = p) := propext (nI_eq (by omega) (by omega))
  have q2 : (nI (xN r c) = nI p) = (xN r c = p) := propext (nI_eq (by omega) (by omega))
  simp only [f_X7_roleOf, a17, a22, a27, zin_n (show 17 + c < 88 by omega) (by decide), zin_n (show 22 + c < 88 by omega) (by decide), zin_n (show 27 + c < 88 by omega) (by decide), if_true, cl_n (show 17 + c < 2 ^ 31 by omega), cl_n (show 22 + c < 2 ^ 31 by omega), cl_n (show 27 + c < 2 ^ 31 by omega), hR (17 + c) (by omega), hR (22 + c) (by omega), hR (27 + c) (by omega), he.1, hx.1, q1, q2, h7 _ hp, role]
  by_cases g1 : eN r c = p
  · rw [if_pos g1, if_pos g1]
    rfl
  · rw [if_neg g1, if_neg g1]
    by_cases g2 : xN r c = p
    · rw [if_pos g2, if_pos g2]
      rfl
    · rw [if_neg g2, if_neg g2]
      by_cases g3 : bt (r (27 + c)) p = true
      · rw [if_pos g3, if_pos g3]
        rfl
      · rw [if_neg g3, if_neg g3]
        rfl
theorem role_some {r : zrow} {c p : Nat} : (role r c p).isSome = hasP r c p := by
  unfold role hasP
  by_cases g1 : eN r c = p
  · simp [g1]
  · by_cases g2 : xN r c = p
    · simp [g1, g2]
    · cases h : bt (r (27 + c)) p <;> simp [g1, g2]
theorem role_lt {r : zrow} {c p j : Nat} (h : role r c p = some j) : j < 3 := by
  unfold role at h
  split at h
  · cases h; omega
  · split at h
    · cases h; omega
    · split at h
      · cases h; omega
      · cases h
theorem r_chipOf {R : zr} {r : zrow} (hR : zRr R r) (hV : zVr r) {p : Nat} (hp : p < 32) : f_X7_chipOf R (nI p) = some (zo (chOf r p)) := by
  have hn := hV.c
  have e0 : R 1 1 = nI (cC r) := (hR 1 (by omega)).trans hn.1
  have h := zlq (fun k i => f_X7_chipOf_2 k R (nI p) (nI i)) (fun c => hasP r c p) (fun j => some (Sum.inr (nI j))) (some (Sum.inl ())) (cC r) (fun k i hi _ hq => by
    show f_X7_chipOf_2 (k + 1) R (nI p) (nI i) = f_X7_chipOf_2 k R (nI p) (nI (i + 1))
    have e1 : ¬ nI (cC r) ≤ nI i := nI_ge hi (by omega)
    have e2 : role r i p = none := by
      cases h : role r i p with
      | none => rfl
      | some j =>
        have h2 := role_some (r := r) (c := i) (p := p)
        rw [h] at h2
        rw [← h2] at hq
        cases hq
    simp only [f_X7_chipOf_2, e0, e1, if_false, r_roleOf hR hV hi hp, Option.bind_some, e2, zo, if_true, a1]) (fun k i hi _ hq => by
    show f_X7_chipOf_2 (k + 1) R (nI p) (nI i) = _
    have e1 : ¬ nI (cC r) ≤ nI i := nI_ge hi (by omega)
    have e2 : ¬ zo (role r i p) = -1 := by
      intro q
      have h3 := (zo_m1 (fun j hj => by have := role_lt hj; omega)).mp q
      have h2 := role_some (r := r) (c := i) (p := p)
      rw [h3, hq] at h2
      cases h2
    simp only [f_X7_chipOf_2, e0, e1, if_false, r_roleOf hR hV hi hp, Option.bind_some, e2]) (fun k => by
    show f_X7_chipOf_2 (k + 1) R (nI p) (nI (cC r)) = _
    simp only [f_X7_chipOf_2, e0, nI_le (Nat.le_refl (cC r)) (by omega), if_true]) (cC r) 0 zFu (by omega) (zfu (by omega)) (fun j hj => absurd hj (Nat.not_lt_zero j))
  unfold f_X7_chipOf
  rw [show f_X7_chipOf_2 zFu R (nI p) 0 = _ from h]
  unfold chOf
  cases fst (cC r) (fun c => hasP r c p) <;> rfl
theorem c_chipWith {s : zs} {b : Nat} {r : zrow} (hB : zBr s b r) (hV : zVr r) {p : Nat} (hp : p < 32) : f_X0_chipWith s b (nI p) = some (zo (chOf r p)) := by
  have hn := hV.c
  have e0 : s.1 b 10 = nI (cC r) := hB.c.trans hn.1
  have hst : ∀ k i, i < cC r → f_X0_chipWith_2 (k + 1) s b (nI p) (nI i) = if hasP r i p = true then some (Sum.inr (nI i)) else f_X0_chipWith_2 k s b (nI p) (nI (i + 1)) := by
    intro k i hi
    have e1 : ¬ nI (cC r) ≤ nI i := nI_ge hi (by omega)
    obtain ⟨he, hx, hl⟩ := hV.chip hi
    have q1 : (nI (eN r i) = nI p) = (eN r i = p) := propext (nI_eq (by omega) (by omega))
    have q2 : (nI (xN r i) = nI p) = (xN r i = p) := propext (nI_eq (by omega) (by omega))
    simp only [f_X0_chipWith_2, e0, e1, if_false, zin_n (show i < 5 by omega) (by decide), if_true, cl_n (show i < 2 ^ 31 by omega), hB.e (show i < 5 by omega), hB.x (show i < 5 by omega), hB.l (show i < 5 by omega), he.1, hx.1, q1, q2, h6 _ hp, a1, hasP]
    by_cases g1 : eN r i = p
    · simp [g1]
    · by_cases g2 : xN r i = p
      · simp [g1, g2]
      · simp [g1, g2]
  have h := zlq (fun k i => f_X0_chipWith_2 k s b (nI p) (nI i)) (fun c => hasP r c p) (fun j => some (Sum.inr (nI j))) (some (Sum.inl ())) (cC r) (fun k i hi _ hq => by
    show f_X0_chipWith_2 (k + 1) s b (nI p) (nI i) = f_X0_chipWith_2 k s b (nI p) (nI (i + 1))
    rw [hst k i hi, hq]
    rfl) (fun k i hi _ hq => by
    show f_X0_chipWith_2 (k + 1) s b (nI p) (nI i) = _
    rw [hst k i hi, hq]
    rfl) (fun k => by
    show f_X0_chipWith_2 (k + 1) s b (nI p) (nI (cC r)) = _
    simp only [f_X0_chipWith_2, e0, nI_le (Nat.le_refl (cC r)) (by omega), if_true]) (cC r) 0 zFu (by omega) (zfu (by omega)) (fun j hj => absurd hj (Nat.not_lt_zero j))
  unfold f_X0_chipWith
  rw [show f_X0_chipWith_2 zFu s b (nI p) 0 = _ from h]
  unfold chOf
  cases fst (cC r) (fun c => hasP r c p) <;> rfl
theorem c_roleOf {s : zs} {b : Nat} {r : zrow} (hB : zBr s b r) (hV : zVr r) {p : Nat} (hp : p < 32) : f_X0_roleOf s b (nI p) = some (match chOf r p with | none => -1 | some c => zo (role r c p)) := by
  have hn := hV.c
  unfold f_X0_roleOf
  rw [c_chipWith hB hV hp, Option.bind_some]
  cases h : chOf r p with
  | none => rfl
  | some c =>
    have hc : c < cC r := fst_lt h
    have hq : hasP r c p = true := (fst_some.mp h).2.1
    obtain ⟨he, hx, hl⟩ := hV.chip hc
    have q1 : (nI (eN r c) = nI p) = (eN r c = p) := propext (nI_eq (by omega) (by omega))
    have q2 : (nI (xN r c) = nI p) = (xN r c = p) := propext (nI_eq (by omega) (by omega))
    have q3 : ¬ nI c = -1 := m1_ne (by omega)
    simp only [zo, q3, if_false, zin_n (show c < 5 by omega) (by decide), if_true, cl_n (show c < 2 ^ 31 by omega), hB.e (show c < 5 by omega), hB.x (show c < 5 by omega), he.1, hx.1, q1, q2, role]
    unfold hasP at hq
    by_cases g1 : eN r c = p
    · rw [if_pos g1, if_pos g1]
      rfl
    · by_cases g2 : xN r c = p
      · rw [if_neg g1, if_neg g1, if_pos g2, if_pos g2]
        rfl
      · have g3 : bt (r (27 + c)) p = true := by simpa [g1, g2] using hq
        rw [if_neg g1, if_neg g1, if_neg g2, if_neg g2, if_pos g3]
        rfl
/-- the pins that are blessed on a day -/
def tO (r : zrow) (d : Nat) : Int32 := mk 16 (fun p => bt (r (72 + p)) d)
theorem c_blessedOn {s : zs} {b : Nat} {r : zrow} (hB : zBr s b r) {d : Nat} (hd : d < 32) : f_X0_blessedOn s b (nI d) = some (tO r d) := by
  have h := zlp (fun k i => f_X0_blessedOn_4 k s b (nI d) (mk i (fun p => bt (r (72 + p)) d)) (nI i)) 16 (some (tO r d)) (fun k i hi => by
    show f_X0_blessedOn_4 (k + 1) s b (nI d) (mk i (fun p => bt (r (72 + p)) d)) (nI i) = f_X0_blessedOn_4 k s b (nI d) (mk (i + 1) (fun p => bt (r (72 + p)) d)) (nI (i + 1))
    have e1 : ¬ (16 : Int32) ≤ nI i := nI_ge hi (by decide)
    simp only [f_X0_blessedOn_4, e1, if_false, zin_n hi (by decide), if_true, cl_n (show i < 2 ^ 31 by omega), hB.bl hi, h6 _ hd, zlt, a1]
    by_cases g : bt (r (72 + i)) d = true
    · rw [if_pos g, mk_T (p := fun p => bt (r (72 + p)) d) g]
    · rw [if_neg g, mk_F (p := fun p => bt (r (72 + p)) d) (by simpa using g)]) (fun k => by
    show f_X0_blessedOn_4 (k + 1) s b (nI d) _ (nI 16) = _
    simp only [f_X0_blessedOn_4, show (16 : Int32) ≤ nI 16 from nI_le (Nat.le_refl 16) (by decide), if_true]
    rfl) 16 0 zFu (by omega) (zfu (by omega))
  unfold f_X0_blessedOn
  rw [show f_X0_blessedOn_4 zFu s b (nI d) 0 0 = _ from h]
  rfl
theorem r_touchedOn {R : zr} {r : zrow} (hR : zRr R r) {d : Nat} (hd : d < 32) : f_X7_touchedOn R (nI d) = some (tO r d) := by
  have h := zlp (fun k i => f_X7_touchedOn_4 k R (nI d) (mk i (fun p => bt (r (72 + p)) d)) (nI i)) 16 (some (tO r d)) (fun k i hi => by
    show f_X7_touchedOn_4 (k + 1) R (nI d) (mk i (fun p => bt (r (72 + p)) d)) (nI i) = f_X7_touchedOn_4 k R (nI d) (mk (i + 1) (fun p => bt (r (72 + p)) d)) (nI (i + 1))
    have e1 : ¬ (16 : Int32) ≤ nI i := nI_ge hi (by decide)
    simp only [f_X7_touchedOn_4, e1, if_false, a72, zin_n (show 72 + i < 88 by omega) (by decide), if_true, cl_n (show 72 + i < 2 ^ 31 by omega), hR (72 + i) (by omega), h7 _ hd, zlt, a1, or_0]
    by_cases g : bt (r (72 + i)) d = true
    · rw [if_pos g, mk_T (p := fun p => bt (r (72 + p)) d) g]
    · rw [if_neg g, mk_F (p := fun p => bt (r (72 + p)) d) (by simpa using g)]) (fun k => by
    show f_X7_touchedOn_4 (k + 1) R (nI d) _ (nI 16) = _
    simp only [f_X7_touchedOn_4, show (16 : Int32) ≤ nI 16 from nI_le (Nat.le_refl 16) (by decide), if_true]
    rfl) 16 0 zFu (by omega) (zfu (by omega))
  unfold f_X7_touchedOn
  rw [show f_X7_touchedOn_4 zFu R (nI d) 0 0 = _ from h]
  rfl
