/-! Int32 by its bits (begun with the kit's family of laws/BITS.to-paste) -/
def bt (x : Int32) (i : Nat) : Bool := x.toBitVec.getLsbD i
theorem b_ext {x y : Int32} (h : ∀ i, i < 32 → bt x i = bt y i) : x = y := Int32.toBitVec_inj.mp (BitVec.eq_of_getLsbD_eq (fun i hi => h i hi))
theorem b_or (x y : Int32) (i : Nat) : bt (x ||| y) i = (bt x i || bt y i) := by unfold bt; rw [Int32.toBitVec_or, BitVec.getLsbD_or]
theorem b_and (x y : Int32) (i : Nat) : bt (x &&& y) i = (bt x i && bt y i) := by unfold bt; rw [Int32.toBitVec_and, BitVec.getLsbD_and]
theorem b_xor (x y : Int32) (i : Nat) : bt (x ^^^ y) i = (bt x i ^^ bt y i) := by unfold bt; rw [Int32.toBitVec_xor, BitVec.getLsbD_xor]
theorem b_big {x : Int32} {i : Nat} (h : 32 ≤ i) : bt x i = false := BitVec.getLsbD_of_ge _ _ h
theorem b_m1 : ∀ i, i < 32 → bt (-1) i = true := by decide +kernel
theorem b_0 (i : Nat) : bt 0 i = false := BitVec.getLsbD_zero
theorem s_l : ∀ n, n < 32 → ((nI n &&& 31).toBitVec.smod 32).toNat = n := by decide +kernel
theorem b_shl (n : Nat) (hn : n < 32) (x : Int32) {i : Nat} (hi : i < 32) : bt (x <<< (nI n &&& 31)) i = (decide (n ≤ i) && bt x (i - n)) := by
  unfold bt
  rw [Int32.toBitVec_shiftLeft]
  show (x.toBitVec <<< ((nI n &&& 31).toBitVec.smod 32).toNat).getLsbD i = _
  rw [s_l n hn, BitVec.getLsbD_shiftLeft]
  rcases Nat.lt_or_ge i n with h | h
  · simp [h, Nat.not_le.mpr h]
  · simp [hi, h, Nat.not_lt.mpr h]
theorem b_sshr (n : Nat) (hn : n < 32) (x : Int32) {i : Nat} (hi : i < 32) : bt (x >>> (nI n &&& 31)) i = if n + i < 32 then bt x (n + i) else bt x 31 := by
  unfold bt
  rw [Int32.toBitVec_shiftRight]
  show (x.toBitVec.sshiftRight ((nI n &&& 31).toBitVec.smod 32).toNat).getLsbD i = _
  rw [s_l n hn, BitVec.getLsbD_sshiftRight, BitVec.msb_eq_getLsbD_last]
  simp [hi]
theorem b_1 : ∀ i, i < 32 → bt 1 i = decide (i = 0) := by decide +kernel
theorem b_bit {n i : Nat} (hn : n < 32) (hi : i < 32) : bt ((1 : Int32) <<< (nI n &&& 31)) i = decide (i = n) := by
  rw [b_shl n hn _ hi]
  by_cases h : n ≤ i
  · rw [b_1 _ (by omega)]
    by_cases h2 : i = n
    · subst h2
      simp
    · simp [h, h2, show ¬ i - n = 0 by omega]
  · simp [h, show ¬ i = n by omega]
theorem b_key (x : Int32) {k : Nat} (hk : k < 32) : (x >>> (nI k &&& 31)) &&& 1 = if bt x k then 1 else 0 := by
  apply b_ext
  intro i hi
  rw [b_and, b_sshr k hk x hi, b_1 i hi]
  by_cases h : i = 0
  · subst h
    simp only [Nat.add_zero, hk, if_true, decide_true, Bool.and_true]
    cases h2 : bt x k
    · simp [b_0]
    · simp [b_1]
  · simp only [h, decide_false, Bool.and_false]
    cases h2 : bt x k
    · simp [b_0]
    · simp [b_1 i hi, h]
/-- the set of the first numbers with a property -/
def mk : Nat → (Nat → Bool) → Int32
  | 0, _ => 0
  | n + 1, p => if p n = true then mk n p ||| ((1 : Int32) <<< (nI n &&& 31)) else mk n p
theorem mk_T {n : Nat} {p : Nat → Bool} (h : p n = true) : mk n p ||| ((1 : Int32) <<< (nI n &&& 31)) = mk (n + 1) p := (if_pos h).symm
theorem mk_F {n : Nat} {p : Nat → Bool} (h : p n = false) : mk n p = mk (n + 1) p := (if_neg (by rw [h]; decide)).symm
theorem or_0 (x : Int32) : x ||| 0 = x := b_ext fun i _ => by rw [b_or, b_0, Bool.or_false]
theorem or_0' (x : Int32) : 0 ||| x = x := b_ext fun i _ => by rw [b_or, b_0, Bool.false_or]
theorem or_self (x : Int32) : x ||| x = x := b_ext fun i _ => by rw [b_or, Bool.or_self]
theorem mk_F0 {n : Nat} {p : Nat → Bool} (h : p n = false) : mk n p ||| 0 = mk (n + 1) p := by rw [or_0, mk_F h]
theorem bt_mk {n : Nat} (hn : n ≤ 32) (p : Nat → Bool) (i : Nat) : bt (mk n p) i = (decide (i < n) && p i) := by
  induction n with
  | zero => simp [mk, b_0]
  | succ n ih =>
    rcases Nat.lt_or_ge i 32 with hi | hi
    · unfold mk
      by_cases h : p n = true
      · rw [if_pos h, b_or, ih (by omega), b_bit (by omega) hi]
        by_cases h2 : i = n
        · subst h2
          simp [h]
        · by_cases h3 : i < n
          · simp [h2, h3, show i < n + 1 by omega]
          · simp [h2, h3, show ¬ i < n + 1 by omega]
      · rw [if_neg h, ih (by omega)]
        by_cases h2 : i = n
        · subst h2
          simp [h]
        · by_cases h3 : i < n
          · simp [h3, show i < n + 1 by omega]
          · simp [h3, show ¬ i < n + 1 by omega]
    · rw [b_big hi, decide_eq_false (by omega), Bool.false_and]
theorem mk_cg {n : Nat} {p q : Nat → Bool} (h : ∀ i, i < n → p i = q i) : mk n p = mk n q := by
  induction n with
  | zero => rfl
  | succ n ih =>
    unfold mk
    rw [ih (fun i hi => h i (by omega)), h n (by omega)]
theorem mk_bt {n : Nat} (hn : n ≤ 32) {x : Int32} (h : ∀ i, n ≤ i → bt x i = false) : mk n (bt x) = x := by
  apply b_ext
  intro i hi
  rw [bt_mk hn]
  rcases Nat.lt_or_ge i n with h2 | h2
  · simp [h2]
  · simp [Nat.not_lt.mpr h2, h i h2]
/-- how many of the first numbers have a property -/
def ct : Nat → (Nat → Bool) → Nat
  | 0, _ => 0
  | n + 1, p => ct n p + (if p n = true then 1 else 0)
theorem ct_le (n : Nat) (p : Nat → Bool) : ct n p ≤ n := by
  induction n with
  | zero => exact Nat.le_refl _
  | succ n ih =>
    unfold ct
    split <;> omega
theorem ct_cg {n : Nat} {p q : Nat → Bool} (h : ∀ i, i < n → p i = q i) : ct n p = ct n q := by
  induction n with
  | zero => rfl
  | succ n ih =>
    unfold ct
    rw [ih (fun i hi => h i (by omega)), h n (by omega)]
theorem ct_mono {n : Nat} {p q : Nat → Bool} (h : ∀ i, i < n → p i = true → q i = true) : ct n p ≤ ct n q := by
  induction n with
  | zero => exact Nat.le_refl _
  | succ n ih =>
    unfold ct
    have h1 := ih (fun i hi => h i (by omega))
    by_cases hp : p n = true
    · rw [if_pos hp, if_pos (h n (by omega) hp)]
      omega
    · rw [if_neg hp]
      omega
theorem ct_lt {n : Nat} {p q : Nat → Bool} (h : ∀ i, i < n → p i = true → q i = true) {j : Nat} (hj : j < n) (hp : p j = false) (hq : q j = true) : ct n p < ct n q := by
  induction n with
  | zero => omega
  | succ n ih =>
    unfold ct
    by_cases hjn : j = n
    · subst hjn
      have h1 := ct_mono (n := j) (fun i hi => h i (by omega))
      rw [if_neg (by rw [hp]; decide), if_pos hq]
      omega
    · have h1 := ih (fun i hi => h i (by omega)) (by omega)
      by_cases hp2 : p n = true
      · rw [if_pos hp2, if_pos (h n (by omega) hp2)]
        omega
      · rw [if_neg hp2]
        omega
/-- the first number with a property -/
def fst : Nat → (Nat → Bool) → Option Nat
  | 0, _ => none
  | n + 1, p => match fst n p with
    | some j => some j
    | none => if p n = true then some n else none
theorem fst_none {n : Nat} {p : Nat → Bool} : fst n p = none ↔ ∀ i, i < n → p i = false := by
  induction n with
  | zero => simp [fst]
  | succ n ih =>
    unfold fst
    cases h : fst n p with
    | some j =>
      refine ⟨fun h2 => (by cases h2), fun h2 => ?_⟩
      have := ih.mpr (fun i hi => h2 i (by omega))
      rw [h] at this
      cases this
    | none =>
      have h1 := ih.mp h
      show (if p n = true then some n else none) = none ↔ _
      by_cases hp : p n = true
      · rw [if_pos hp]
        refine ⟨fun h2 => (by cases h2), fun h2 => ?_⟩
        have := h2 n (by omega)
        rw [hp] at this
        cases this
      · rw [if_neg hp]
        refine ⟨fun _ i hi => ?_, fun _ => rfl⟩
        by_cases h3 : i = n
        · subst h3
          simpa using hp
        · exact h1 i (by omega)
theorem fst_some {n : Nat} {p : Nat → Bool} {j : Nat} : fst n p = some j ↔ j < n ∧ p j = true ∧ ∀ i, i < j → p i = false := by
  induction n generalizing j with
  | zero => simp [fst]
  | succ n ih =>
    unfold fst
    cases h : fst n p with
    | some k =>
      have h3 := ih.mp h
      constructor
      · intro h2
        have e : k = j := Option.some.inj h2
        subst e
        exact ⟨by omega, h3.2.1, h3.2.2⟩
      · intro ⟨a, b, c⟩
        show some k = some j
        rcases Nat.lt_trichotomy k j with h4 | h4 | h4
        · rw [c k h4] at h3
          exact absurd h3.2.1 (by decide)
        · rw [h4]
        · rw [h3.2.2 j h4] at b
          exact absurd b (by decide)
    | none =>
      have h1 := fst_none.mp h
      show (if p n = true then some n else none) = some j ↔ _
      by_cases hp : p n = true
      · rw [if_pos hp]
        constructor
        · intro h2
          have e : n = j := Option.some.inj h2
          subst e
          exact ⟨by omega, hp, h1⟩
        · intro ⟨a, b, c⟩
          by_cases hj : j < n
          · rw [h1 j hj] at b
            exact absurd b (by decide)
          · rw [show j = n by omega]
      · rw [if_neg hp]
        constructor
        · intro h2
          cases h2
        · intro ⟨a, b, c⟩
          by_cases hj : j < n
          · rw [h1 j hj] at b
            exact absurd b (by decide)
          · exact absurd (show p n = true by rw [← show j = n by omega]; exact b) hp
theorem fst_cg {n : Nat} {p q : Nat → Bool} (h : ∀ i, i < n → p i = q i) : fst n p = fst n q := by
  induction n with
  | zero => rfl
  | succ n ih =>
    unfold fst
    rw [ih (fun i hi => h i (by omega)), h n (by omega)]
theorem fst_lt {n : Nat} {p : Nat → Bool} {j : Nat} (h : fst n p = some j) : j < n := (fst_some.mp h).1
def zo : Option Nat → Int32
  | none => -1
  | some n => nI n
/-! loops by fuel -/
/-- a loop whose place is told by the count of its rounds -/
theorem zlp {β : Type} (G : Nat → Nat → β) (n : Nat) (r : β) (hs : ∀ k i, i < n → G (k + 1) i = G k (i + 1)) (he : ∀ k, G (k + 1) n = r) : ∀ m i k, i + m = n → m < k → G k i = r := by
  intro m
  induction m with
  | zero =>
    intro i k h hk
    obtain ⟨k, rfl⟩ : ∃ j, k = j + 1 := ⟨k - 1, by omega⟩
    rw [show i = n by omega]
    exact he k
  | succ m ih =>
    intro i k h hk
    obtain ⟨k, rfl⟩ : ∃ j, k = j + 1 := ⟨k - 1, by omega⟩
    rw [hs k i (by omega)]
    exact ih (i + 1) k (by omega) (by omega)
/-- a loop that may end early -/
theorem zlq {β : Type} (G : Nat → Nat → β) (q : Nat → Bool) (hv : Nat → β) (ev : β) (n : Nat) (hs : ∀ k i, i < n → (∀ j, j < i → q j = false) → q i = false → G (k + 1) i = G k (i + 1)) (hh : ∀ k i, i < n → (∀ j, j < i → q j = false) → q i = true → G (k + 1) i = hv i) (he : ∀ k, G (k + 1) n = ev) : ∀ m i k, i + m = n → m < k → (∀ j, j < i → q j = false) → G k i = (match fst n q with | some j => hv j | none => ev) := by
  intro m
  induction m with
  | zero =>
    intro i k h hk hq
    obtain ⟨k, rfl⟩ : ∃ j, k = j + 1 := ⟨k - 1, by omega⟩
    have hin : i = n := by omega
    subst hin
    rw [fst_none.mpr hq]
    exact he k
  | succ m ih =>
    intro i k h hk hq
    obtain ⟨k, rfl⟩ : ∃ j, k = j + 1 := ⟨k - 1, by omega⟩
    cases hqi : q i
    · rw [hs k i (by omega) hq hqi]
      refine ih (i + 1) k (by omega) (by omega) (fun j hj => ?_)
      by_cases h2 : j = i
      · subst h2
        exact hqi
      · exact hq j (by omega)
    · rw [hh k i (by omega) hq hqi, fst_some.mpr ⟨by omega, hqi, hq⟩]
/-- a loop that carries a property -/
theorem zli {σ β : Type} (F : Nat → Nat → σ → β) (I : Nat → σ → Prop) (Q : β → Prop) (n : Nat) (hs : ∀ k i x, i < n → I i x → (∃ x', I (i + 1) x' ∧ F (k + 1) i x = F k (i + 1) x') ∨ Q (F (k + 1) i x)) (he : ∀ k x, I n x → Q (F (k + 1) n x)) : ∀ m i k x, i + m = n → m < k → I i x → Q (F k i x) := by
  intro m
  induction m with
  | zero =>
    intro i k x h hk hI
    obtain ⟨k, rfl⟩ : ∃ j, k = j + 1 := ⟨k - 1, by omega⟩
    have hin : i = n := by omega
    subst hin
    exact he k x hI
  | succ m ih =>
    intro i k x h hk hI
    obtain ⟨k, rfl⟩ : ∃ j, k = j + 1 := ⟨k - 1, by omega⟩
    rcases hs k i x (by omega) hI with ⟨x', h1, h2⟩ | h1
    · rw [h2]
      exact ih (i + 1) k x' (by omega) (by omega) h1
    · exact h1
/-! numbers -/
theorem zin_n {i n : Nat} (h : i < n) (hn : n < 2 ^ 31) : zin (nI i) n = true := by
  unfold zin
  rw [nI_clamp (by omega)]
  simp [h, nI_pos (show i < 2 ^ 31 by omega)]
theorem cl_n {i : Nat} (h : i < 2 ^ 31) : (nI i).toNatClampNeg = i := nI_clamp h
theorem zfu {m : Nat} (h : m < 1000) : m < zFu := h
theorem hi_ex {x : Int32} (h : ∀ i, 16 ≤ i → bt x i = false) : ∃ m, m < 65536 ∧ x = nI m := by
  have h2 : x = x &&& 65535 := by
    apply b_ext
    intro i hi
    rw [b_and]
    have : bt 65535 i = decide (i < 16) := (by decide +kernel : ∀ i, i < 32 → bt 65535 i = decide (i < 16)) i hi
    rw [this]
    rcases Nat.lt_or_ge i 16 with h3 | h3
    · simp [h3]
    · simp [h i h3]
  obtain ⟨j, hj, e⟩ := pk_andE x (m := 65535) 16 (by decide)
  exact ⟨j, hj, h2.trans e⟩
theorem bt_nI {m i : Nat} (hi : i < 32) : bt (nI m) i = m.testBit i := by
  unfold bt
  show (BitVec.ofNat 32 m).getLsbD i = _
  rw [BitVec.getLsbD_ofNat]
  simp [hi]
theorem hi_nI {m : Nat} (hm : m < 65536) : ∀ i, 16 ≤ i → bt (nI m) i = false := by
  intro i hi
  rcases Nat.lt_or_ge i 32 with h | h
  · rw [bt_nI h]
    exact Nat.testBit_lt_two_pow (Nat.lt_of_lt_of_le hm (show 2 ^ 16 ≤ 2 ^ i from Nat.pow_le_pow_right (by decide) hi))
  · exact b_big h
theorem hi_mask (x : Int32) : x &&& (-65536) = 0 ↔ ∀ i, 16 ≤ i → bt x i = false := by
  have hb : ∀ i, i < 32 → bt (-65536) i = decide (16 ≤ i) := by decide +kernel
  constructor
  · intro h i hi
    rcases Nat.lt_or_ge i 32 with h3 | h3
    · have h2 : bt (x &&& (-65536)) i = false := by rw [h]; exact b_0 i
      rw [b_and, hb i h3, decide_eq_true hi, Bool.and_true] at h2
      exact h2
    · exact b_big h3
  · intro h
    apply b_ext
    intro i hi
    rw [b_and, b_0, hb i hi]
    rcases Nat.lt_or_ge i 16 with h3 | h3
    · simp [show ¬ 16 ≤ i by omega]
    · simp [h i h3]
/-- the bit count of numbers below 65,536 -/
def bcN (m : Nat) : Nat :=
  let y1 := m - ((m >>> 1) &&& 1431655765)
  let y3 := (y1 &&& 858993459) + ((y1 >>> 2) &&& 858993459)
  let y5 := (y3 + (y3 >>> 4)) &&& 252645135
  let y7 := y5 + (y5 >>> 8)
  let y9 := y7 + (y7 >>> 16)
  y9 &&& 63
theorem ld {k a b c d : Nat} (hb : b < 2 ^ k) (hd : d < 2 ^ k) : (2 ^ k * a + b) &&& (2 ^ k * c + d) = 2 ^ k * (a &&& c) + (b &&& d) := by
  apply Nat.eq_of_testBit_eq
  intro j
  rw [Nat.testBit_and, Nat.testBit_two_pow_mul_add _ hb, Nat.testBit_two_pow_mul_add _ hd, Nat.testBit_two_pow_mul_add _ (Nat.lt_of_le_of_lt Nat.and_le_left hb)]
  by_cases h : j < k
  · simp only [h, if_true, Nat.testBit_and]
  · simp only [h, if_false, Nat.testBit_and]
theorem lq {a b c d : Nat} (ha : a < 256) (hb : b < 256) (hd : d < 256) : (256 * a + b) &&& (65536 * c + 256 * d + d) = 256 * (a &&& d) + (b &&& d) := by
  have h1 := ld (k := 8) (a := a) (b := b) (c := 256 * c + d) (d := d) hb hd
  have h2 := ld (k := 8) (a := 0) (b := a) (c := c) (d := d) ha hd
  rw [Nat.zero_and] at h2
  have e1 : 65536 * c + 256 * d + d = 2 ^ 8 * (256 * c + d) + d := by omega
  have e2 : 2 ^ 8 * 0 + a = a := by omega
  have e3 : 2 ^ 8 * c + d = 256 * c + d := by omega
  rw [e2, e3] at h2
  rw [e1]
  rw [h2] at h1
  have e4 : 2 ^ 8 * a + b = 256 * a + b := by omega
  rw [e4] at h1
  rw [h1]
  omega
theorem lw {k x y d : Nat} (hy : y < 2 ^ k) (hd : d < 2 ^ k) : (2 ^ k * x + y) &&& d = y &&& d := by
  have h := ld (k := k) (a := x) (b := y) (c := 0) (d := d) hy hd
  rw [Nat.and_zero, Nat.mul_zero, Nat.zero_add, Nat.zero_add] at h
  exact h
theorem l15 (x : Nat) : x &&& 15 = x % 16 := Nat.and_two_pow_sub_one_eq_mod x 4
theorem l63 (x : Nat) : x &&& 63 = x % 64 := Nat.and_two_pow_sub_one_eq_mod x 6
def by1 (x : Nat) : Nat := x - (x / 2 &&& 85)
def by3 (x : Nat) : Nat := (by1 x &&& 51) + (by1 x / 4 &&& 51)
theorem by_tab : ∀ x, x < 256 → ((x / 2 &&& 85) ≤ x ∧ by1 x < 256) ∧ (by3 x < 128 ∧ by3 x % 16 ≤ 4) ∧ (by3 x + by3 x / 16) % 16 = ct 8 x.testBit := by decide +kernel
theorem ct_add (n m : Nat) (p : Nat → Bool) : ct (n + m) p = ct n p + ct m (fun i => p (n + i)) := by
  induction m with
  | zero => rfl
  | succ m ih =>
    show ct (n + m) p + (if p (n + m) = true then 1 else 0) = ct n p + (ct m (fun i => p (n + i)) + (if p (n + m) = true then 1 else 0))
    rw [ih]
    omega
theorem bc_tab {a b : Nat} (ha : a < 256) (hb : b < 256) : bcN (256 * a + b) = ct 16 (256 * a + b).testBit := by
  obtain ⟨⟨ta1, ta2⟩, ⟨ta3, ta4⟩, ta5⟩ := by_tab a ha
  obtain ⟨⟨tb1, tb2⟩, ⟨tb3, tb4⟩, tb5⟩ := by_tab b hb
  have hc : ct 16 (256 * a + b).testBit = ct 8 b.testBit + ct 8 a.testBit := by
    rw [ct_add 8 8]
    have e := fun j => Nat.testBit_two_pow_mul_add a (i := 8) (b := b) hb j
    have e0 : 2 ^ 8 * a + b = 256 * a + b := by omega
    rw [e0] at e
    congr 1
    · exact ct_cg (fun i hi => by rw [e, if_pos hi])
    · exact ct_cg (fun i hi => by rw [e, if_neg (by omega), show 8 + i - 8 = i by omega])
  rw [hc]
  have s1 : (256 * a + b) / 2 &&& 1431655765 = 256 * (a / 2 &&& 85) + (b / 2 &&& 85) := by
    have e1 : (256 * a + b) / 2 = 256 * (a / 2) + (2 ^ 7 * (a % 2) + b / 2) := by omega
    have e2 : 1431655765 = 65536 * 21845 + 256 * 85 + 85 := by decide
    rw [e1, e2, lq (by omega) (by omega) (by decide), lw (by omega) (by decide)]
  unfold bcN
  simp only [Nat.shiftRight_eq_div_pow]
  rw [show (2 : Nat) ^ 1 = 2 from rfl, show (2 : Nat) ^ 2 = 4 from rfl, show (2 : Nat) ^ 4 = 16 from rfl, show (2 : Nat) ^ 8 = 256 from rfl, show (2 : Nat) ^ 16 = 65536 from rfl]
  have s2 : 256 * a + b - ((256 * a + b) / 2 &&& 1431655765) = 256 * by1 a + by1 b := by
    rw [s1]
    unfold by1
    omega
  rw [s2]
  have s3 : ((256 * by1 a + by1 b) &&& 858993459) + ((256 * by1 a + by1 b) / 4 &&& 858993459) = 256 * by3 a + by3 b := by
    have e1 : (256 * by1 a + by1 b) / 4 = 256 * (by1 a / 4) + (2 ^ 6 * (by1 a % 4) + by1 b / 4) := by omega
    have e2 : 858993459 = 65536 * 13107 + 256 * 51 + 51 := by decide
    rw [e1, e2, lq ta2 tb2 (by decide), lq (by omega) (by omega) (by decide), lw (by omega) (by decide)]
    unfold by3
    omega
  rw [s3]
  have s4 : (256 * by3 a + by3 b + (256 * by3 a + by3 b) / 16) &&& 252645135 = 256 * ct 8 a.testBit + ct 8 b.testBit := by
    have e1 : 256 * by3 a + by3 b + (256 * by3 a + by3 b) / 16 = 256 * (by3 a + by3 a / 16) + (16 * (by3 a % 16) + (by3 b + by3 b / 16)) := by omega
    have e2 : 252645135 = 65536 * 3855 + 256 * 15 + 15 := by decide
    rw [e1, e2, lq (by omega) (by omega) (by decide), l15, l15, ta5, show (16 * (by3 a % 16) + (by3 b + by3 b / 16)) % 16 = (by3 b + by3 b / 16) % 16 by omega, tb5]
  rw [s4, l63]
  have h1 := ct_le 8 a.testBit
  have h2 := ct_le 8 b.testBit
  clear hc s1 s2 s3 s4
  generalize ct 8 a.testBit = A at h1
  generalize ct 8 b.testBit = B at h2
  rw [show (256 * A + B) / 256 = A by omega, show (256 * A + B + A) / 65536 = 0 by omega]
  omega
theorem an_and (a b : Nat) : nI a &&& nI b = nI (a &&& b) := by
  apply Int32.toBitVec_inj.1
  show BitVec.ofNat 32 a &&& BitVec.ofNat 32 b = BitVec.ofNat 32 (a &&& b)
  apply BitVec.eq_of_getLsbD_eq
  intro i hi
  simp [hi]
theorem bc_J {m : Nat} (hm : m < 65536) : f_J6_bitCount_0f7a4 (nI m) = nI (bcN m) := by
  have h1 : ∀ (n : Nat), n < 2 ^ 32 → ((nI n).toUInt32 >>> ((1 : Int32).toUInt32 &&& Int32.toUInt32 31)).toInt32 = nI (n >>> 1) := fun n h => by rw [Nat.shiftRight_eq_div_pow]; exact pk_ushrN h 1 1 (by decide)
  have h2 : ∀ (n : Nat), n < 2 ^ 32 → ((nI n).toUInt32 >>> ((2 : Int32).toUInt32 &&& Int32.toUInt32 31)).toInt32 = nI (n >>> 2) := fun n h => by rw [Nat.shiftRight_eq_div_pow]; exact pk_ushrN h 2 2 (by decide)
  have h4 : ∀ (n : Nat), n < 2 ^ 32 → ((nI n).toUInt32 >>> ((4 : Int32).toUInt32 &&& Int32.toUInt32 31)).toInt32 = nI (n >>> 4) := fun n h => by rw [Nat.shiftRight_eq_div_pow]; exact pk_ushrN h 4 4 (by decide)
  have h8 : ∀ (n : Nat), n < 2 ^ 32 → ((nI n).toUInt32 >>> ((8 : Int32).toUInt32 &&& Int32.toUInt32 31)).toInt32 = nI (n >>> 8) := fun n h => by rw [Nat.shiftRight_eq_div_pow]; exact pk_ushrN h 8 8 (by decide)
  have h16 : ∀ (n : Nat), n < 2 ^ 32 → ((nI n).toUInt32 >>> ((16 : Int32).toUInt32 &&& Int32.toUInt32 31)).toInt32 = nI (n >>> 16) := fun n h => by rw [Nat.shiftRight_eq_div_pow]; exact pk_ushrN h 16 16 (by decide)
  have c1 : (1431655765 : Int32) = nI 1431655765 := rfl
  have c2 : (858993459 : Int32) = nI 858993459 := rfl
  have c3 : (252645135 : Int32) = nI 252645135 := rfl
  have c4 : (63 : Int32) = nI 63 := rfl
  have hle : ∀ a b : Nat, a >>> b ≤ a := fun a b => by rw [Nat.shiftRight_eq_div_pow]; exact Nat.div_le_self _ _
  unfold f_J6_bitCount_0f7a4
  simp only [zlt, bcN]
  rw [h1 m (by omega), c1, an_and, pk_sub (Nat.le_trans Nat.and_le_left (hle m 1))]
  generalize hy1 : m - (m >>> 1 &&& 1431655765) = y1
  have b1 : y1 < 65536 := by omega
  rw [h2 y1 (by omega), c2, an_and, an_and, nI_add]
  generalize hy3 : (y1 &&& 858993459) + (y1 >>> 2 &&& 858993459) = y3
  have b3 : y3 < 131072 := by
    have e1 : y1 &&& 858993459 ≤ y1 := Nat.and_le_left
    have e2 : y1 >>> 2 &&& 858993459 ≤ y1 >>> 2 := Nat.and_le_left
    have e3 := hle y1 2
    omega
  rw [h4 y3 (by omega), c3, nI_add, an_and]
  generalize hy5 : (y3 + y3 >>> 4) &&& 252645135 = y5
  have b5 : y5 < 262144 := by
    have e1 : (y3 + y3 >>> 4) &&& 252645135 ≤ (y3 + y3 >>> 4) := Nat.and_le_left
    have e3 := hle y3 4
    omega
  rw [h8 y5 (by omega), nI_add]
  generalize hy7 : y5 + y5 >>> 8 = y7
  have b7 : y7 < 524288 := by
    have e3 := hle y5 8
    omega
  rw [h16 y7 (by omega), nI_add, c4, an_and]
theorem bc_ct {x : Int32} (h : ∀ i, 16 ≤ i → bt x i = false) : f_J6_bitCount_0f7a4 x = nI (ct 16 (bt x)) := by
  obtain ⟨m, hm, rfl⟩ := hi_ex h
  have e := bc_tab (a := m / 256) (b := m % 256) (by omega) (by omega)
  rw [Nat.div_add_mod m 256] at e
  rw [bc_J hm, e]
  congr 1
  exact ct_cg (fun i hi => (bt_nI (by omega)).symm)
