/-! suspects: what is linked, fed, read, reached -/
theorem zc_ne {s : zs} {a a' k : Nat} {v : Int32} (h : a' ≠ a) : (zc s a k v).1 a' = s.1 a' := if_neg h
theorem zc_eq {s : zs} {a k : Nat} {v : Int32} : (zc s a k v).1 a = upd (s.1 a) k v := if_pos rfl
theorem upd_at {f : Nat → Int32} {k : Nat} {v : Int32} : upd f k v k = v := if_pos rfl
theorem upd_ne {f : Nat → Int32} {j k : Nat} {v : Int32} (h : j ≠ k) : upd f k v j = f j := if_neg h
theorem zc_at {s : zs} {a k : Nat} {v : Int32} : (zc s a k v).1 a k = v := by rw [zc_eq, upd_at]
theorem zc_nk {s : zs} {a j k : Nat} {v : Int32} (h : j ≠ k) : (zc s a k v).1 a j = s.1 a j := by rw [zc_eq, upd_ne h]
theorem zm_ne {R : zr} {a a' k : Nat} {v : Int32} (h : a' ≠ a) : zm R a k v a' = R a' := if_neg h
theorem zm_eq {R : zr} {a k : Nat} {v : Int32} : zm R a k v a = upd (R a) k v := if_pos rfl
theorem zm_at {R : zr} {a k : Nat} {v : Int32} : zm R a k v a k = v := by rw [zm_eq, upd_at]
theorem zm_nk {R : zr} {a j k : Nat} {v : Int32} (h : j ≠ k) : zm R a k v a j = R a j := by rw [zm_eq, upd_ne h]
theorem zBr.cg {s s' : zs} {b : Nat} {r : zrow} (h : zBr s b r) (e : ∀ a, b ≤ a → a < b + 10 → s'.1 a = s.1 a) : zBr s' b r := by
  unfold zBr at h ⊢
  rw [e b (by omega) (by omega), e (b + 1) (by omega) (by omega), e (b + 2) (by omega) (by omega), e (b + 3) (by omega) (by omega), e (b + 4) (by omega) (by omega), e (b + 5) (by omega) (by omega), e (b + 6) (by omega) (by omega), e (b + 7) (by omega) (by omega), e (b + 8) (by omega) (by omega), e (b + 9) (by omega) (by omega)]
  exact h
/-- whether one of the first has a property -/
def an : Nat → (Nat → Bool) → Bool
  | 0, _ => false
  | n + 1, q => an n q || q n
theorem an_iff {n : Nat} {q : Nat → Bool} : an n q = true ↔ ∃ i, i < n ∧ q i = true := by
  induction n with
  | zero => exact ⟨fun h => (by cases h), fun ⟨i, hi, _⟩ => absurd hi (Nat.not_lt_zero i)⟩
  | succ n ih =>
    unfold an
    rw [Bool.or_eq_true, ih]
    constructor
    · rintro (⟨i, hi, hq⟩ | hq)
      · exact ⟨i, by omega, hq⟩
      · exact ⟨n, by omega, hq⟩
    · rintro ⟨i, hi, hq⟩
      by_cases h : i = n
      · rw [h] at hq
        exact Or.inr hq
      · exact Or.inl ⟨i, by omega, hq⟩
theorem an_f {n : Nat} {q : Nat → Bool} : an n q = false ↔ ∀ i, i < n → q i = false := by
  constructor
  · intro h i hi
    cases hq : q i
    · rfl
    · rw [an_iff.mpr ⟨i, hi, hq⟩] at h
      exact absurd h (by decide)
  · intro h
    cases hq : an n q
    · rfl
    · obtain ⟨i, hi, h2⟩ := an_iff.mp hq
      rw [h i hi] at h2
      exact absurd h2 (by decide)
theorem an_cg {n : Nat} {q q' : Nat → Bool} (h : ∀ i, i < n → q i = q' i) : an n q = an n q' := by
  induction n with
  | zero => rfl
  | succ n ih =>
    unfold an
    rw [ih (fun i hi => h i (by omega)), h n (by omega)]
def sI (i : Nat) : Int32 := if i = 10 then -1 else nI i
def sOk (r : zrow) (i : Nat) : Prop := i < cF r ∨ i = 10
theorem sOk.le {r : zrow} {i : Nat} (h : sOk r i) (hV : zVr r) : i ≤ 10 := by
  have := hV.f.2
  rcases h with h | h <;> omega
def hF (r : zrow) (i kd o : Nat) : Bool := decide (i < cF r) && (decide (kN r i = kd) && decide (oN r i = o))
theorem r_hasFault {R : zr} {r : zrow} (hR : zRr R r) (hV : zVr r) {i kd o : Nat} (hi : sOk r i) (hk : kd < 5) (ho : o < 2 ^ 31) : f_X7_hasFault R (sI i) (nI kd) (nI o) = some (hF r i kd o) := by
  have hf := hV.f.2
  by_cases h : i = 10
  · rw [show sI i = -1 from if_pos h]
    unfold f_X7_hasFault hF
    rw [if_pos rfl, decide_eq_false (show ¬ i < cF r by omega)]
    rfl
  · have hl : i < cF r := by
      rcases hi with h1 | h1
      · exact h1
      · exact absurd h1 h
    obtain ⟨hk1, ho1, -⟩ := hV.flt hl
    have q1 : (nI (kN r i) = nI kd) = (kN r i = kd) := propext (nI_eq (by omega) (by omega))
    have q2 : (nI (oN r i) = nI o) = (oN r i = o) := propext (nI_eq (by omega) (by omega))
    rw [show sI i = nI i from if_neg h]
    simp only [f_X7_hasFault, m1_ne (show i < 2 ^ 31 by omega), if_false, a32, a42, zin_n (show 32 + i < 88 by omega) (by decide), zin_n (show 42 + i < 88 by omega) (by decide), if_true, cl_n (show 32 + i < 2 ^ 31 by omega), cl_n (show 42 + i < 2 ^ 31 by omega), hR (32 + i) (by omega), hR (42 + i) (by omega), hk1.1, ho1.1, q1, q2, hF, decide_eq_true hl, Bool.true_and]
    by_cases g1 : kN r i = kd
    · by_cases g2 : oN r i = o
      · simp [g1, g2]
      · simp [g1, g2]
    · simp [g1]
theorem r_hF0 {R : zr} {r : zrow} (hR : zRr R r) (hV : zVr r) {i o : Nat} (hi : sOk r i) (ho : o < 2 ^ 31) : f_X7_hasFault R (sI i) 0 (nI o) = some (hF r i 0 o) := r_hasFault hR hV hi (by decide) ho
theorem r_hF1 {R : zr} {r : zrow} (hR : zRr R r) (hV : zVr r) {i o : Nat} (hi : sOk r i) (ho : o < 2 ^ 31) : f_X7_hasFault R (sI i) 1 (nI o) = some (hF r i 1 o) := r_hasFault hR hV hi (by decide) ho
theorem r_hF2 {R : zr} {r : zrow} (hR : zRr R r) (hV : zVr r) {i o : Nat} (hi : sOk r i) (ho : o < 2 ^ 31) : f_X7_hasFault R (sI i) 2 (nI o) = some (hF r i 2 o) := r_hasFault hR hV hi (by decide) ho
theorem r_hF3 {R : zr} {r : zrow} (hR : zRr R r) (hV : zVr r) {i o : Nat} (hi : sOk r i) (ho : o < 2 ^ 31) : f_X7_hasFault R (sI i) 3 (nI o) = some (hF r i 3 o) := r_hasFault hR hV hi (by decide) ho
theorem r_hF4 {R : zr} {r : zrow} (hR : zRr R r) (hV : zVr r) {i o : Nat} (hi : sOk r i) (ho : o < 2 ^ 31) : f_X7_hasFault R (sI i) 4 (nI o) = some (hF r i 4 o) := r_hasFault hR hV hi (by decide) ho
theorem c_isFault {s : zs} {b : Nat} {r : zrow} (hB : zBr s b r) (hV : zVr r) {i : Nat} (hi : i < 2 ^ 31) : f_X0_isFault s b (nI i) = decide (i < cF r) := by
  have hf := hV.f
  unfold f_X0_isFault
  rw [if_neg (nI_pos hi), hB.f, hf.1]
  by_cases h : i < cF r
  · rw [if_neg (nI_ge h (by omega)), decide_eq_true h]
  · rw [if_pos (nI_le (by omega) hi), decide_eq_false h]
theorem c_suffers {s : zs} {b : Nat} {r : zrow} (hB : zBr s b r) (hV : zVr r) {i kd o : Nat} (hi : i < 2 ^ 31) (hk : kd < 5) (ho : o < 2 ^ 31) : f_X0_suffers s b (nI i) (nI kd) (nI o) = some (hF r i kd o) := by
  have hf := hV.f.2
  unfold f_X0_suffers hF
  rw [c_isFault hB hV hi]
  by_cases hl : i < cF r
  · obtain ⟨hk1, ho1, -⟩ := hV.flt hl
    have q1 : (nI (kN r i) = nI kd) = (kN r i = kd) := propext (nI_eq (by omega) (by omega))
    have q2 : (nI (oN r i) = nI o) = (oN r i = o) := propext (nI_eq (by omega) (by omega))
    simp only [decide_eq_true hl, if_true, zin_n (show i < 10 by omega) (by decide), cl_n hi, hB.k (show i < 10 by omega), hB.o (show i < 10 by omega), hk1.1, ho1.1, q1, q2, Bool.true_and]
    by_cases g1 : kN r i = kd
    · by_cases g2 : oN r i = o
      · simp [g1, g2]
      · simp [g1, g2]
    · simp [g1]
  · rw [decide_eq_false hl]
    rfl
theorem c_sF0 {s : zs} {b : Nat} {r : zrow} (hB : zBr s b r) (hV : zVr r) {i o : Nat} (hi : i < 2 ^ 31) (ho : o < 2 ^ 31) : f_X0_suffers s b (nI i) 0 (nI o) = some (hF r i 0 o) := c_suffers hB hV hi (by decide) ho
theorem c_sF2 {s : zs} {b : Nat} {r : zrow} (hB : zBr s b r) (hV : zVr r) {i o : Nat} (hi : i < 2 ^ 31) (ho : o < 2 ^ 31) : f_X0_suffers s b (nI i) 2 (nI o) = some (hF r i 2 o) := c_suffers hB hV hi (by decide) ho
theorem c_sF3 {s : zs} {b : Nat} {r : zrow} (hB : zBr s b r) (hV : zVr r) {i o : Nat} (hi : i < 2 ^ 31) (ho : o < 2 ^ 31) : f_X0_suffers s b (nI i) 3 (nI o) = some (hF r i 3 o) := c_suffers hB hV hi (by decide) ho
/-- the net that is shorted with one -/
def prt (r : zrow) (i n : Nat) : Option Nat := if i < cF r ∧ kN r i = 1 then (if oN r i = n then some (tN r i) else if tN r i = n then some (oN r i) else none) else none
theorem c_shortedWith {s : zs} {b : Nat} {r : zrow} (hB : zBr s b r) (hV : zVr r) {i n : Nat} (hi : i < 2 ^ 31) (hn : n < 2 ^ 31) : f_X0_shortedWith s b (nI i) (nI n) = some (zo (prt r i n)) := by
  have hf := hV.f.2
  unfold f_X0_shortedWith prt
  rw [c_isFault hB hV hi]
  by_cases hl : i < cF r
  · obtain ⟨hk1, ho1, -, -, ht1, -⟩ := hV.flt hl
    have q1 : (nI (kN r i) = (1 : Int32)) = (kN r i = 1) := propext (nI_eq (b := 1) (by omega) (by omega))
    have q2 : (nI (oN r i) = nI n) = (oN r i = n) := propext (nI_eq (by omega) (by omega))
    have q3 : (nI (tN r i) = nI n) = (tN r i = n) := propext (nI_eq (by omega) (by omega))
    simp only [decide_eq_true hl, if_true, zin_n (show i < 10 by omega) (by decide), cl_n hi, hB.k (show i < 10 by omega), hB.o (show i < 10 by omega), hB.t (show i < 10 by omega), hk1.1, ho1.1, ht1.1, q1, q2, q3, hl, true_and]
    by_cases g1 : kN r i = 1
    · rw [if_pos g1, if_pos g1]
      by_cases g2 : oN r i = n
      · rw [if_pos g2, if_pos g2]
        rfl
      · rw [if_neg g2, if_neg g2]
        by_cases g3 : tN r i = n
        · rw [if_pos g3, if_pos g3]
          rfl
        · rw [if_neg g3, if_neg g3]
          rfl
    · rw [if_neg g1, if_neg g1]
      rfl
  · rw [decide_eq_false hl, if_neg (show ¬ (i < cF r ∧ kN r i = 1) from fun q => hl q.1)]
    rfl
/-- the net by which a pin can be linked -/
def mL (r : zrow) (i p : Nat) : Option Nat := match nOf r p with
  | none => none
  | some n => if (hF r i 0 p || hF r i 2 n || hF r i 3 n) = true then none else some n
theorem mL_lt {r : zrow} {i p n : Nat} (h : mL r i p = some n) : n < cN r := by
  unfold mL at h
  cases h2 : nOf r p with
  | none =>
    rw [h2] at h
    cases h
  | some m =>
    rw [h2] at h
    have h3 : (if (hF r i 0 p || hF r i 2 m || hF r i 3 m) = true then none else some m) = some n := h
    split at h3
    · cases h3
    · rw [← Option.some.inj h3]
      exact nOf_lt h2
def bO : Option Nat → Int32
  | none => 0
  | some n => (1 : Int32) <<< (nI n &&& 31)
theorem c_linkingNet {s : zs} {u i p : Nat} {r : zrow} (hB : zBr s 64 r) (hV : zVr r) (hu : s.1 u 1 = nI i) (hi : i ≤ 10) (hp : p < 16) : f_X5_linkingNet s u (nI p) = some (bO (mL r i p)) := by
  have hn8 := hV.n.2
  simp only [f_X5_linkingNet, zin_n hp (by decide), if_true, zlt, cl_n (show p < 2 ^ 31 by omega), hB.of hp, hu]
  unfold mL
  cases h : nOf r p with
  | none => simp only [zo, if_true, bO]
  | some n =>
    have hn := nOf_lt h
    simp only [zo, m1_ne (show n < 2 ^ 31 by omega), if_false, c_sF0 hB hV (show i < 2 ^ 31 by omega) (show p < 2 ^ 31 by omega), c_sF2 hB hV (show i < 2 ^ 31 by omega) (show n < 2 ^ 31 by omega), c_sF3 hB hV (show i < 2 ^ 31 by omega) (show n < 2 ^ 31 by omega), Option.bind_some]
    cases hF r i 0 p <;> cases hF r i 2 n <;> cases hF r i 3 n <;> rfl
/-- the pins that read 1 if a pin is driven with 1 -/
def foV (r : zrow) (i d : Nat) : Int32 := match nOf r d with
  | none => (1 : Int32) <<< (nI d &&& 31)
  | some n => if hF r i 0 d = true then (1 : Int32) <<< (nI d &&& 31) else if hF r i 2 n = true then 0 else
    if i < cF r ∧ kN r i = 0 then (match prt r i n with | none => r (9 + n) | some m => r (9 + n) ||| r (9 + m)) &&& (((1 : Int32) <<< (nI (oN r i) &&& 31)) ^^^ (-1)) else (match prt r i n with | none => r (9 + n) | some m => r (9 + n) ||| r (9 + m))
theorem prt_lt {r : zrow} (hV : zVr r) {i n m : Nat} (h : prt r i n = some m) : m < cN r := by
  unfold prt at h
  by_cases g : i < cF r ∧ kN r i = 1
  · rw [if_pos g] at h
    obtain ⟨hk1, ho1, ho2, -, ht1, ht2⟩ := hV.flt g.1
    split at h
    · rw [← Option.some.inj h]
      exact (ht2 g.2).2
    · split at h
      · rw [← Option.some.inj h]
        exact ho2 (by omega) (by omega)
      · cases h
  · rw [if_neg g] at h
    cases h
theorem c_followers {s : zs} {u i p : Nat} {r : zrow} (hB : zBr s 64 r) (hV : zVr r) (hu : s.1 u 1 = nI i) (hi : i ≤ 10) (hp : p < 16) : f_X5_followers s u (nI p) = some (foV r i p) := by
  have hn8 := hV.n.2
  have hf := hV.f.2
  simp only [f_X5_followers, zin_n hp (by decide), if_true, zlt, cl_n (show p < 2 ^ 31 by omega), hB.of hp, hu]
  unfold foV
  cases h : nOf r p with
  | none => simp only [zo, if_true]
  | some n =>
    have hn := nOf_lt h
    simp only [zo, m1_ne (show n < 2 ^ 31 by omega), if_false, c_sF0 hB hV (show i < 2 ^ 31 by omega) (show p < 2 ^ 31 by omega), c_sF2 hB hV (show i < 2 ^ 31 by omega) (show n < 2 ^ 31 by omega), c_shortedWith hB hV (show i < 2 ^ 31 by omega) (show n < 2 ^ 31 by omega), Option.bind_some, zin_n (show n < 8 by omega) (by decide), if_true, cl_n (show n < 2 ^ 31 by omega), hB.net (show n < 8 by omega), c_isFault hB hV (show i < 2 ^ 31 by omega)]
    cases hF r i 0 p
    · cases hF r i 2 n
      · have hq : ∀ x : Int32, (if decide (i < cF r) = true then (if zin (nI i) 10 = true then (if s.1 (64 + 6) ((nI i).toNatClampNeg) = 0 then some (x &&& (((1 : Int32) <<< ((s.1 (64 + 7) ((nI i).toNatClampNeg)) &&& 31)) ^^^ (-1))) else some x) else none) else some x) = some (if i < cF r ∧ kN r i = 0 then x &&& (((1 : Int32) <<< (nI (oN r i) &&& 31)) ^^^ (-1)) else x) := by
          intro x
          by_cases hl : i < cF r
          · obtain ⟨hk1, ho1, -⟩ := hV.flt hl
            have q1 : (nI (kN r i) = (0 : Int32)) = (kN r i = 0) := propext (nI_eq (b := 0) (by omega) (by omega))
            simp only [decide_eq_true hl, if_true, zin_n (show i < 10 by omega) (by decide), cl_n (show i < 2 ^ 31 by omega), hB.k (show i < 10 by omega), hB.o (show i < 10 by omega), hk1.1, ho1.1, q1, hl, true_and, decide_true]
            by_cases g : kN r i = 0
            · rw [if_pos g, if_pos g]
            · rw [if_neg g, if_neg g]
          · rw [decide_eq_false hl, if_neg (show ¬ (i < cF r ∧ kN r i = 0) from fun q => hl q.1)]
            rfl
        cases h2 : prt r i n with
        | none =>
          simp only [zo, if_true]
          exact hq (r (9 + n))
        | some m =>
          have hm := prt_lt hV h2
          simp only [zo, m1_ne (show m < 2 ^ 31 by omega), if_false, zin_n (show m < 8 by omega) (by decide), if_true, cl_n (show m < 2 ^ 31 by omega), hB.net (show m < 8 by omega)]
          exact hq (r (9 + n) ||| r (9 + m))
      · rfl
    · rfl
def stV (r : zrow) (i : Nat) : Int32 := if i < cF r ∧ kN r i = 3 then r (9 + oN r i) else 0
def ddV (r : zrow) (i : Nat) : Int32 := if i < cF r ∧ kN r i = 4 then (1 : Int32) <<< (nI (oN r i) &&& 31) else 0
/-- a suspect's board, set up for a row -/
def zUs (s : zs) (i : Nat) (r : zrow) : Prop :=
  s.1 (87 + 3 * i) 1 = nI i ∧ s.1 (87 + 3 * i) 4 = stV r i ∧ s.1 (87 + 3 * i) 5 = ddV r i ∧ ∀ p, p < 16 → s.1 (87 + 3 * i + 1) p = bO (mL r i p) ∧ s.1 (87 + 3 * i + 2) p = foV r i p
theorem c_setUp_loop {s : zs} {u i : Nat} {r : zrow} (hB : zBr s 64 r) (hV : zVr r) (hu : s.1 u 1 = nI i) (hi : i ≤ 10) (h87 : 87 ≤ u) : ∃ s', f_X5_setUp_125 zFu s u 0 = some s' ∧ s'.2 = s.2 ∧ (∀ a, a ≠ u + 1 → a ≠ u + 2 → s'.1 a = s.1 a) ∧ ∀ p, p < 16 → s'.1 (u + 1) p = bO (mL r i p) ∧ s'.1 (u + 2) p = foV r i p := by
  have h := zli (fun k j x => f_X5_setUp_125 k x u (nI j)) (fun j x => x.2 = s.2 ∧ (∀ a, a ≠ u + 1 → a ≠ u + 2 → x.1 a = s.1 a) ∧ ∀ p, p < j → x.1 (u + 1) p = bO (mL r i p) ∧ x.1 (u + 2) p = foV r i p) (fun o => ∃ s', o = some s' ∧ s'.2 = s.2 ∧ (∀ a, a ≠ u + 1 → a ≠ u + 2 → s'.1 a = s.1 a) ∧ ∀ p, p < 16 → s'.1 (u + 1) p = bO (mL r i p) ∧ s'.1 (u + 2) p = foV r i p) 16 (fun k j x hj ⟨x1, x2, x3⟩ => by
    refine Or.inl ⟨zc (zc x (u + 1) j (bO (mL r i j))) (u + 2) j (foV r i j), ⟨x1, ?_, ?_⟩, ?_⟩
    · intro a h1 h2
      rw [zc_ne h2, zc_ne h1]
      exact x2 a h1 h2
    · intro p hp
      by_cases hpj : p = j
      · subst hpj
        refine ⟨?_, zc_at⟩
        rw [zc_ne (by omega)]
        exact zc_at
      · rw [zc_ne (by omega), zc_nk hpj, zc_nk hpj, zc_ne (by omega)]
        exact x3 p (by omega)
    · show f_X5_setUp_125 (k + 1) x u (nI j) = _
      have e1 : ¬ (16 : Int32) ≤ nI j := nI_ge hj (by decide)
      have hBx : zBr x 64 r := hB.cg (fun a h1 h2 => x2 a (by omega) (by omega))
      have hux : x.1 u 1 = nI i := by rw [x2 u (by omega) (by omega)]; exact hu
      have hBy : zBr (zc x (u + 1) j (bO (mL r i j))) 64 r := hBx.cg (fun a h1 h2 => zc_ne (by omega))
      have huy : (zc x (u + 1) j (bO (mL r i j))).1 u 1 = nI i := by rw [zc_ne (by omega)]; exact hux
      simp only [f_X5_setUp_125, e1, if_false, c_linkingNet hBx hV hux hi hj, Option.bind_some, zin_n hj (by decide), if_true, zlt, cl_n (show j < 2 ^ 31 by omega), c_followers hBy hV huy hi hj, a1]) (fun k x ⟨x1, x2, x3⟩ => by
    refine ⟨x, ?_, x1, x2, x3⟩
    show f_X5_setUp_125 (k + 1) x u (nI 16) = _
    simp only [f_X5_setUp_125, show (16 : Int32) ≤ nI 16 from nI_le (Nat.le_refl 16) (by decide), if_true]) 16 0 zFu s (by omega) (zfu (by omega)) ⟨rfl, fun _ _ _ => rfl, fun p hp => absurd hp (Nat.not_lt_zero p)⟩
  exact h
theorem c_setUp {s : zs} {i : Nat} {r : zrow} (hB : zBr s 64 r) (hV : zVr r) (hi : i ≤ 10) (hu : s.1 (87 + 3 * i) 1 = nI i) : ∃ s', f_X5_setUp s (87 + 3 * i) = some s' ∧ s'.2 = s.2 ∧ (∀ a, a ≠ 87 + 3 * i → a ≠ 87 + 3 * i + 1 → a ≠ 87 + 3 * i + 2 → s'.1 a = s.1 a) ∧ zUs s' i r := by
  unfold zUs
  have h87 : 87 ≤ 87 + 3 * i := by omega
  generalize 87 + 3 * i = u at hu h87
  have hf := hV.f.2
  -- from the two values on
  have key : ∃ s', f_X5_setUp_125 zFu (zc (zc s u 4 (stV r i)) u 5 (ddV r i)) u 0 = some s' ∧ s'.2 = s.2 ∧ (∀ a, a ≠ u → a ≠ u + 1 → a ≠ u + 2 → s'.1 a = s.1 a) ∧ s'.1 u 1 = nI i ∧ s'.1 u 4 = stV r i ∧ s'.1 u 5 = ddV r i ∧ ∀ p, p < 16 → s'.1 (u + 1) p = bO (mL r i p) ∧ s'.1 (u + 2) p = foV r i p := by
    have hB2 : zBr (zc (zc s u 4 (stV r i)) u 5 (ddV r i)) 64 r := hB.cg (fun a h1 h2 => by rw [zc_ne (by omega), zc_ne (by omega)])
    have hu2 : (zc (zc s u 4 (stV r i)) u 5 (ddV r i)).1 u 1 = nI i := by
      rw [zc_nk (by decide), zc_nk (by decide)]
      exact hu
    obtain ⟨s', e1, e2, e3, e4⟩ := c_setUp_loop hB2 hV hu2 hi h87
    refine ⟨s', e1, e2, ?_, ?_, ?_, ?_, e4⟩
    · intro a h1 h2 h3
      rw [e3 a h2 h3, zc_ne h1, zc_ne h1]
    · rw [e3 u (by omega) (by omega)]
      exact hu2
    · rw [e3 u (by omega) (by omega), zc_nk (by decide)]
      exact zc_at
    · rw [e3 u (by omega) (by omega)]
      exact zc_at
  obtain ⟨s', e1, e2, e3, e4⟩ := key
  refine ⟨s', ?_, e2, e3, e4⟩
  unfold f_X5_setUp
  rw [hu, c_isFault hB hV (show i < 2 ^ 31 by omega)]
  by_cases hl : i < cF r
  · obtain ⟨hk1, ho1, ho2, ho3, -⟩ := hV.flt hl
    have hn8 := hV.n.2
    have g6 : s.1 (64 + 6) i = nI (kN r i) := (hB.k (show i < 10 by omega)).trans hk1.1
    have g7 : s.1 (64 + 7) i = nI (oN r i) := (hB.o (show i < 10 by omega)).trans ho1.1
    have q3 : (nI (kN r i) = (3 : Int32)) = (kN r i = 3) := propext (nI_eq (b := 3) (by omega) (by omega))
    have q4 : (nI (kN r i) = (4 : Int32)) = (kN r i = 4) := propext (nI_eq (b := 4) (by omega) (by omega))
    have z1 : ∀ v, (zc s u 4 v).1 u 1 = nI i := fun v => by rw [zc_nk (by decide)]; exact hu
    have z7 : ∀ v, (zc s u 4 v).1 (64 + 7) i = nI (oN r i) := fun v => by rw [zc_ne (by omega)]; exact g7
    simp only [decide_eq_true hl, if_true, zin_n (show i < 10 by omega) (by decide), cl_n (show i < 2 ^ 31 by omega), g6, g7, q3, q4, zlt, z1, z7]
    by_cases g : kN r i = 3
    · have g4 : ¬ kN r i = 4 := by omega
      have ho4 : oN r i < cN r := ho2 (by omega) (by omega)
      have es : stV r i = r (9 + oN r i) := if_pos ⟨hl, g⟩
      have ed : ddV r i = 0 := if_neg (fun q => g4 q.2)
      rw [if_pos g, if_neg g4, if_pos (zin_n (show oN r i < 8 by omega) (by decide)), cl_n (show oN r i < 2 ^ 31 by omega), hB.net (show oN r i < 8 by omega)]
      rw [es, ed] at e1
      rw [e1]
      rfl
    · have es : stV r i = 0 := if_neg (fun q => g q.2)
      rw [if_neg g]
      by_cases g4 : kN r i = 4
      · have ed : ddV r i = (1 : Int32) <<< (nI (oN r i) &&& 31) := if_pos ⟨hl, g4⟩
        rw [if_pos g4]
        rw [es, ed] at e1
        rw [e1]
        rfl
      · have ed : ddV r i = 0 := if_neg (fun q => g4 q.2)
        rw [if_neg g4]
        rw [es, ed] at e1
        rw [e1]
        rfl
  · have es : stV r i = 0 := if_neg (fun q => hl q.1)
    have ed : ddV r i = 0 := if_neg (fun q => hl q.1)
    rw [es, ed] at e1
    simp only [decide_eq_false hl, Bool.false_eq_true, if_false, zlt]
    rw [e1]
    rfl
