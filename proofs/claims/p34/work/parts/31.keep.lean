/-! states are copied, kept and restored -/
theorem zcr_ne {s : zs} {a a' : Nat} {row : Nat → Int32} (h : a' ≠ a) : (zcr s a row).1 a' = s.1 a' := if_neg h
theorem zcr_eq {s : zs} {a : Nat} {row : Nat → Int32} : (zcr s a row).1 a = row := if_pos rfl
theorem cpy0 {f g : Nat → Int32} {n j : Nat} (h : j < n) : va_cpy f g 0 0 n j = f j := by
  rw [pk_cpy_in (Nat.zero_le j) (by omega)]
  congr 1
  omega
theorem c_bcopy {s : zs} {b x : Nat} (hd : x + 10 ≤ b ∨ b + 10 ≤ x) : ∃ s', f_X0_copyFrom s b x = some s' ∧ s'.2 = s.2 ∧ (∀ a, (a < b ∨ b + 10 ≤ a) → s'.1 a = s.1 a) ∧ ∀ r, zBr s x r → zBr s' b r := by
  refine ⟨_, rfl, rfl, fun a ha => ?_, fun r h => ?_⟩
  · simp (disch := omega) only [zcr_ne, zc_ne]
  · refine ⟨⟨?_, ?_, ?_⟩, ?_, ?_, ?_, ?_, ?_, ?_, ?_⟩
    · simp (disch := omega) only [zcr_ne, zc_ne, zc_at, zc_nk, zcr_eq]
      exact h.n
    · simp (disch := omega) only [zcr_ne, zc_ne, zc_at, zc_nk, zcr_eq]
      exact h.c
    · simp (disch := omega) only [zcr_ne, zc_ne, zc_at, zc_nk, zcr_eq]
      exact h.f
    · intro i hi
      simp (disch := omega) only [zcr_ne, zc_ne, zcr_eq, cpy0]
      exact h.net hi
    · intro p hp
      simp (disch := omega) only [zcr_ne, zc_ne, zcr_eq, cpy0]
      exact h.of hp
    · intro c hc
      simp (disch := omega) only [zcr_ne, zc_ne, zcr_eq, cpy0]
      exact ⟨h.e hc, h.x hc, h.l hc⟩
    · intro f hf
      simp (disch := omega) only [zcr_ne, zc_ne, zcr_eq, cpy0]
      exact ⟨h.k hf, h.o hf, h.t hf⟩
    · intro p hp
      simp (disch := omega) only [zcr_ne, zc_ne, zcr_eq, cpy0]
      exact h.bl hp
    · intro p
      simp (disch := omega) only [zcr_ne, zc_ne, zc_at, zc_nk, zcr_eq]
      exact h.pn p
    · intro p
      simp (disch := omega) only [zcr_ne, zc_ne, zc_at, zc_nk, zcr_eq]
      exact h.pc p
def lo (x : Nat) : Nat := if x = 74 then 64 else x
theorem x4_dis {x y : Nat} (hx : zX4 x) (hy : zX4 y) (hne : x ≠ y) : ((sB y + 10 ≤ sB x ∨ sB x + 10 ≤ sB y) ∧ (sD y < sB x ∨ sB x + 10 ≤ sD y) ∧ (y < sB x ∨ sB x + 10 ≤ y)) ∧ ((sD x < sB x ∨ sB x + 10 ≤ sD x) ∧ (x < sB x ∨ sB x + 10 ≤ x) ∧ sD x ≠ x) ∧ (sD y ≠ sD x ∧ y ≠ sD x ∧ sD y ≠ x ∧ y ≠ x) ∧ (lo x ≤ sB x ∧ sB x + 10 ≤ lo x + 12) ∧ (lo x ≤ sD x ∧ sD x < lo x + 12) ∧ lo x ≤ x ∧ x < lo x + 12 := by
  rcases hx with rfl | rfl | rfl | rfl | rfl <;> rcases hy with rfl | rfl | rfl | rfl | rfl <;> first | exact absurd rfl hne | decide
theorem c_scopy {s : zs} {x y : Nat} (hx : zX4 x) (hy : zX4 y) (hne : x ≠ y) : ∃ s', f_X4_copyFrom s x y = some s' ∧ s'.2 = s.2 ∧ (∀ a, (a < lo x ∨ lo x + 12 ≤ a) → s'.1 a = s.1 a) ∧ ∀ r, zSx s y r → zSx s' x r := by
  obtain ⟨⟨d1, d2, d3⟩, ⟨d4, d5, d6⟩, ⟨d7, d8, d9, d10⟩, ⟨l1, l2⟩, ⟨l3, l4⟩, l5, l6⟩ := x4_dis hx hy hne
  obtain ⟨v, v1, v2, v3, v4⟩ := c_bcopy (s := s) d1
  unfold f_X4_copyFrom
  rw [v1, Option.bind_some]
  refine ⟨_, rfl, v2, fun a ha => ?_, fun r h => ?_⟩
  · simp (disch := omega) only [zcr_ne, zc_ne]
    exact v3 a (by omega)
  · have e1 : v.1 y = s.1 y := v3 y (by omega)
    have e2 : v.1 (sD y) = s.1 (sD y) := v3 (sD y) (by omega)
    obtain ⟨h1, h2, ⟨h3, h4, h5⟩, h6, h7, h8⟩ := h
    refine ⟨(v4 r h1).cg (fun a g1 g2 => ?_), fun f hf => ?_, ⟨?_, ?_, ?_⟩, ?_, ?_, ?_⟩
    · simp (disch := omega) only [zcr_ne, zc_ne]
    · simp (disch := omega) only [zcr_ne, zc_ne, zcr_eq, cpy0, e2]
      exact h2 f hf
    · simp (disch := omega) only [zcr_ne, zc_ne, zc_at, zc_nk, e1]
      exact h3
    · simp (disch := omega) only [zcr_ne, zc_ne, zc_at, zc_nk, e1]
      exact h4
    · simp (disch := omega) only [zcr_ne, zc_ne, zc_at, zc_nk, e1]
      exact h5
    · simp (disch := omega) only [zcr_ne, zc_ne, zc_at, zc_nk, e1]
      exact h6
    · simp (disch := omega) only [zcr_ne, zc_ne, zc_at, zc_nk, e1]
      exact h7
    · simp (disch := omega) only [zcr_ne, zc_ne, zc_at, zc_nk, e1]
      exact h8
theorem zX4b_t {x : Nat} (h : x = 3 ∨ x = 15 ∨ x = 27 ∨ x = 39) : zX4b x = true := by rcases h with rfl | rfl | rfl | rfl <;> rfl
theorem zX4_4 {x : Nat} (h : x = 3 ∨ x = 15 ∨ x = 27 ∨ x = 39) : zX4 x := Or.inr h
theorem lo_4 {x : Nat} (h : x = 3 ∨ x = 15 ∨ x = 27 ∨ x = 39) : lo x = x ∧ 3 ≤ x ∧ x + 12 ≤ 51 := by rcases h with rfl | rfl | rfl | rfl <;> decide
theorem zSx.lw {s s' : zs} {x : Nat} {r : zrow} (hx : zX4 x) (h : zSx s x r) (e : ∀ a, lo x ≤ a → a < lo x + 12 → s'.1 a = s.1 a) : zSx s' x r := by
  have : (lo x ≤ sB x ∧ sB x + 10 ≤ lo x + 12) ∧ (lo x ≤ sD x ∧ sD x < lo x + 12) ∧ lo x ≤ x ∧ x < lo x + 12 := by
    rcases hx with rfl | rfl | rfl | rfl | rfl <;> decide
  obtain ⟨⟨l1, l2⟩, ⟨l3, l4⟩, l5, l6⟩ := this
  exact h.cg hx (fun a h1 h2 => e a (by omega) (by omega)) (e _ (by omega) (by omega)) (e _ (by omega) (by omega))
/-- the history's own part of the invariant, with the cells that it needs -/
theorem zHi.go {s s' : zs} {R R' : zr} (h : zHi s R) (e2 : s'.2 = s.2) (e1 : ∀ a, (a = 1 ∨ 3 ≤ a ∧ a ≤ 50) → s'.1 a = s.1 a) (f0 : R' 0 3 = R 0 3) (f2 : R' 2 = R 2) : zHi s' R' := by
  obtain ⟨hp, n, hn, h1, h2, h3⟩ := h
  refine ⟨?_, n, hn, ?_, ?_, fun i hi => ?_⟩
  · unfold zPm
    rw [e2]
    exact hp
  · rw [e1 1 (Or.inl rfl)]
    exact h1
  · rw [f0]
    exact h2
  · obtain ⟨q, q1, q2, q3⟩ := h3 i hi
    have hx := (hp i (by omega)).1
    have hl := lo_4 hx
    refine ⟨q, q1, ?_, fun k hk => by rw [f2]; exact q3 k hk⟩
    rw [e2]
    exact q2.lw (zX4_4 hx) (fun a h1 h2 => e1 a (by omega))
theorem zTx.go {s s' : zs} {R R' : zr} (h : zTx s R) (e3 : s'.1 51 3 = s.1 51 3) (e62 : s'.1 62 = s.1 62) (f7 : R' 0 7 = R 0 7) (f6 : R' 6 = R 6) : zTx s' R' := by
  obtain ⟨m, hm, t1, t2, t3⟩ := h
  refine ⟨m, hm, e3.trans t1, f7.trans t2, fun j hj => ?_⟩
  rw [e62, f6]
  exact t3 j hj
theorem zCu.cgs {s s' : zs} {R R' : zr} {r : zrow} (h : zCu s R r) (e : ∀ a, 64 ≤ a → s'.1 a = s.1 a) (f : R' 1 = R 1) : zCu s' R' r := by
  obtain ⟨a, b, c, d⟩ := h
  refine ⟨a, fun k hk => by rw [f]; exact b k hk, c.lw (Or.inl rfl) (fun q h1 h2 => e q ?_), fun i hi => by rw [e _ (by omega)]; exact d i hi⟩
  have : lo 74 = 64 := rfl
  omega
/-- the class's oldest goes behind -/
theorem c_dropOldest {s : zs} (hp : zPm s) : ∃ s', f_X1_dropOldest s = some s' ∧ (∀ a, a ≠ 1 → s'.1 a = s.1 a) ∧ s'.1 1 1 = 3 ∧ (∀ k, k < 3 → s'.2 k = s.2 (k + 1)) ∧ s'.2 3 = s.2 0 := by
  have hb : ∀ i, i < 4 → zX4b (s.2 i) = true := fun i hi => zX4b_t (hp i hi).1
  have h := zli (fun k j x => f_X1_dropOldest_9 k x (s.2 0) (nI j)) (fun j x => 1 ≤ j ∧ x.1 = s.1 ∧ (∀ k, k + 1 < j → x.2 k = s.2 (k + 1)) ∧ ∀ k, j ≤ k + 1 → x.2 k = s.2 k) (fun o => ∃ x, o = some x ∧ x.1 = s.1 ∧ (∀ k, k < 3 → x.2 k = s.2 (k + 1))) 4 (fun k j x hj ⟨x0, x1, x2, x3⟩ => by
    have e1 : ¬ (4 : Int32) ≤ nI j := nI_ge hj (by decide)
    refine Or.inl ⟨zcp x (j - 1) (s.2 j), ⟨by omega, x1, fun k hk => ?_, fun k hk => ?_⟩, ?_⟩
    · show (if k = j - 1 then s.2 j else x.2 k) = _
      by_cases h : k = j - 1
      · rw [if_pos h, show k + 1 = j by omega]
      · rw [if_neg h]
        exact x2 k (by omega)
    · show (if k = j - 1 then s.2 j else x.2 k) = _
      rw [if_neg (by omega)]
      exact x3 k (by omega)
    · show f_X1_dropOldest_9 (k + 1) x (s.2 0) (nI j) = _
      have ej : x.2 j = s.2 j := x3 j (by omega)
      have em : nI j - 1 = nI (j - 1) := pk_sub (b := 1) x0
      simp only [f_X1_dropOldest_9, e1, if_false, zin_n hj (by decide), if_true, cl_n (show j < 2 ^ 31 by omega), ej, hb j hj, em, zin_n (show j - 1 < 4 by omega) (by decide), cl_n (show j - 1 < 2 ^ 31 by omega), zlt, a1]) (fun k x ⟨x0, x1, x2, x3⟩ => by
    refine ⟨x, ?_, x1, fun k hk => x2 k (by omega)⟩
    show f_X1_dropOldest_9 (k + 1) x (s.2 0) (nI 4) = _
    simp only [f_X1_dropOldest_9, show (4 : Int32) ≤ nI 4 from nI_le (Nat.le_refl 4) (by decide), if_true]) 3 1 zFu s (by omega) (zfu (by omega)) ⟨Nat.le_refl 1, rfl, fun k hk => by omega, fun k _ => rfl⟩
  obtain ⟨x, x1, x2, x3⟩ := h
  refine ⟨zc (zcp x 3 (s.2 0)) 1 1 3, ?_, fun a ha => ?_, zc_at, fun k hk => ?_, ?_⟩
  · simp only [f_X1_dropOldest, hb 0 (by omega), if_true]
    rw [show f_X1_dropOldest_9 zFu s (s.2 0) 1 = some x from x1]
    rfl
  · rw [zc_ne ha]
    show x.1 a = _
    rw [x2]
  · show (if k = 3 then s.2 0 else x.2 k) = _
    rw [if_neg (by omega)]
    exact x3 k hk
  · show (if 3 = 3 then s.2 0 else x.2 3) = _
    rw [if_pos rfl]
theorem m88 (n k : Nat) : nI n * 88 + nI k = nI (88 * n + k) := by rw [show (88 : Int32) = nI 88 from rfl, pk_mul, nI_add, Nat.mul_comm]
theorem r_records10 {R : zr} : ∃ R', f_X7_records_10 zFu R 0 = some R' ∧ (∀ a, a ≠ 2 → R' a = R a) ∧ ∀ k, k < 264 → R' 2 k = R 2 (k + 88) := by
  have h := zli (fun k j x => f_X7_records_10 k x (nI j)) (fun j x => (∀ a, a ≠ 2 → x a = R a) ∧ (∀ k, k < j → x 2 k = R 2 (k + 88)) ∧ ∀ k, j ≤ k → x 2 k = R 2 k) (fun o => ∃ R', o = some R' ∧ (∀ a, a ≠ 2 → R' a = R a) ∧ ∀ k, k < 264 → R' 2 k = R 2 (k + 88)) 264 (fun k j x hj ⟨x1, x2, x3⟩ => by
    have e1 : ¬ (264 : Int32) ≤ nI j := nI_ge hj (by decide)
    have e2 : nI j + 88 = nI (j + 88) := nI_add j 88
    refine Or.inl ⟨zm x 2 j (R 2 (j + 88)), ⟨fun a ha => ?_, fun k hk => ?_, fun k hk => ?_⟩, ?_⟩
    · rw [zm_ne ha]
      exact x1 a ha
    · by_cases h : k = j
      · rw [h, zm_at]
      · rw [zm_nk h]
        exact x2 k (by omega)
    · rw [zm_nk (by omega)]
      exact x3 k (by omega)
    · show f_X7_records_10 (k + 1) x (nI j) = _
      simp only [f_X7_records_10, e1, if_false, e2, zin_n (show j + 88 < 352 by omega) (by decide), zin_n (show j < 352 by omega) (by decide), if_true, cl_n (show j + 88 < 2 ^ 31 by omega), cl_n (show j < 2 ^ 31 by omega), x3 (j + 88) (by omega), zlt, a1]) (fun k x ⟨x1, x2, x3⟩ => by
    refine ⟨x, ?_, x1, x2⟩
    show f_X7_records_10 (k + 1) x (nI 264) = _
    simp only [f_X7_records_10, show (264 : Int32) ≤ nI 264 from nI_le (Nat.le_refl 264) (by decide), if_true]) 264 0 zFu R (by omega) (zfu (by omega)) ⟨fun _ _ => rfl, fun k hk => absurd hk (Nat.not_lt_zero k), fun _ _ => rfl⟩
  exact h
theorem r_records50 {R : zr} {n : Nat} (hn : n < 4) (e0 : R 0 3 = nI n) : ∃ R', f_X7_records_50 zFu R 0 = some R' ∧ (∀ a, a ≠ 2 → R' a = R a) ∧ (∀ k, k < 88 * n → R' 2 k = R 2 k) ∧ ∀ k, k < 88 → R' 2 (88 * n + k) = R 1 k := by
  have h := zli (fun k j x => f_X7_records_50 k x (nI j)) (fun j x => (∀ a, a ≠ 2 → x a = R a) ∧ (∀ k, k < 88 * n → x 2 k = R 2 k) ∧ ∀ k, k < j → x 2 (88 * n + k) = R 1 k) (fun o => ∃ R', o = some R' ∧ (∀ a, a ≠ 2 → R' a = R a) ∧ (∀ k, k < 88 * n → R' 2 k = R 2 k) ∧ ∀ k, k < 88 → R' 2 (88 * n + k) = R 1 k) 88 (fun k j x hj ⟨x1, x2, x3⟩ => by
    have e1 : ¬ (88 : Int32) ≤ nI j := nI_ge hj (by decide)
    have ex0 : x 0 3 = nI n := by rw [x1 0 (by decide)]; exact e0
    refine Or.inl ⟨zm x 2 (88 * n + j) (R 1 j), ⟨fun a ha => ?_, fun k hk => ?_, fun k hk => ?_⟩, ?_⟩
    · rw [zm_ne ha]
      exact x1 a ha
    · rw [zm_nk (by omega)]
      exact x2 k hk
    · by_cases h : k = j
      · rw [h, zm_at]
      · rw [zm_nk (by omega)]
        exact x3 k (by omega)
    · show f_X7_records_50 (k + 1) x (nI j) = _
      simp only [f_X7_records_50, e1, if_false, ex0, m88, zin_n (show j < 88 by omega) (by decide), zin_n (show 88 * n + j < 352 by omega) (by decide), if_true, cl_n (show 88 * n + j < 2 ^ 31 by omega), cl_n (show j < 2 ^ 31 by omega), x1 1 (by decide), zlt, a1]) (fun k x ⟨x1, x2, x3⟩ => by
    refine ⟨x, ?_, x1, x2, x3⟩
    show f_X7_records_50 (k + 1) x (nI 88) = _
    simp only [f_X7_records_50, show (88 : Int32) ≤ nI 88 from nI_le (Nat.le_refl 88) (by decide), if_true]) 88 0 zFu R (by omega) (zfu (by omega)) ⟨fun _ _ => rfl, fun _ _ => rfl, fun k hk => absurd hk (Nat.not_lt_zero k)⟩
  exact h
/-- the reference's history, its oldest dropped where it is full -/
theorem r_records {R : zr} {n : Nat} (hn : n ≤ 4) (e0 : R 0 3 = nI n) : ∃ R', f_X7_records R = some R' ∧ (∀ a, a ≠ 0 → a ≠ 2 → R' a = R a) ∧ (∀ k, k ≠ 3 → R' 0 k = R 0 k) ∧ R' 0 3 = nI (if n = 4 then 4 else n + 1) ∧ (∀ k, k < 88 * (if n = 4 then 3 else n) → R' 2 k = R 2 (if n = 4 then k + 88 else k)) ∧ ∀ k, k < 88 → R' 2 (88 * (if n = 4 then 3 else n) + k) = R 1 k := by
  by_cases h4 : n = 4
  · obtain ⟨y, y1, y2, y3⟩ := r_records10 (R := R)
    have ey : (zm y 0 3 3) 0 3 = nI 3 := zm_at
    obtain ⟨z, z1, z2, z3, z4⟩ := r_records50 (R := zm y 0 3 3) (n := 3) (by omega) ey
    refine ⟨zm z 0 3 4, ?_, fun a h0 h2 => ?_, fun k hk => ?_, ?_, fun k hk => ?_, fun k hk => ?_⟩
    · have e2 : (y 0 3) - 1 = 3 := by rw [y2 0 (by decide), e0, h4]; decide
      have e3 : z 0 3 + 1 = 4 := by rw [z2 0 (by decide), ey]; decide
      simp only [f_X7_records, e0, h4, show nI 4 = 4 from rfl, if_true]
      rw [y1, Option.bind_some]
      simp only [zlt, e2, z1, Option.bind_some, e3]
    · rw [zm_ne h0, z2 a h2, zm_ne h0, y2 a h2]
    · rw [zm_nk hk, z2 0 (by decide), zm_nk hk, y2 0 (by decide)]
    · rw [zm_at, if_pos h4]
      rfl
    · rw [if_pos h4] at hk ⊢
      rw [zm_ne (by decide), z3 k hk, zm_ne (by decide)]
      exact y3 k (by omega)
    · rw [if_pos h4, zm_ne (by decide), z4 k hk, zm_ne (by decide), y2 1 (by decide)]
  · obtain ⟨z, z1, z2, z3, z4⟩ := r_records50 (R := R) (n := n) (by omega) e0
    refine ⟨zm z 0 3 (nI (n + 1)), ?_, fun a h0 h2 => ?_, fun k hk => ?_, ?_, fun k hk => ?_, fun k hk => ?_⟩
    · have ne : ¬ nI n = 4 := fun q => h4 ((nI_eq (b := 4) (by omega) (by decide)).mp q)
      have e3 : z 0 3 + 1 = nI (n + 1) := by rw [z2 0 (by decide), e0]; exact nI_1 n
      simp only [f_X7_records, e0, ne, if_false, z1, Option.bind_some, zlt, e3]
    · rw [zm_ne h0, z2 a h2]
    · rw [zm_nk hk, z2 0 (by decide)]
    · rw [zm_at, if_neg h4]
    · rw [if_neg h4] at hk ⊢
      rw [zm_ne (by decide), z3 k hk]
    · rw [if_neg h4, zm_ne (by decide), z4 k hk]
/-- the state is kept -/
theorem q_keep {s : zs} {R : zr} (h : zInv s R) : ∃ s' R', f_X1_keep s 74 = some s' ∧ f_X7_records R = some R' ∧ (∀ a, 51 ≤ a → s'.1 a = s.1 a) ∧ (∀ a, a ≠ 0 → a ≠ 2 → R' a = R a) ∧ (∀ k, k ≠ 3 → R' 0 k = R 0 k) ∧ zInv s' R' := by
  obtain ⟨⟨r, hr⟩, ⟨hp, n, hn, h1, h2, h3⟩, htx⟩ := h
  obtain ⟨R', e1, e2, e3, e4, e5, e6⟩ := r_records hn h2
  have main : ∀ (t : zs) (m : Nat), m < 4 → t.1 1 1 = nI m → zPm t → (∀ a, a ≠ 1 → t.1 a = s.1 a) → m = (if n = 4 then 3 else n) → (∀ i, i < m → t.2 i = s.2 (if n = 4 then i + 1 else i)) → (∀ u : zs, (Option.bind (f_X4_copyFrom t (t.2 m) 74) fun v => some (zc v 1 1 (v.1 1 1 + 1))) = some u → f_X1_keep s 74 = some u) → ∃ s' R', f_X1_keep s 74 = some s' ∧ f_X7_records R = some R' ∧ (∀ a, 51 ≤ a → s'.1 a = s.1 a) ∧ (∀ a, a ≠ 0 → a ≠ 2 → R' a = R a) ∧ (∀ k, k ≠ 3 → R' 0 k = R 0 k) ∧ zInv s' R' := by
    intro t m hm t1 tp t2 t3 t4 tk
    have hx := (tp m hm).1
    have hl := lo_4 hx
    obtain ⟨v, v1, v2, v3, v4⟩ := c_scopy (s := t) (x := t.2 m) (y := 74) (zX4_4 hx) (Or.inl rfl) (by omega)
    have ev1 : v.1 1 1 = nI m := by rw [v3 1 (by omega)]; exact t1
    have hv51 : ∀ a, 51 ≤ a → v.1 a = s.1 a := fun a ha => by rw [v3 a (by omega), t2 a (by omega)]
    have hm4 : (if n = 4 then 4 else n + 1) = m + 1 := by
      rw [t3]
      split <;> rfl
    rw [hm4] at e4
    rw [← t3] at e5 e6
    have hR' : zRr R' r := fun k hk => by rw [e2 1 (by decide) (by decide)]; exact hr.R k hk
    refine ⟨zc v 1 1 (nI (m + 1)), R', tk _ ?_, e1, fun a ha => ?_, e2, e3, ⟨r, ?_⟩, ⟨?_, m + 1, by omega, zc_at, e4, fun i hi => ?_⟩, ?_⟩
    · rw [v1, Option.bind_some, ev1, nI_1]
    · rw [zc_ne (by omega)]
      exact hv51 a ha
    · refine hr.cgs (fun a ha => ?_) (e2 1 (by decide) (by decide))
      rw [zc_ne (by omega)]
      exact hv51 a (by omega)
    · show zPm (zc v 1 1 (nI (m + 1)))
      unfold zPm
      show ∀ i, i < 4 → (v.2 i = 3 ∨ v.2 i = 15 ∨ v.2 i = 27 ∨ v.2 i = 39) ∧ ∀ j, j < i → v.2 j ≠ v.2 i
      rw [v2]
      exact tp
    · show ∃ q, zVr q ∧ zSx (zc v 1 1 (nI (m + 1))) (v.2 i) q ∧ ∀ k, k < 88 → R' 2 (88 * i + k) = q k
      rw [v2]
      by_cases him : i = m
      · refine ⟨r, hr.V, ?_, fun k hk => ?_⟩
        · rw [him]
          have hs : zSx t 74 r := hr.2.2.1.lw (Or.inl rfl) (fun a g1 g2 => t2 a (by have : lo 74 = 64 := rfl; omega))
          exact (v4 r hs).lw (zX4_4 hx) (fun a g1 g2 => zc_ne (by omega))
        · rw [him, e6 k hk]
          exact hr.R k hk
      · have hi' : i < m := by omega
        obtain ⟨q, q1, q2, q3⟩ := h3 (if n = 4 then i + 1 else i) (by split <;> simp_all <;> omega)
        have hxi := (tp i (by omega)).1
        have hli := lo_4 hxi
        have hne : t.2 i ≠ t.2 m := (tp m hm).2 i hi'
        have hdis : t.2 i + 12 ≤ t.2 m ∨ t.2 m + 12 ≤ t.2 i := by
          rcases hx with g | g | g | g <;> rcases hxi with g2 | g2 | g2 | g2 <;> omega
        refine ⟨q, q1, ?_, fun k hk => ?_⟩
        · rw [← t4 i hi'] at q2
          refine q2.lw (zX4_4 hxi) (fun a g1 g2 => ?_)
          rw [zc_ne (by omega), v3 a (by omega), t2 a (by omega)]
        · rw [e5 (88 * i + k) (by omega), ← q3 k hk]
          congr 1
          split <;> omega
    · refine htx.go ?_ ?_ (e3 7 (by decide)) (e2 6 (by decide) (by decide))
      · rw [zc_ne (by decide), hv51 51 (by omega)]
      · rw [zc_ne (by decide), hv51 62 (by omega)]
  by_cases h4 : n = 4
  · obtain ⟨t, t1, t2, t3, t4, t5⟩ := c_dropOldest hp
    refine main t 3 (by omega) t3 (fun i hi => ?_) t2 (by rw [if_pos h4]) (fun i hi => by rw [if_pos h4]; exact t4 i hi) (fun u hu => ?_)
    · have hq : ∀ i, i < 4 → t.2 i = s.2 (if i = 3 then 0 else i + 1) := by
        intro i hi
        by_cases h : i = 3
        · rw [h, if_pos rfl]
          exact t5
        · rw [if_neg h]
          exact t4 i (by omega)
      refine ⟨by rw [hq i hi]; exact (hp _ (by split <;> omega)).1, fun j hj => ?_⟩
      rw [hq i hi, hq j (by omega)]
      by_cases h : i = 3
      · rw [if_pos h, if_neg (by omega)]
        exact fun g => (hp (j + 1) (by omega)).2 0 (by omega) g.symm
      · rw [if_neg h, if_neg (by omega)]
        exact (hp (i + 1) (by omega)).2 (j + 1) (by omega)
    · have hx : t.2 3 = 3 ∨ t.2 3 = 15 ∨ t.2 3 = 27 ∨ t.2 3 = 39 := by rw [t5]; exact (hp 0 (by omega)).1
      have e9 : ¬ nI n < 4 := nI_nlt (b := n) (a := n) (by omega) (by omega) |> fun _ => by rw [h4]; decide
      have e8 : t.1 1 1 = nI 3 := t3
      simp only [f_X1_keep, h1, e9, if_false, t1, Option.bind_some, e8, zin_n (show 3 < 4 by omega) (by decide), if_true, cl_n (show 3 < 2 ^ 31 by omega), zX4b_t hx, zlt]
      exact hu
  · refine main s n (by omega) h1 hp (fun _ _ => rfl) (by rw [if_neg h4]) (fun i hi => by rw [if_neg h4]) (fun u hu => ?_)
    have e9 : nI n < 4 := nI_lt (b := 4) (by omega) (by decide)
    simp only [f_X1_keep, h1, e9, if_true, zin_n (show n < 4 by omega) (by decide), cl_n (show n < 2 ^ 31 by omega), zX4b_t (hp n (by omega)).1, zlt]
    exact hu
theorem r_undo22 {R : zr} {n : Nat} (hn : n < 4) (e0 : R 0 3 = nI n) : ∃ R', f_X7_undo_22 zFu R 0 = some R' ∧ (∀ a, a ≠ 1 → R' a = R a) ∧ ∀ k, k < 88 → R' 1 k = R 2 (88 * n + k) := by
  have h := zli (fun k j x => f_X7_undo_22 k x (nI j)) (fun j x => (∀ a, a ≠ 1 → x a = R a) ∧ ∀ k, k < j → x 1 k = R 2 (88 * n + k)) (fun o => ∃ R', o = some R' ∧ (∀ a, a ≠ 1 → R' a = R a) ∧ ∀ k, k < 88 → R' 1 k = R 2 (88 * n + k)) 88 (fun k j x hj ⟨x1, x3⟩ => by
    have e1 : ¬ (88 : Int32) ≤ nI j := nI_ge hj (by decide)
    have ex0 : x 0 3 = nI n := by rw [x1 0 (by decide)]; exact e0
    refine Or.inl ⟨zm x 1 j (R 2 (88 * n + j)), ⟨fun a ha => ?_, fun k hk => ?_⟩, ?_⟩
    · rw [zm_ne ha]
      exact x1 a ha
    · by_cases h : k = j
      · rw [h, zm_at]
      · rw [zm_nk h]
        exact x3 k (by omega)
    · show f_X7_undo_22 (k + 1) x (nI j) = _
      simp only [f_X7_undo_22, e1, if_false, ex0, m88, zin_n (show j < 88 by omega) (by decide), zin_n (show 88 * n + j < 352 by omega) (by decide), if_true, cl_n (show 88 * n + j < 2 ^ 31 by omega), cl_n (show j < 2 ^ 31 by omega), x1 2 (by decide), zlt, a1]) (fun k x ⟨x1, x3⟩ => by
    refine ⟨x, ?_, x1, x3⟩
    show f_X7_undo_22 (k + 1) x (nI 88) = _
    simp only [f_X7_undo_22, show (88 : Int32) ≤ nI 88 from nI_le (Nat.le_refl 88) (by decide), if_true]) 88 0 zFu R (by omega) (zfu (by omega)) ⟨fun _ _ => rfl, fun k hk => absurd hk (Nat.not_lt_zero k)⟩
  exact h
theorem q_undo {s : zs} {R : zr} (h : zInv s R) : zPr (f_X6_undo s) (f_X7_undo R) := by
  have h0 := h
  obtain ⟨⟨r, hr⟩, ⟨hp, n, hn, h1, h2, h3⟩, htx⟩ := h
  unfold f_X6_undo f_X7_undo
  rw [h1, h2]
  cases n with
  | zero =>
    rw [if_pos nI_0, if_pos nI_0]
    exact ⟨_, _, _, rfl, rfl, h0⟩
  | succ n =>
    have hne : ¬ nI (n + 1) = 0 := nI_ne0 (by omega) (by omega)
    obtain ⟨q, q1, q2, q3⟩ := h3 n (by omega)
    have hx := (hp n (by omega)).1
    have hl := lo_4 hx
    have em : nI (n + 1) - 1 = nI n := nI_pred n
    -- the class
    have t1 : (zc s 1 1 (nI n)).1 1 1 = nI n := zc_at
    obtain ⟨v, v1, v2, v3, v4⟩ := c_scopy (s := zc s 1 1 (nI n)) (x := 74) (y := s.2 n) (Or.inl rfl) (zX4_4 hx) (by omega)
    have l74 : lo 74 = 64 := rfl
    have hcl : f_X1_restore s 74 = some v := by
      have e9 : ¬ nI (n + 1) ≤ 0 := nI_nle (by omega) (by omega)
      simp only [f_X1_restore, h1, e9, if_false, zlt, em, t1, zin_n (show n < 4 by omega) (by decide), if_true, cl_n (show n < 2 ^ 31 by omega), show (zc s 1 1 (nI n)).2 n = s.2 n from rfl, zX4b_t hx, v1, Option.bind_some]
    -- the reference
    obtain ⟨z, z1, z2, z3⟩ := r_undo22 (R := zm R 0 3 (nI n)) (n := n) (by omega) zm_at
    rw [if_neg hne, if_neg hne, hcl, Option.bind_some]
    simp only [zlt, em, z1, Option.bind_some]
    have ez0 : z 0 3 = nI n := by rw [z2 0 (by decide), zm_at]
    have ev1 : v.1 1 1 = nI n := by rw [v3 1 (by omega)]; exact t1
    refine ⟨nI n, v, z, by rw [ev1], by rw [ez0], ⟨q, q1, fun k hk => ?_, ?_, fun i hi => ?_⟩, ⟨?_, n, by omega, ev1, ez0, fun i hi => ?_⟩, ?_⟩
    · rw [z3 k hk, zm_ne (by decide)]
      exact q3 k hk
    · exact v4 q (q2.lw (zX4_4 hx) (fun a g1 g2 => zc_ne (by omega)))
    · rw [v3 _ (by omega), zc_ne (by omega)]
      exact hr.2.2.2 i hi
    · unfold zPm
      rw [v2]
      exact hp
    · obtain ⟨u, u1, u2, u3⟩ := h3 i (by omega)
      have hxi := (hp i (by omega)).1
      have hli := lo_4 hxi
      refine ⟨u, u1, ?_, fun k hk => ?_⟩
      · rw [v2]
        show zSx v (s.2 i) u
        exact u2.lw (zX4_4 hxi) (fun a g1 g2 => by rw [v3 a (by omega), zc_ne (by omega)])
      · rw [z2 2 (by decide), zm_ne (by decide)]
        exact u3 k hk
    · refine htx.go ?_ ?_ ?_ ?_
      · rw [v3 51 (by omega), zc_ne (by decide)]
      · rw [v3 62 (by omega), zc_ne (by decide)]
      · rw [z2 0 (by decide), zm_nk (by decide)]
      · rw [z2 6 (by decide), zm_ne (by decide)]
