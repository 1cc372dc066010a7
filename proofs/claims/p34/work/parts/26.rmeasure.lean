/-! the reference measures -/
/-- what measuring leaves as it was -/
def zKr (R R' : zr) : Prop := ∀ a, a ≠ 4 → a ≠ 5 → R' a = R a
theorem zKr.rfl' (R : zr) : zKr R R := fun _ _ _ => rfl
theorem zKr.tr {R S T : zr} (h : zKr R S) (h2 : zKr S T) : zKr R T := fun a h4 h5 => (h2 a h4 h5).trans (h a h4 h5)
theorem zRr.go {R R' : zr} {r : zrow} (h : zRr R r) (k : zKr R R') : zRr R' r := fun i hi => by rw [k 1 (by decide) (by decide)]; exact h i hi
/-- a slot holds a suspect's outcome -/
def zSl4 (R : zr) (m : Nat) (r : zrow) (t : Int32) (i : Nat) : Prop := ∀ k, k < 33 → R 4 (33 * m + k) = oc r t i k
theorem m1_j (p v : Nat) (m : Nat) : (nI (33 * m + 1) + ((2 : Int32) * nI p)) + nI v = nI (33 * m + (1 + 2 * p + v)) := by
  have e2 : (2 : Int32) * nI p = nI (2 * p) := pk_mul 2 p
  rw [e2, nI_add, nI_add]
  congr 1
  omega
theorem r_mo36 {R : zr} {r : zrow} (hR : zRr R r) (hV : zVr r) {i m p : Nat} (hi : sOk r i) (hm : m ≤ 10) (hp : p < 16) {t : Int32} (ht : zTo t) : ∃ R', f_X7_measuresOne_36 zFu R (sI i) (nI (33 * m)) (rc r i t) (nI p) 0 = some R' ∧ (∀ a, a ≠ 4 → R' a = R a) ∧ (∀ k, k ≠ 33 * m + (1 + 2 * p + 0) → k ≠ 33 * m + (1 + 2 * p + 1) → R' 4 k = R 4 k) ∧ ∀ v, v < 2 → R' 4 (33 * m + (1 + 2 * p + v)) = oc r t i (1 + 2 * p + v) := by
  have h := zli (fun k j x => f_X7_measuresOne_36 k x (sI i) (nI (33 * m)) (rc r i t) (nI p) (nI j)) (fun j x => (∀ a, a ≠ 4 → x a = R a) ∧ (∀ k, k ≠ 33 * m + (1 + 2 * p + 0) → k ≠ 33 * m + (1 + 2 * p + 1) → x 4 k = R 4 k) ∧ ∀ v, v < j → x 4 (33 * m + (1 + 2 * p + v)) = oc r t i (1 + 2 * p + v)) (fun o => ∃ R', o = some R' ∧ (∀ a, a ≠ 4 → R' a = R a) ∧ (∀ k, k ≠ 33 * m + (1 + 2 * p + 0) → k ≠ 33 * m + (1 + 2 * p + 1) → R' 4 k = R 4 k) ∧ ∀ v, v < 2 → R' 4 (33 * m + (1 + 2 * p + v)) = oc r t i (1 + 2 * p + v)) 2 (fun k j x hj ⟨x1, x2, x3⟩ => by
    have e1 : ¬ (2 : Int32) ≤ nI j := nI_ge hj (by decide)
    have hRx : zRr x r := fun k hk => by rw [x1 1 (by decide)]; exact hR k hk
    refine Or.inl ⟨zm x 4 (33 * m + (1 + 2 * p + j)) (oc r t i (1 + 2 * p + j)), ⟨fun a ha => ?_, fun k h1 h2 => ?_, fun v hv => ?_⟩, ?_⟩
    · rw [zm_ne ha]
      exact x1 a ha
    · rw [zm_nk (by omega)]
      exact x2 k h1 h2
    · by_cases h : v = j
      · rw [h]
        exact zm_at
      · rw [zm_nk (by omega)]
        exact x3 v (by omega)
    · show f_X7_measuresOne_36 (k + 1) x (sI i) (nI (33 * m)) (rc r i t) (nI p) (nI j) = _
      have ez : nI j = zb (decide (j = 1)) := by
        rcases (show j = 0 ∨ j = 1 by omega) with h | h
        · subst h
          rfl
        · subst h
          rfl
      have eo : oc r t i (1 + 2 * p + j) = if bt (rc r i t) p = true then rdV r i (rc r i t) p (decide (j = 1)) else -1 := by
        unfold oc
        have e5 : (1 + 2 * p + j - 1) / 2 = p := by omega
        have e6 : decide ((1 + 2 * p + j - 1) % 2 = 1) = decide (j = 1) := by
          rw [Bool.eq_iff_iff, decide_eq_true_eq, decide_eq_true_eq]
          omega
        rw [if_neg (by omega), e5, e6]
      have er : f_X7_readsBy x (sI i) (rc r i t) (nI p) (nI j) = some (rdV r i (rc r i t) p (decide (j = 1))) := by
        rw [ez]
        exact r_readsBy hRx hV hi hp (rc_to hV i ht) _
      simp only [f_X7_measuresOne_36, e1, if_false, h7 _ (show p < 32 by omega), er, Option.bind_some, m1_j, zin_n (show 33 * m + (1 + 2 * p + j) < 363 by omega) (by decide), if_true, cl_n (show 33 * m + (1 + 2 * p + j) < 2 ^ 31 by omega), zlt, a1, eo]
      cases bt (rc r i t) p
      · rw [if_neg (by decide), if_neg (by decide)]
      · rw [if_pos rfl, if_pos rfl]) (fun k x ⟨x1, x2, x3⟩ => by
    refine ⟨x, ?_, x1, x2, x3⟩
    show f_X7_measuresOne_36 (k + 1) x (sI i) (nI (33 * m)) (rc r i t) (nI p) (nI 2) = _
    simp only [f_X7_measuresOne_36, show (2 : Int32) ≤ nI 2 from nI_le (Nat.le_refl 2) (by decide), if_true]) 2 0 zFu R (by omega) (zfu (by omega)) ⟨fun _ _ => rfl, fun _ _ _ => rfl, fun v hv => absurd hv (Nat.not_lt_zero v)⟩
  exact h
theorem r_measuresOne {R : zr} {r : zrow} (hR : zRr R r) (hV : zVr r) {i m : Nat} (hi : sOk r i) (hm : m ≤ 10) {t : Int32} (ht : zTo t) : ∃ R', f_X7_measuresOne R (nI m) (sI i) t = some R' ∧ (∀ a, a ≠ 4 → R' a = R a) ∧ zSl4 R' m r t i ∧ ∀ k, (k < 33 * m ∨ 33 * m + 33 ≤ k) → R' 4 k = R 4 k := by
  have h := zli (fun k j x => f_X7_measuresOne_26 k x (sI i) (nI (33 * m)) (rc r i t) (nI j)) (fun j x => (∀ a, a ≠ 4 → x a = R a) ∧ (∀ k, (k < 33 * m ∨ 33 * m + 33 ≤ k) → x 4 k = R 4 k) ∧ ∀ k, k < 1 + 2 * j → x 4 (33 * m + k) = oc r t i k) (fun o => ∃ R', o = some R' ∧ (∀ a, a ≠ 4 → R' a = R a) ∧ zSl4 R' m r t i ∧ ∀ k, (k < 33 * m ∨ 33 * m + 33 ≤ k) → R' 4 k = R 4 k) 16 (fun k j x hj ⟨x1, x2, x3⟩ => by
    have e1 : ¬ (16 : Int32) ≤ nI j := nI_ge hj (by decide)
    have hRx : zRr x r := fun k hk => by rw [x1 1 (by decide)]; exact hR k hk
    obtain ⟨y, y1, y2, y3, y4⟩ := r_mo36 hRx hV hi hm hj ht
    refine Or.inl ⟨y, ⟨fun a ha => (y2 a ha).trans (x1 a ha), fun k hk => ?_, fun k hk => ?_⟩, ?_⟩
    · rw [y3 k (by omega) (by omega)]
      exact x2 k hk
    · by_cases h0 : k = 1 + 2 * j + 0
      · rw [h0]
        exact y4 0 (by omega)
      · by_cases h1 : k = 1 + 2 * j + 1
        · rw [h1]
          exact y4 1 (by omega)
        · rw [y3 _ (by omega) (by omega)]
          exact x3 k (by omega)
    · show f_X7_measuresOne_26 (k + 1) x (sI i) (nI (33 * m)) (rc r i t) (nI j) = _
      simp only [f_X7_measuresOne_26, e1, if_false, y1, Option.bind_some, a1]) (fun k x ⟨x1, x2, x3⟩ => by
    refine ⟨x, ?_, x1, fun k hk => x3 k (by omega), x2⟩
    show f_X7_measuresOne_26 (k + 1) x (sI i) (nI (33 * m)) (rc r i t) (nI 16) = _
    simp only [f_X7_measuresOne_26, show (16 : Int32) ≤ nI 16 from nI_le (Nat.le_refl 16) (by decide), if_true]) 16 0 zFu (zm R 4 (33 * m) (rc r i t)) (by omega) (zfu (by omega)) ⟨fun a ha => zm_ne ha, fun k hk => zm_nk (by omega), fun k hk => by
      obtain rfl : k = 0 := by omega
      exact zm_at⟩
  obtain ⟨R', e1, e2⟩ := h
  refine ⟨R', ?_, e2⟩
  have e3 : nI m * 33 = nI (33 * m) := by
    rw [show (33 : Int32) = nI 33 from rfl, pk_mul, Nat.mul_comm]
  simp only [f_X7_measuresOne, e3, zlt, r_reachedBy hR hV hi, Option.bind_some, zin_n (show 33 * m < 363 by omega) (by decide), if_true, cl_n (show 33 * m < 2 ^ 31 by omega)]
  rw [show f_X7_measuresOne_26 zFu (zm R 4 (33 * m) (rc r i t)) (sI i) (nI (33 * m)) (rc r i t) 0 = some R' from e1]
  rfl
theorem zSl4.go {R R' : zr} {m m' : Nat} {r : zrow} {t : Int32} {i : Nat} (h : zSl4 R m r t i) (hm : m ≠ m') (e : ∀ k, (k < 33 * m' ∨ 33 * m' + 33 ≤ k) → R' 4 k = R 4 k) : zSl4 R' m r t i := fun k hk => by
  rw [e _ (by omega)]
  exact h k hk
theorem r_isLike {R : zr} {r : zrow} {t : Int32} {i j m n : Nat} (hm : m ≤ 10) (hn : n ≤ 10) (h1 : zSl4 R m r t i) (h2 : zSl4 R n r t j) : f_X7_isLike R (nI m) (nI n) = some (lk r t i j) := by
  have ex : ∀ a k, nI a * 33 + nI k = nI (33 * a + k) := fun a k => by rw [show (33 : Int32) = nI 33 from rfl, pk_mul, nI_add, Nat.mul_comm]
  have h := zlq (fun k p => f_X7_isLike_2 k R (nI m) (nI n) (nI p)) (fun p => !decide (oc r t i p = oc r t j p)) (fun _ => some (Sum.inr false)) (some (Sum.inl ())) 33 (fun k p hp _ hq => by
    show f_X7_isLike_2 (k + 1) R (nI m) (nI n) (nI p) = _
    have e1 : ¬ (33 : Int32) ≤ nI p := nI_ge hp (by decide)
    rw [Bool.not_eq_false', decide_eq_true_eq] at hq
    simp only [f_X7_isLike_2, e1, if_false, ex, zin_n (show 33 * m + p < 363 by omega) (by decide), zin_n (show 33 * n + p < 363 by omega) (by decide), if_true, cl_n (show 33 * m + p < 2 ^ 31 by omega), cl_n (show 33 * n + p < 2 ^ 31 by omega), h1 p hp, h2 p hp, hq, a1]) (fun k p hp _ hq => by
    show f_X7_isLike_2 (k + 1) R (nI m) (nI n) (nI p) = _
    have e1 : ¬ (33 : Int32) ≤ nI p := nI_ge hp (by decide)
    rw [Bool.not_eq_true', decide_eq_false_iff_not] at hq
    simp only [f_X7_isLike_2, e1, if_false, ex, zin_n (show 33 * m + p < 363 by omega) (by decide), zin_n (show 33 * n + p < 363 by omega) (by decide), if_true, cl_n (show 33 * m + p < 2 ^ 31 by omega), cl_n (show 33 * n + p < 2 ^ 31 by omega), h1 p hp, h2 p hp, hq]) (fun k => by
    show f_X7_isLike_2 (k + 1) R (nI m) (nI n) (nI 33) = _
    simp only [f_X7_isLike_2, show (33 : Int32) ≤ nI 33 from nI_le (Nat.le_refl 33) (by decide), if_true]) 33 0 zFu (by omega) (zfu (by omega)) (fun j hj => absurd hj (Nat.not_lt_zero j))
  unfold f_X7_isLike
  rw [show f_X7_isLike_2 zFu R (nI m) (nI n) 0 = _ from h]
  cases hf : fst 33 (fun p => !decide (oc r t i p = oc r t j p)) with
  | none =>
    show some true = _
    have := fst_none.mp hf
    rw [lk_iff.mpr (fun p hp => ?_)]
    have h2 := this p hp
    simp only [Bool.not_eq_false', decide_eq_true_eq] at h2
    exact h2
  | some p =>
    show some false = _
    obtain ⟨hp, hq, -⟩ := fst_some.mp hf
    simp only [Bool.not_eq_true', decide_eq_false_iff_not] at hq
    congr 1
    exact (Bool.eq_false_iff.mpr (fun q => hq (lk_iff.mp q p hp))).symm
theorem r_isBoard {R : zr} {r : zrow} (hR : zRr R r) (hV : zVr r) {k : Nat} (hk : k < 2 ^ 31) : f_X7_isBoard R (nI k) = isB r k := by
  have hf := hV.f
  have q1 : (nI k = (10 : Int32)) = (k = 10) := propext (nI_eq (b := 10) hk (by omega))
  have e0 : R 1 2 = nI (cF r) := (hR 2 (by omega)).trans hf.1
  have q2 : (nI (cF r) ≤ nI k) = (cF r ≤ k) := propext (nI_leI (by omega) hk)
  simp only [f_X7_isBoard, q1, e0, q2, isB]
  by_cases h : k = 10
  · simp [h]
  · by_cases h2 : cF r ≤ k
    · simp [h, h2]
    · simp [h, h2, show k < cF r by omega]
theorem sI_10 : sI 10 = -1 := if_pos rfl
theorem sI_n {i : Nat} (h : i ≠ 10) : sI i = nI i := if_neg h
theorem slotOf_s {i : Nat} (hi : i ≤ 10) : f_X7_slotOf (sI i) = nI i := by
  unfold f_X7_slotOf
  by_cases h : i = 10
  · rw [h, sI_10, if_pos rfl]
    rfl
  · rw [sI_n h, if_neg (m1_ne (by omega))]
/-- all outcomes are there -/
def zMs (R : zr) (r : zrow) (t : Int32) : Prop := ∀ i, sOk r i → zSl4 R i r t i
theorem r_measures {R : zr} {r : zrow} (hR : zRr R r) (hV : zVr r) {t : Int32} (ht : zTo t) : ∃ R', f_X7_measures R t = some R' ∧ (∀ a, a ≠ 4 → R' a = R a) ∧ zMs R' r t := by
  have h := zli (fun k j x => f_X7_measures_2 k x t (nI j)) (fun j x => (∀ a, a ≠ 4 → x a = R a) ∧ ∀ i, i < j → sOk r i → zSl4 x i r t i) (fun o => ∃ R', o = some R' ∧ (∀ a, a ≠ 4 → R' a = R a) ∧ zMs R' r t) 11 (fun k j x hj ⟨x1, x2⟩ => by
    have e1 : ¬ (10 : Int32) < nI j := nI_nlt (a := 10) (by omega) (by decide)
    have hRx : zRr x r := fun k hk => by rw [x1 1 (by decide)]; exact hR k hk
    refine Or.inl ?_
    cases hb : isB r j
    · refine ⟨x, ⟨x1, fun i hi hq => ?_⟩, ?_⟩
      · by_cases h : i = j
        · rw [h] at hq
          rw [isB_iff.mpr hq] at hb
          cases hb
        · exact x2 i (by omega) hq
      · show f_X7_measures_2 (k + 1) x t (nI j) = _
        simp only [f_X7_measures_2, e1, if_false, r_isBoard hRx hV (show j < 2 ^ 31 by omega), hb, Bool.false_eq_true, a1]
    · obtain ⟨y, y1, y2, y3, y4⟩ := r_measuresOne hRx hV (isB_iff.mp hb) (show j ≤ 10 by omega) ht
      refine ⟨y, ⟨fun a ha => (y2 a ha).trans (x1 a ha), fun i hi hq => ?_⟩, ?_⟩
      · by_cases h : i = j
        · rw [h]
          exact y3
        · exact (x2 i (by omega) hq).go h y4
      · show f_X7_measures_2 (k + 1) x t (nI j) = _
        have q1 : (nI j = (10 : Int32)) = (j = 10) := propext (nI_eq (b := 10) (by omega) (by omega))
        simp only [f_X7_measures_2, e1, if_false, r_isBoard hRx hV (show j < 2 ^ 31 by omega), hb, if_true, q1, a1]
        by_cases h : j = 10
        · subst h
          rw [sI_10] at y1
          rw [if_pos rfl, y1, Option.bind_some]
        · rw [sI_n h] at y1
          rw [if_neg h, y1, Option.bind_some]) (fun k x ⟨x1, x2⟩ => by
    refine ⟨x, ?_, x1, fun i hi => x2 i (by have := hi.le hV; omega) hi⟩
    show f_X7_measures_2 (k + 1) x t (nI 11) = _
    simp only [f_X7_measures_2, show (10 : Int32) < nI 11 from nI_lt (a := 10) (by omega) (by decide), if_true]) 11 0 zFu R (by omega) (zfu (by omega)) ⟨fun _ _ => rfl, fun i hi => absurd hi (Nat.not_lt_zero i)⟩
  obtain ⟨R', e1, e2⟩ := h
  refine ⟨R', ?_, e2⟩
  unfold f_X7_measures
  rw [show f_X7_measures_2 zFu R t 0 = some R' from e1]
  rfl
/-- all that look like one -/
def lS (r : zrow) (t : Int32) (i : Nat) : Int32 := mk 11 (fun j => isB r j && lk r t i j)
theorem bt_lS (r : zrow) (t : Int32) (i k : Nat) : bt (lS r t i) k = (decide (k < 11) && (isB r k && lk r t i k)) := bt_mk (by decide) _ _
theorem r_likeSet {R : zr} {r : zrow} (hR : zRr R r) (hV : zVr r) {t : Int32} (hM : zMs R r t) {i : Nat} (hi : sOk r i) : f_X7_likeSet R (nI i) = some (lS r t i) := by
  have hi10 := hi.le hV
  have h := zlp (fun k j => f_X7_likeSet_4 k R (nI i) (mk j (fun j => isB r j && lk r t i j)) (nI j)) 11 (some (lS r t i)) (fun k j hj => by
    show f_X7_likeSet_4 (k + 1) R (nI i) (mk j (fun j => isB r j && lk r t i j)) (nI j) = f_X7_likeSet_4 k R (nI i) (mk (j + 1) (fun j => isB r j && lk r t i j)) (nI (j + 1))
    have e1 : ¬ (10 : Int32) < nI j := nI_nlt (a := 10) (by omega) (by decide)
    simp only [f_X7_likeSet_4, e1, if_false, r_isBoard hR hV (show j < 2 ^ 31 by omega), zlt, or_0, a1]
    cases hb : isB r j
    · rw [if_neg (by decide), mk_F (p := fun j => isB r j && lk r t i j) (by show (isB r j && _) = false; rw [hb, Bool.false_and])]
    · rw [if_pos rfl, r_isLike hi10 (show j ≤ 10 by omega) (hM i hi) (hM j (isB_iff.mp hb)), Option.bind_some]
      cases hl : lk r t i j
      · rw [if_neg (by decide), mk_F (p := fun j => isB r j && lk r t i j) (by show (_ && lk r t i j) = false; rw [hl, Bool.and_false])]
      · rw [if_pos rfl, mk_T (p := fun j => isB r j && lk r t i j) (by show (isB r j && lk r t i j) = true; rw [hb, hl]; rfl)]) (fun k => by
    show f_X7_likeSet_4 (k + 1) R (nI i) _ (nI 11) = _
    simp only [f_X7_likeSet_4, show (10 : Int32) < nI 11 from nI_lt (a := 10) (by omega) (by decide), if_true]
    rfl) 11 0 zFu (by omega) (zfu (by omega))
  unfold f_X7_likeSet
  rw [show f_X7_likeSet_4 zFu R (nI i) 0 0 = _ from h]
  rfl
/-- the days on which two look alike -/
def dA (r : zrow) (i j : Nat) : Int32 := mk 7 (fun d => lk r (tO r d) i j)
theorem r_alikeDays {R : zr} {r : zrow} (hR : zRr R r) (hV : zVr r) {i j : Nat} (hi : sOk r i) (hj : sOk r j) : ∃ R', f_X7_alikeDays R (sI i) (sI j) = some (dA r i j, R') ∧ zKr R R' := by
  have hi10 := hi.le hV
  have hj10 := hj.le hV
  have h := zli (fun k d (x : zr × Int32) => f_X7_alikeDays_5 k x.1 (sI i) (sI j) x.2 (nI d)) (fun d x => zKr R x.1 ∧ x.2 = mk d (fun d => lk r (tO r d) i j)) (fun o => ∃ R', o = some (R', dA r i j) ∧ zKr R R') 7 (fun k d x hd ⟨x1, x2⟩ => by
    have e1 : ¬ (7 : Int32) ≤ nI d := nI_ge hd (by decide)
    have hRx := hR.go x1
    obtain ⟨y, y1, y2, y3, y4⟩ := r_measuresOne hRx hV hi hi10 (tO_to r d)
    have hRy : zRr y r := fun k hk => by rw [y2 1 (by decide)]; exact hRx k hk
    obtain ⟨z, z1, z2, z3, z4⟩ := r_measuresOne hRy hV hj hj10 (tO_to r d)
    have hlk : f_X7_isLike z (nI i) (nI j) = some (lk r (tO r d) i j) := by
      by_cases h : i = j
      · subst h
        exact r_isLike hi10 hi10 z3 z3
      · exact r_isLike hi10 hj10 (y3.go h z4) z3
    have hz : zKr R z := fun a h4 h5 => by rw [z2 a h4, y2 a h4, x1 a h4 h5]
    refine Or.inl ⟨(z, mk (d + 1) (fun d => lk r (tO r d) i j)), ⟨hz, rfl⟩, ?_⟩
    show f_X7_alikeDays_5 (k + 1) x.1 (sI i) (sI j) x.2 (nI d) = _
    simp only [f_X7_alikeDays_5, e1, if_false, r_touchedOn hRx (show d < 32 by omega), slotOf_s hi10, slotOf_s hj10, y1, z1, hlk, Option.bind_some, zlt, or_0, a1, x2]
    cases hl : lk r (tO r d) i j
    · rw [if_neg (by decide), mk_F (p := fun d => lk r (tO r d) i j) hl]
    · rw [if_pos rfl, mk_T (p := fun d => lk r (tO r d) i j) hl]) (fun k x ⟨x1, x2⟩ => by
    refine ⟨x.1, ?_, x1⟩
    show f_X7_alikeDays_5 (k + 1) x.1 (sI i) (sI j) x.2 (nI 7) = _
    simp only [f_X7_alikeDays_5, show (7 : Int32) ≤ nI 7 from nI_le (Nat.le_refl 7) (by decide), if_true, x2]
    rfl) 7 0 zFu (R, 0) (by omega) (zfu (by omega)) ⟨zKr.rfl' R, rfl⟩
  obtain ⟨R', e1, e2⟩ := h
  refine ⟨R', ?_, e2⟩
  unfold f_X7_alikeDays
  rw [show f_X7_alikeDays_5 zFu R (sI i) (sI j) 0 0 = some (R', dA r i j) from e1]
  rfl
/-- a fault is told -/
theorem r_isTold {R : zr} {r : zrow} (hR : zRr R r) (hV : zVr r) {i : Nat} (hi : i < cF r) {t : Int32} (ht : zTo t) : ∃ R', f_X7_isTold R (nI i) t = some (!(lk r t i 10), R') ∧ zKr R R' := by
  have hf := hV.f.2
  obtain ⟨y, y1, y2, y3, y4⟩ := r_measuresOne hR hV (i := i) (m := 0) (Or.inl hi) (by omega) ht
  have hRy : zRr y r := fun k hk => by rw [y2 1 (by decide)]; exact hR k hk
  obtain ⟨z, z1, z2, z3, z4⟩ := r_measuresOne hRy hV (i := 10) (m := 10) (Or.inr rfl) (by omega) ht
  have hlk := r_isLike (m := 0) (n := 10) (by omega) (by omega) (y3.go (by decide) z4) z3
  refine ⟨z, ?_, fun a h4 h5 => by rw [z2 a h4, y2 a h4]⟩
  rw [sI_n (by omega)] at y1
  rw [sI_10] at z1
  unfold f_X7_isTold
  rw [show f_X7_measuresOne R 0 (nI i) t = some y from y1, Option.bind_some, show f_X7_measuresOne y 10 (-1) t = some z from z1, Option.bind_some, show f_X7_isLike z 0 10 = _ from hlk, Option.bind_some]
  cases lk r t i 10 <;> rfl
