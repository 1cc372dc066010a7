/-! numbers of a command -/
def dgB (c : Nat → Nat) (n i : Nat) : Bool := decide (i < n) && (decide (48 ≤ c i) && decide (c i ≤ 57))
def nvl (c : Nat → Nat) (n i : Nat) : Nat := if dgB c n (i + 1) = true then 2 else 1
def nvN (c : Nat → Nat) (n i : Nat) : Option Nat := if dgB c n i = true then (if dgB c n (i + 1) = true then (if enB c n (i + 2) = true then some (10 * (c i - 48) + (c (i + 1) - 48)) else none) else (if enB c n (i + 1) = true then some (c i - 48) else none)) else none
theorem dgB_t {c : Nat → Nat} {n i : Nat} (h : dgB c n i = true) : i < n ∧ 48 ≤ c i ∧ c i ≤ 57 := by
  unfold dgB at h
  simpa using h
theorem nvN_lt {c : Nat → Nat} {n i v : Nat} (h : nvN c n i = some v) : v < 100 ∧ dgB c n i = true := by
  unfold nvN at h
  by_cases g : dgB c n i = true
  · rw [if_pos g] at h
    have g1 := dgB_t g
    refine ⟨?_, g⟩
    by_cases g2 : dgB c n (i + 1) = true
    · rw [if_pos g2] at h
      have g3 := dgB_t g2
      split at h
      · have := Option.some.inj h
        omega
      · cases h
    · rw [if_neg g2] at h
      split at h
      · have := Option.some.inj h
        omega
      · cases h
  · rw [if_neg g] at h
    cases h
theorem zo_ne {o : Option Nat} (h : ∀ v, o = some v → v < 100) : zo o = -1 ↔ o = none := zo_m1 (fun j hj => by have := h j hj; omega)
theorem r_readsNumber {R : zr} {c : Nat → Nat} {n i : Nat} (hT : zRl R c n) (hc : zTc c n) (h8 : R 0 8 = nI i) (hi : i ≤ n) : ∃ R', f_X7_readsNumber R = some (zo (nvN c n i), R') ∧ zAt R R' ∧ (dgB c n i = true → R' 0 8 = nI (i + nvl c n i) ∧ i + nvl c n i ≤ n) ∧ (dgB c n i = false → R' 0 8 = nI i) := by
  have hn := hc.1
  have eh : ∀ (x : zr) (j : Nat), zAt R x → x 0 8 = nI j → j ≤ n → f_X7_isHere x 48 57 = some (dgB c n j) := fun x j hx h hj => r_isHere (a := 48) (b := 57) (hT.go hx) hc h hj (by decide) (by decide)
  have ee : ∀ (x : zr) (j : Nat), zAt R x → x 0 8 = nI j → j ≤ n → f_X7_isEnded x = some (enB c n j) := fun x j hx h hj => r_isEnded (hT.go hx) hc h hj
  unfold f_X7_readsNumber
  cases g : dgB c n i
  · have e1 : ∀ k, f_X7_readsNumber_4 (k + 1) R (-1) 0 = some (R, -1) := by
      intro k
      simp only [f_X7_readsNumber_4, show ¬ (2 : Int32) ≤ 0 by decide, if_false, eh R i (zAt.rfl' R) h8 hi, g, Option.bind_some, Bool.false_eq_true]
    refine ⟨R, ?_, zAt.rfl' R, fun h => (by cases h), fun _ => h8⟩
    rw [show f_X7_readsNumber_4 zFu R (-1) 0 = some (R, -1) from e1 999, Option.bind_some]
    simp only [ee R i (zAt.rfl' R) h8 hi, Option.bind_some]
    have : nvN c n i = none := by
      unfold nvN
      rw [g]
      rfl
    rw [this]
    cases enB c n i <;> rfl
  · obtain ⟨g1, g2, g3⟩ := dgB_t g
    have k1 : (zm R 0 8 (nI (i + 1))) 0 8 = nI (i + 1) := zm_at
    have a1' := zAt.zm' R (nI (i + 1))
    have ev : ((0 : Int32) + nI (c i)) - 48 = nI (c i - 48) := by
      rw [show (0 : Int32) = nI 0 from rfl, nI_add, Nat.zero_add, show (48 : Int32) = nI 48 from rfl, pk_sub g2]
    have e1 : ∀ k, f_X7_readsNumber_4 (k + 1) R (-1) 0 = f_X7_readsNumber_4 k (zm R 0 8 (nI (i + 1))) (nI (c i - 48)) (nI 1) := by
      intro k
      simp only [f_X7_readsNumber_4, show ¬ (2 : Int32) ≤ 0 by decide, if_false, eh R i (zAt.rfl' R) h8 hi, g, Option.bind_some, if_true, h8, zin_n (show i < 100 by omega) (by decide), cl_n (show i < 2 ^ 31 by omega), hT.2 i g1, ev, zlt, a1]
      rfl
    have hne : ¬ nI (c i - 48) = -1 := m1_ne (by omega)
    cases gg : dgB c n (i + 1)
    · have e2 : ∀ k, f_X7_readsNumber_4 (k + 1) (zm R 0 8 (nI (i + 1))) (nI (c i - 48)) (nI 1) = some (zm R 0 8 (nI (i + 1)), nI (c i - 48)) := by
        intro k
        simp only [f_X7_readsNumber_4, show ¬ (2 : Int32) ≤ nI 1 by decide, if_false, eh _ (i + 1) a1' k1 (by omega), gg, Option.bind_some, Bool.false_eq_true]
      have el : nvl c n i = 1 := by
        unfold nvl
        rw [gg]
        rfl
      refine ⟨zm R 0 8 (nI (i + 1)), ?_, a1', fun _ => ⟨by rw [el]; exact k1, by omega⟩, fun h => by cases h⟩
      rw [show f_X7_readsNumber_4 zFu R (-1) 0 = some (zm R 0 8 (nI (i + 1)), nI (c i - 48)) from (e1 999).trans (e2 998), Option.bind_some]
      simp only [ee _ (i + 1) a1' k1 (by omega), Option.bind_some]
      have : nvN c n i = if enB c n (i + 1) = true then some (c i - 48) else none := by
        unfold nvN
        rw [g, gg]
        rfl
      rw [this]
      cases enB c n (i + 1) <;> rfl
    · obtain ⟨g4, g5, g6⟩ := dgB_t gg
      have k2 : (zm (zm R 0 8 (nI (i + 1))) 0 8 (nI (i + 2))) 0 8 = nI (i + 2) := zm_at
      have a2' := a1'.tr (zAt.zm' _ (nI (i + 2)))
      have ev2 : (((10 : Int32) * nI (c i - 48)) + nI (c (i + 1))) - 48 = nI (10 * (c i - 48) + (c (i + 1) - 48)) := by
        rw [show (10 : Int32) = nI 10 from rfl, pk_mul, nI_add, show (48 : Int32) = nI 48 from rfl, pk_sub (by omega)]
        congr 1
        omega
      have e2 : ∀ k, f_X7_readsNumber_4 (k + 1) (zm R 0 8 (nI (i + 1))) (nI (c i - 48)) (nI 1) = f_X7_readsNumber_4 k (zm (zm R 0 8 (nI (i + 1))) 0 8 (nI (i + 2))) (nI (10 * (c i - 48) + (c (i + 1) - 48))) (nI 2) := by
        intro k
        simp only [f_X7_readsNumber_4, show ¬ (2 : Int32) ≤ nI 1 by decide, if_false, eh _ (i + 1) a1' k1 (by omega), gg, Option.bind_some, if_true, hne, k1, zin_n (show i + 1 < 100 by omega) (by decide), cl_n (show i + 1 < 2 ^ 31 by omega), (hT.go a1').2 (i + 1) g4, ev2, zlt, a1]
      have e3 : ∀ k, f_X7_readsNumber_4 (k + 1) (zm (zm R 0 8 (nI (i + 1))) 0 8 (nI (i + 2))) (nI (10 * (c i - 48) + (c (i + 1) - 48))) (nI 2) = some (zm (zm R 0 8 (nI (i + 1))) 0 8 (nI (i + 2)), nI (10 * (c i - 48) + (c (i + 1) - 48))) := by
        intro k
        simp only [f_X7_readsNumber_4, show (2 : Int32) ≤ nI 2 by decide, if_true]
      have el : nvl c n i = 2 := by
        unfold nvl
        rw [gg]
        rfl
      refine ⟨zm (zm R 0 8 (nI (i + 1))) 0 8 (nI (i + 2)), ?_, a2', fun _ => ⟨by rw [el]; exact k2, by omega⟩, fun h => by cases h⟩
      rw [show f_X7_readsNumber_4 zFu R (-1) 0 = _ from (e1 999).trans ((e2 998).trans (e3 997)), Option.bind_some]
      simp only [ee _ (i + 2) a2' k2 (by omega), Option.bind_some]
      have : nvN c n i = if enB c n (i + 2) = true then some (10 * (c i - 48) + (c (i + 1) - 48)) else none := by
        unfold nvN
        rw [g, gg]
        rfl
      rw [this]
      cases enB c n (i + 2) <;> rfl
/-- where a token ends -/
theorem tokE {c : Nat → Nat} {n i e t : Nat} (ht : isNx (qSp c) i e t) (he : e < n) (hs : c e = 59) (hns : ∀ j, i ≤ j → j < e → c j ≠ 59) : (∀ j, i ≤ j → j < t → enB c n j = false) ∧ enB c n t = true := by
  obtain ⟨⟨t1, t2⟩, t3, t4⟩ := ht
  constructor
  · intro j h1 h2
    have a := t3 j h1 h2
    unfold qSp at a
    unfold enB
    rw [a, decide_eq_false (hns j h1 (by omega))]
    exact Bool.and_false _
  · unfold enB
    rw [decide_eq_true (show t < n by omega), Bool.true_and]
    by_cases g : t < e
    · have := t4 g
      unfold qSp at this
      rw [this]
      rfl
    · rw [show t = e by omega, decide_eq_true hs]
      exact Bool.or_true _
theorem c_numberBetween {s : zs} {c : Nat → Nat} {n i e t : Nat} (hT : zCl s c n) (hc : zTc c n) (ht : isNx (qSp c) i e t) (he : e < n) (hs : c e = 59) (hns : ∀ j, i ≤ j → j < e → c j ≠ 59) (hi : i < e) (h32 : c i ≠ 32) : f_X3_numberBetween s (nI i) (nI t) = some (zo (nvN c n i)) ∧ (dgB c n i = true → nvN c n i ≠ none → t = i + nvl c n i) := by
  have hn := hc.1
  obtain ⟨en1, en2⟩ := tokE ht he hs hns
  obtain ⟨⟨t1, t2⟩, t3, t4⟩ := ht
  have hit : i < t := by
    rcases Nat.lt_or_ge i t with h | h
    · exact h
    · have h9 : t = i := by omega
      have := t4 (by omega)
      rw [h9] at this
      exact absurd (of_decide_eq_true this) h32
  have ed : nI t - nI i = nI (t - i) := pk_sub t1
  have q48 : ∀ j, j < t → ((nI (c j) < (48 : Int32)) = (c j < 48)) ∧ ((nI (c j) ≤ (57 : Int32)) = (c j ≤ 57)) := fun j hj => by
    have := hc.2 j (by omega)
    exact ⟨propext (nI_ltI (b := 48) (by omega) (by omega)), propext (nI_leI (b := 57) (by omega) (by omega))⟩
  have dgf : ∀ j, j < t → dgB c n j = false → c j < 48 ∨ ¬ c j ≤ 57 := fun j hj h => by
    unfold dgB at h
    rw [decide_eq_true (show j < n by omega), Bool.true_and, Bool.and_eq_false_iff, decide_eq_false_iff_not, decide_eq_false_iff_not] at h
    omega
  -- one step of the loop
  have st : ∀ k j a, j < t → (dgB c n j = true → f_X3_numberBetween_22 (k + 1) s (nI t) (nI a) (nI j) = f_X3_numberBetween_22 k s (nI t) (nI (a * 10 + (c j - 48))) (nI (j + 1))) ∧ (dgB c n j = false → f_X3_numberBetween_22 (k + 1) s (nI t) (nI a) (nI j) = some (Sum.inr (-1))) := by
    intro k j a hj
    have e1 : ¬ nI t ≤ nI j := nI_ge hj (by omega)
    obtain ⟨q1, q2⟩ := q48 j hj
    constructor
    · intro h
      obtain ⟨h1, h2, h3⟩ := dgB_t h
      have ev : nI a * 10 + (nI (c j) - 48) = nI (a * 10 + (c j - 48)) := by
        rw [show (10 : Int32) = nI 10 from rfl, pk_mul, show (48 : Int32) = nI 48 from rfl, pk_sub h2, nI_add]
      simp only [f_X3_numberBetween_22, e1, if_false, zin_n (show j < 100 by omega) (by decide), if_true, cl_n (show j < 2 ^ 31 by omega), hT.2 j (by omega), q1, q2, show ¬ c j < 48 by omega, h3, ev, zlt, a1]
    · intro h
      simp only [f_X3_numberBetween_22, e1, if_false, zin_n (show j < 100 by omega) (by decide), if_true, cl_n (show j < 2 ^ 31 by omega), hT.2 j (by omega), q1, q2]
      rcases dgf j hj h with h9 | h9
      · rw [if_pos h9]
      · by_cases h8 : c j < 48
        · rw [if_pos h8]
        · rw [if_neg h8, if_neg h9]
  have fin : ∀ k a, f_X3_numberBetween_22 (k + 1) s (nI t) (nI a) (nI t) = some (Sum.inl (nI a)) := fun k a => by
    simp only [f_X3_numberBetween_22, nI_le (Nat.le_refl t) (show t < 2 ^ 31 by omega), if_true]
  unfold f_X3_numberBetween
  simp only [ed, zlt]
  rw [if_neg (show ¬ nI (t - i) < 1 from nI_nlt (b := 1) (by omega) (by omega))]
  by_cases g2 : t - i ≤ 2
  · rw [if_pos (show nI (t - i) ≤ 2 from nI_le (b := 2) g2 (by decide))]
    cases gd : dgB c n i
    · rw [show f_X3_numberBetween_22 zFu s (nI t) 0 (nI i) = _ from (st 999 i 0 hit).2 gd, Option.bind_some]
      have : nvN c n i = none := by
        unfold nvN
        rw [gd]
        rfl
      rw [this]
      exact ⟨rfl, fun h => by cases h⟩
    · rw [show f_X3_numberBetween_22 zFu s (nI t) 0 (nI i) = _ from (st 999 i 0 hit).1 gd]
      by_cases g1 : t = i + 1
      · have gd1 : dgB c n (i + 1) = false := by
          rw [← g1]
          unfold enB at en2
          unfold dgB
          rw [Bool.and_eq_true, Bool.or_eq_true, decide_eq_true_eq, decide_eq_true_eq, decide_eq_true_eq] at en2
          rw [Bool.and_eq_false_iff, Bool.and_eq_false_iff, decide_eq_false_iff_not, decide_eq_false_iff_not, decide_eq_false_iff_not]
          omega
        rw [g1] at fin en2
        rw [g1, show f_X3_numberBetween_22 999 s (nI (i + 1)) (nI (0 * 10 + (c i - 48))) (nI (i + 1)) = _ from fin 998 (0 * 10 + (c i - 48)), Option.bind_some]
        have e9 : nvN c n i = some (c i - 48) := by
          unfold nvN
          rw [gd, gd1, en2]
          rfl
        rw [e9, Nat.zero_mul, Nat.zero_add]
        refine ⟨rfl, fun _ _ => ?_⟩
        unfold nvl
        rw [gd1]
        rfl
      · have g3 : t = i + 2 := by omega
        have en3 := en1 (i + 1) (by omega) (by omega)
        cases gd1 : dgB c n (i + 1)
        · rw [show f_X3_numberBetween_22 999 s (nI t) (nI (0 * 10 + (c i - 48))) (nI (i + 1)) = _ from (st 998 (i + 1) (0 * 10 + (c i - 48)) (by omega)).2 gd1, Option.bind_some]
          have : nvN c n i = none := by
            unfold nvN
            rw [gd, gd1, en3]
            rfl
          rw [this]
          exact ⟨rfl, fun _ h => absurd rfl h⟩
        · rw [show f_X3_numberBetween_22 999 s (nI t) (nI (0 * 10 + (c i - 48))) (nI (i + 1)) = _ from (st 998 (i + 1) (0 * 10 + (c i - 48)) (by omega)).1 gd1]
          rw [g3] at fin en2
          rw [g3, show f_X3_numberBetween_22 998 s (nI (i + 2)) (nI ((0 * 10 + (c i - 48)) * 10 + (c (i + 1) - 48))) (nI (i + 1 + 1)) = _ from fin 997 _, Option.bind_some]
          have e9 : nvN c n i = some (10 * (c i - 48) + (c (i + 1) - 48)) := by
            unfold nvN
            rw [gd, gd1, en2]
            rfl
          rw [e9]
          refine ⟨?_, fun _ _ => ?_⟩
          · show some (nI _) = some (nI _)
            congr 2
            omega
          · unfold nvl
            rw [gd1]
            rfl
  · rw [if_neg (show ¬ nI (t - i) ≤ 2 from nI_ge (a := 2) (by omega) (by omega))]
    have e1 := en1 (i + 1) (by omega) (by omega)
    have e2 := en1 (i + 2) (by omega) (by omega)
    have : nvN c n i = none := by
      unfold nvN
      rw [e1, e2]
      cases dgB c n i
      · rfl
      · cases dgB c n (i + 1) <;> rfl
    rw [this]
    exact ⟨rfl, fun _ h => absurd rfl h⟩
/-- what reading a command may change -/
def zNf (R R' : zr) : Prop := (∀ a, a ≠ 0 → a ≠ 7 → R' a = R a) ∧ ∀ k, k ≠ 8 → k ≠ 9 → k ≠ 10 → R' 0 k = R 0 k
theorem zNf.rfl' (R : zr) : zNf R R := ⟨fun _ _ _ => rfl, fun _ _ _ _ => rfl⟩
theorem zNf.tr {R S T : zr} (h : zNf R S) (h2 : zNf S T) : zNf R T := ⟨fun a h0 h7 => (h2.1 a h0 h7).trans (h.1 a h0 h7), fun k a b d => (h2.2 k a b d).trans (h.2 k a b d)⟩
theorem zAt.f {R R' : zr} (h : zAt R R') : zNf R R' := ⟨fun a h0 _ => h.1 a h0, fun k a _ _ => h.2 k a⟩
theorem zRl.gof {R R' : zr} {c : Nat → Nat} {n : Nat} (h : zRl R c n) (k : zNf R R') : zRl R' c n := ⟨(k.2 7 (by decide) (by decide) (by decide)).trans h.1, fun j hj => by rw [k.1 6 (by decide) (by decide)]; exact h.2 j hj⟩
/-- one number of the reference's loop -/
theorem r_num1 {R : zr} {c : Nat → Nat} {n i m v : Nat} (hT : zRl R c n) (hc : zTc c n) (h8 : R 0 8 = nI i) (hi : i ≤ n) (h10 : R 0 10 = nI m) (hm : m < 9) (h59 : c i ≠ 59) (hv : nvN c n i = some v) (K : Nat) : ∃ R' k, f_X7_readsCommand_33 (K + 1) R = f_X7_readsCommand_33 K R' ∧ zNf R R' ∧ R' 0 8 = nI k ∧ isNx (qNs c) (i + nvl c n i) n k ∧ R' 0 10 = nI (m + 1) ∧ (∀ j, j ≠ m → R' 7 j = R 7 j) ∧ R' 7 m = nI v ∧ R' 0 9 = R 0 9 := by
  have eh : f_X7_isHere R 59 59 = _ := r_here1 (a := 59) hT hc h8 hi (by decide)
  rw [decide_eq_false h59, Bool.and_false] at eh
  obtain ⟨S, s1, s2, s3, -⟩ := r_readsNumber hT hc h8 hi
  obtain ⟨hv1, hdg⟩ := nvN_lt hv
  obtain ⟨s4, s5⟩ := s3 hdg
  have e10 : S 0 10 = nI m := (s2.2 10 (by decide)).trans h10
  have ne : ¬ nI v = -1 := m1_ne (by omega)
  have ne9 : ¬ nI m = 9 := fun q => by have := (nI_eq (b := 9) (by omega) (by decide)).mp q; omega
  have e11 : (zm S 7 m (nI v)) 0 10 = nI m := by rw [zm_ne (by decide)]; exact e10
  have hS : zNf R (zm (zm S 7 m (nI v)) 0 10 (nI (m + 1))) := by
    refine ⟨fun a h0 h7 => ?_, fun k a b d => ?_⟩
    · rw [zm_ne h0, zm_ne h7]
      exact s2.1 a h0
    · rw [zm_nk d, zm_ne (by decide)]
      exact s2.2 k a
  obtain ⟨T, k, t1, t2, t3, t4⟩ := r_passes (hT.gof hS) hc (show (zm (zm S 7 m (nI v)) 0 10 (nI (m + 1))) 0 8 = nI (i + nvl c n i) by rw [zm_nk (by decide), zm_ne (by decide)]; exact s4) s5
  refine ⟨T, k, ?_, hS.tr t2.f, t3, t4, ?_, fun j hj => ?_, ?_, ?_⟩
  · simp only [f_X7_readsCommand_33, eh, Option.bind_some, Bool.false_eq_true, if_false, s1, hv, zo, ne, e10, ne9, zin_n (show m < 9 by omega) (by decide), if_true, cl_n (show m < 2 ^ 31 by omega), zlt, e11, a1, t1]
  · rw [t2.2 10 (by decide), zm_at]
  · rw [t2.1 7 (by decide), zm_ne (by decide), zm_nk hj, s2.1 7 (by decide)]
  · rw [t2.1 7 (by decide), zm_ne (by decide), zm_at]
  · rw [t2.2 9 (by decide), zm_nk (by decide), zm_ne (by decide), s2.2 9 (by decide)]
/-- no number there: the reference's loop ends -/
theorem r_num0 {R : zr} {c : Nat → Nat} {n i m : Nat} (hT : zRl R c n) (hc : zTc c n) (h8 : R 0 8 = nI i) (hi : i ≤ n) (h10 : R 0 10 = nI m) (hm : m ≤ 9) (h59 : i < n → c i ≠ 59) (hv : nvN c n i = none ∨ m = 9) (K : Nat) : ∃ R', f_X7_readsCommand_33 (K + 1) R = some (Sum.inr (false, R')) ∧ zNf R R' ∧ ∃ i', i' ≤ n ∧ R' 0 8 = nI i' := by
  have eh : f_X7_isHere R 59 59 = _ := r_here1 (a := 59) hT hc h8 hi (by decide)
  have eh2 : (decide (i < n) && decide (c i = 59)) = false := by
    by_cases g : i < n
    · rw [decide_eq_false (h59 g), Bool.and_false]
    · rw [decide_eq_false g, Bool.false_and]
  rw [eh2] at eh
  obtain ⟨S, s1, s2, s3, s4⟩ := r_readsNumber hT hc h8 hi
  have e10 : S 0 10 = nI m := (s2.2 10 (by decide)).trans h10
  have hpl : ∃ i', i' ≤ n ∧ S 0 8 = nI i' := by
    cases g : dgB c n i
    · exact ⟨i, hi, s4 g⟩
    · exact ⟨_, (s3 g).2, (s3 g).1⟩
  refine ⟨S, ?_, s2.f, hpl⟩
  simp only [f_X7_readsCommand_33, eh, Option.bind_some, Bool.false_eq_true, if_false, s1]
  by_cases g : zo (nvN c n i) = -1
  · rw [if_pos g]
  · rw [if_neg g]
    have hm9 : m = 9 := by
      rcases hv with h | h
      · rw [h] at g
        exact absurd rfl g
      · exact h
    rw [e10, if_pos (show nI m = 9 by rw [hm9]; rfl)]
/-- the reference's loop ends, whatever stands there -/
theorem r_nums {c : Nat → Nat} {n : Nat} (hc : zTc c n) : ∀ (d K : Nat) (R : zr) (i m : Nat), n - i ≤ d → d < K → zRl R c n → R 0 8 = nI i → i ≤ n → R 0 10 = nI m → m ≤ 9 → (∃ R' i' m', f_X7_readsCommand_33 K R = some (Sum.inl R') ∧ zNf R R' ∧ R' 0 8 = nI i' ∧ i ≤ i' ∧ i' < n ∧ c i' = 59 ∧ R' 0 10 = nI m' ∧ m ≤ m' ∧ m' ≤ 9 ∧ (c i ≠ 59 → m < m') ∧ R' 0 9 = R 0 9) ∨ ∃ R', f_X7_readsCommand_33 K R = some (Sum.inr (false, R')) ∧ zNf R R' ∧ ∃ i', i' ≤ n ∧ R' 0 8 = nI i' := by
  intro d
  induction d with
  | zero =>
    intro K R i m hd hK hT h8 hi h10 hm
    obtain ⟨K, rfl⟩ : ∃ j, K = j + 1 := ⟨K - 1, by omega⟩
    right
    refine r_num0 hT hc h8 hi h10 hm (fun h => by omega) (Or.inl ?_) K
    unfold nvN
    have : dgB c n i = false := by
      unfold dgB
      rw [decide_eq_false (by omega), Bool.false_and]
    rw [this]
    rfl
  | succ d ih =>
    intro K R i m hd hK hT h8 hi h10 hm
    obtain ⟨K, rfl⟩ : ∃ j, K = j + 1 := ⟨K - 1, by omega⟩
    by_cases h59 : i < n ∧ c i = 59
    · left
      have eh : f_X7_isHere R 59 59 = _ := r_here1 (a := 59) hT hc h8 hi (by decide)
      rw [decide_eq_true h59.1, decide_eq_true h59.2] at eh
      refine ⟨R, i, m, ?_, zNf.rfl' R, h8, Nat.le_refl i, h59.1, h59.2, h10, Nat.le_refl m, hm, fun h => absurd h59.2 h, rfl⟩
      simp only [f_X7_readsCommand_33, eh, Option.bind_some, Bool.true_and, if_true]
    · have h59' : i < n → c i ≠ 59 := fun h1 h2 => h59 ⟨h1, h2⟩
      cases hv : nvN c n i with
      | none =>
        right
        exact r_num0 hT hc h8 hi h10 hm h59' (Or.inl hv) K
      | some v =>
        by_cases hm9 : m = 9
        · right
          exact r_num0 hT hc h8 hi h10 hm h59' (Or.inr hm9) K
        · obtain ⟨hv1, hdg⟩ := nvN_lt hv
          have hin := (dgB_t hdg).1
          obtain ⟨S, k, s1, s2, s3, s4, s5, -, -, s9⟩ := r_num1 hT hc h8 hi h10 (by omega) (h59' hin) hv K
          have hl : 1 ≤ nvl c n i := by unfold nvl; split <;> omega
          have hk := s4.1
          rcases ih K S k (m + 1) (by omega) (by omega) (hT.gof s2) s3 (by omega) s5 (by omega) with ⟨R', i', m', a1, a2, a3, a4, a5, a6, a7, a8, a9, a10, a11⟩ | ⟨R', a1, a2, a3⟩
          · left
            exact ⟨R', i', m', s1.trans a1, s2.tr a2, a3, by omega, a5, a6, a7, by omega, a9, fun _ => by omega, a11.trans s9⟩
          · right
            exact ⟨R', s1.trans a1, s2.tr a2, a3⟩
def mst (w : Nat) : Nat := ([5, 7, 1, 2, 1, 1, 1, 8] : List Nat).getD w 0
def few (w : Nat) : Nat := ([2, 2, 1, 2, 1, 1, 1, 1] : List Nat).getD w 0
theorem mst_b : ∀ w, w < 8 → z1 w = nI (mst w) ∧ mst w ≤ 8 := by decide +kernel
theorem few_b : ∀ w, w < 8 → z0 w = nI (few w) ∧ few w ≤ 2 := by decide +kernel
/-- what reading a command may change in the class -/
def zNs (s s' : zs) : Prop := s'.2 = s.2 ∧ (∀ a, a ≠ 51 → a ≠ 63 → s'.1 a = s.1 a) ∧ ∀ k, k ≠ 4 → k ≠ 5 → s'.1 51 k = s.1 51 k
theorem zNs.rfl' (s : zs) : zNs s s := ⟨rfl, fun _ _ _ => rfl, fun _ _ _ => rfl⟩
theorem zNs.tr {s t u : zs} (h : zNs s t) (h2 : zNs t u) : zNs s u := ⟨h2.1.trans h.1, fun a h0 h7 => (h2.2.1 a h0 h7).trans (h.2.1 a h0 h7), fun k a b => (h2.2.2 k a b).trans (h.2.2 k a b)⟩
theorem zCl.go {s s' : zs} {c : Nat → Nat} {n : Nat} (h : zCl s c n) (k : zNs s s') : zCl s' c n := ⟨(k.2.2 3 (by decide) (by decide)).trans h.1, fun j hj => by rw [k.2.1 62 (by decide) (by decide)]; exact h.2 j hj⟩
/-- the numbers are the same on both sides -/
def zNu (s : zs) (R : zr) (m : Nat) : Prop := ∀ k, k < m → s.1 63 k = R 7 k ∧ ∃ v, v < 100 ∧ R 7 k = nI v
theorem nums2 {c : Nat → Nat} {n e w : Nat} (hc : zTc c n) (hw : w < 8) (he : e < n) (hs : c e = 59) : ∀ (d K K' : Nat) (s : zs) (R : zr) (i m : Nat), e - i ≤ d → d < K → d + n < K' → zCl s c n → s.1 51 4 = nI w → s.1 51 5 = nI m → m ≤ mst w → i ≤ e → (i < e → c i ≠ 32) → (∀ j, i ≤ j → j < e → c j ≠ 59) → zRl R c n → R 0 8 = nI i → R 0 10 = nI m → zNu s R m →
    (∃ s' R' m', f_X3_parse_40 K s (nI e) (nI i) = some (Sum.inl (s', nI e)) ∧ f_X7_readsCommand_33 K' R = some (Sum.inl R') ∧ (zNs s s' ∧ zNf R R') ∧ (s'.1 51 4 = nI w ∧ s'.1 51 5 = nI m') ∧ (R' 0 8 = nI e ∧ R' 0 10 = nI m' ∧ R' 0 9 = R 0 9) ∧ m' ≤ mst w ∧ zNu s' R' m')
    ∨ ((∃ s', zNs s s' ∧ s'.1 51 4 = nI w ∧ (f_X3_parse_40 K s (nI e) (nI i) = some (Sum.inr (false, s')) ∨ ∃ i', i' < e ∧ f_X3_parse_40 K s (nI e) (nI i) = some (Sum.inl (s', nI i')))) ∧ ((∃ R', f_X7_readsCommand_33 K' R = some (Sum.inr (false, R')) ∧ zNf R R' ∧ ∃ i', i' ≤ n ∧ R' 0 8 = nI i') ∨ ∃ R' m' i', f_X7_readsCommand_33 K' R = some (Sum.inl R') ∧ zNf R R' ∧ R' 0 8 = nI i' ∧ i' < n ∧ R' 0 10 = nI m' ∧ mst w < m' ∧ m' ≤ 9 ∧ R' 0 9 = R 0 9)) := by
  have hn := hc.1
  obtain ⟨hz1, hmst⟩ := mst_b w hw
  -- at the end
  have atE : ∀ (K K' : Nat) (s : zs) (R : zr) (m : Nat), zCl s c n → s.1 51 4 = nI w → s.1 51 5 = nI m → m ≤ mst w → zRl R c n → R 0 8 = nI e → R 0 10 = nI m → f_X3_parse_40 (K + 1) s (nI e) (nI e) = some (Sum.inl (s, nI e)) ∧ f_X7_readsCommand_33 (K' + 1) R = some (Sum.inl R) := by
    intro K K' s R m hT h4 h5 hm hR h8 h10
    constructor
    · simp only [f_X3_parse_40, h4, zin_n hw (by decide), if_true, cl_n (show w < 2 ^ 31 by omega), hz1, h5, nI_le (Nat.le_refl e) (show e < 2 ^ 31 by omega)]
      split <;> rfl
    · have eh : f_X7_isHere R 59 59 = _ := r_here1 (a := 59) hR hc h8 (by omega) (by decide)
      rw [decide_eq_true he, decide_eq_true hs] at eh
      simp only [f_X7_readsCommand_33, eh, Option.bind_some, Bool.true_and, if_true]
  intro d
  induction d with
  | zero =>
    intro K K' s R i m hd hK hK' hT h4 h5 hm hi h32 hns hR h8 h10 hnu
    obtain ⟨K, rfl⟩ : ∃ j, K = j + 1 := ⟨K - 1, by omega⟩
    obtain ⟨K', rfl⟩ : ∃ j, K' = j + 1 := ⟨K' - 1, by omega⟩
    have hie : i = e := by omega
    subst hie
    obtain ⟨a, b⟩ := atE K K' s R m hT h4 h5 hm hR h8 h10
    left
    exact ⟨s, R, m, a, b, ⟨zNs.rfl' s, zNf.rfl' R⟩, ⟨h4, h5⟩, ⟨h8, h10, rfl⟩, hm, hnu⟩
  | succ d ih =>
    intro K K' s R i m hd hK hK' hT h4 h5 hm hi h32 hns hR h8 h10 hnu
    obtain ⟨K, rfl⟩ : ∃ j, K = j + 1 := ⟨K - 1, by omega⟩
    obtain ⟨K', rfl⟩ : ∃ j, K' = j + 1 := ⟨K' - 1, by omega⟩
    by_cases hie : i = e
    · subst hie
      obtain ⟨a, b⟩ := atE K K' s R m hT h4 h5 hm hR h8 h10
      left
      exact ⟨s, R, m, a, b, ⟨zNs.rfl' s, zNf.rfl' R⟩, ⟨h4, h5⟩, ⟨h8, h10, rfl⟩, hm, hnu⟩
    · have hil : i < e := by omega
      have h59 : c i ≠ 59 := hns i (Nat.le_refl i) hil
      have eie : ¬ nI e ≤ nI i := nI_ge hil (by omega)
      by_cases hmm : m = mst w
      · right
        refine ⟨⟨s, zNs.rfl' s, h4, Or.inr ⟨i, hil, ?_⟩⟩, ?_⟩
        · have ele : nI (mst w) ≤ nI m := nI_le (by omega) (by omega)
          simp only [f_X3_parse_40, h4, zin_n hw (by decide), if_true, cl_n (show w < 2 ^ 31 by omega), hz1, h5, ele]
        · rcases r_nums hc (n - i) (K' + 1) R i m (Nat.le_refl _) (by omega) hR h8 (by omega) h10 (by omega) with ⟨R', i', m', a1, a2, a3, a4, a5, a6, a7, a8, a9, a10, a11⟩ | ⟨R', a1, a2, a3⟩
          · have := a10 h59
            exact Or.inr ⟨R', m', i', a1, a2, a3, a5, a7, by omega, a9, a11⟩
          · exact Or.inl ⟨R', a1, a2, a3⟩
      · have hml : m < mst w := by omega
        have ele : ¬ nI (mst w) ≤ nI m := nI_ge hml (by omega)
        obtain ⟨t, t1, t2⟩ := c_endTok hT hc (i := i) (e := e) hi (by omega)
        obtain ⟨u1, u2⟩ := c_numberBetween hT hc t2 he hs hns hil (h32 hil)
        have e5 : (zc s 63 m (zo (nvN c n i))).1 51 5 = nI m := by rw [zc_ne (by decide)]; exact h5
        have e6 : (zc s 63 m (zo (nvN c n i))).1 63 m = zo (nvN c n i) := zc_at
        have f7 : zNs s (zc s 63 m (zo (nvN c n i))) := ⟨rfl, fun a h0 h7 => zc_ne h7, fun k _ _ => by rw [zc_ne (by decide)]⟩
        cases hv : nvN c n i with
        | none =>
          right
          refine ⟨⟨zc s 63 m (-1), ?_, ?_, Or.inl ?_⟩, Or.inl ?_⟩
          · rw [hv] at f7
            exact f7
          · rw [zc_ne (by decide)]
            exact h4
          · rw [hv] at u1 e5 e6
            simp only [f_X3_parse_40, h4, zin_n hw (by decide), if_true, cl_n (show w < 2 ^ 31 by omega), hz1, h5, ele, if_false, eie, t1, u1, Option.bind_some, zin_n (show m < 8 by omega) (by decide), cl_n (show m < 2 ^ 31 by omega), zlt, e5, e6]
            rfl
          · exact r_num0 hR hc h8 (by omega) h10 (by omega) (fun _ => h59) (Or.inl hv) K'
        | some v =>
          obtain ⟨hv1, hdg⟩ := nvN_lt hv
          have ht9 := u2 hdg (by rw [hv]; exact fun q => by cases q)
          rw [hv] at u1 e5 e6 f7
          obtain ⟨R1, k, b1, b2, b3, b4, b5, b6, b7, b8⟩ := r_num1 hR hc h8 (by omega) h10 (by omega) h59 hv K'
          have hT2 := hT.go f7
          obtain ⟨k2, d1, d2⟩ := c_skip hT2 hc (i := t) (e := e) t2.1.2 (by omega)
          have hkk : k = k2 := by
            rw [← ht9] at b4
            refine isNx_un b4 ⟨⟨d2.1.1, by have := d2.1.2; omega⟩, d2.2.1, fun _ => ?_⟩
            by_cases g : k2 < e
            · exact d2.2.2 g
            · have h9 := d2.1.2
              have : k2 = e := by omega
              rw [this]
              unfold qNs
              rw [hs]
              rfl
          subst hkk
          have hs12 : zNs s (zc (zc s 63 m (nI v)) 51 5 (nI (m + 1))) := by
            refine f7.tr ⟨rfl, fun a h0 h7 => zc_ne h0, fun k _ h => zc_nk h⟩
          have hne : ¬ zo (some v) = -1 := m1_ne (by omega)
          have hl : 1 ≤ nvl c n i := by unfold nvl; split <;> omega
          have hkb := d2.1
          have hcl : f_X3_parse_40 (K + 1) s (nI e) (nI i) = f_X3_parse_40 K (zc (zc s 63 m (nI v)) 51 5 (nI (m + 1))) (nI e) (nI k) := by
            have d1' : f_X3_skipSpaces (zc s 63 m (zo (some v))) (nI t) (nI e) = some (nI k) := d1
            simp only [f_X3_parse_40, h4, zin_n hw (by decide), if_true, cl_n (show w < 2 ^ 31 by omega), hz1, h5, ele, if_false, eie, t1, u1, Option.bind_some, zin_n (show m < 8 by omega) (by decide), cl_n (show m < 2 ^ 31 by omega), zlt, e5, e6, hne, d1', a1]
            rfl
          have hnu2 : zNu (zc (zc s 63 m (nI v)) 51 5 (nI (m + 1))) R1 (m + 1) := by
            intro k hk
            rw [zc_ne (by decide)]
            by_cases h : k = m
            · rw [h, zc_at, b7]
              exact ⟨rfl, v, hv1, rfl⟩
            · rw [zc_nk h, b6 k h]
              exact hnu k (by omega)
          have ih' := ih K K' (zc (zc s 63 m (nI v)) 51 5 (nI (m + 1))) R1 k (m + 1) (by omega) (by omega) (by omega) (hT.go hs12) (by rw [zc_nk (by decide), zc_ne (by decide)]; exact h4) zc_at (by omega) hkb.2 (fun h => by
            have := d2.2.2 h
            unfold qNs at this
            intro q
            rw [q] at this
            cases this) (fun j h1 h2 => hns j (by omega) h2) (hR.gof b2) b3 b5 hnu2
          rw [hcl, b1]
          rcases ih' with ⟨s', R', m', x1, x2, ⟨x3, x4⟩, x5, ⟨x6, x7, x8⟩, x9, x10⟩ | ⟨⟨s', y1, y2, y3⟩, y4⟩
          · left
            exact ⟨s', R', m', x1, x2, ⟨hs12.tr x3, b2.tr x4⟩, x5, ⟨x6, x7, x8.trans b8⟩, x9, x10⟩
          · right
            refine ⟨⟨s', hs12.tr y1, y2, y3⟩, ?_⟩
            rcases y4 with ⟨R', y5, y6, y7⟩ | ⟨R', m', i', y5, y6, y7, y8, y9, y10, y11, y12⟩
            · exact Or.inl ⟨R', y5, b2.tr y6, y7⟩
            · exact Or.inr ⟨R', m', i', y5, b2.tr y6, y7, y8, y9, y10, y11, y12.trans b8⟩
