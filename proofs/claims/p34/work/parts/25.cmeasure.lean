/-! the class measures -/
/-- what measuring leaves as it was: all but the rows of the meter and the suspects' boards -/
def zKu (s s' : zs) : Prop := s'.2 = s.2 ∧ (∀ a, a < 87 → s'.1 a = s.1 a) ∧ ∀ i, i ≤ 10 → s'.1 (87 + 3 * i) 1 = s.1 (87 + 3 * i) 1
theorem zKu.rfl' (s : zs) : zKu s s := ⟨rfl, fun _ _ => rfl, fun _ _ => rfl⟩
theorem zKu.tr {s t u : zs} (h : zKu s t) (h2 : zKu t u) : zKu s u := ⟨h2.1.trans h.1, fun a ha => (h2.2.1 a ha).trans (h.2.1 a ha), fun i hi => (h2.2.2 i hi).trans (h.2.2 i hi)⟩
def zIs (s : zs) (r : zrow) : Prop := zBr s 64 r ∧ ∀ i, i ≤ 10 → s.1 (87 + 3 * i) 1 = nI i
theorem zIs.go {s s' : zs} {r : zrow} (h : zIs s r) (k : zKu s s') : zIs s' r := ⟨h.1.cg (fun a h1 h2 => k.2.1 a (by omega)), fun i hi => (k.2.2 i hi).trans (h.2 i hi)⟩
theorem zUs.cg {s s' : zs} {i : Nat} {r : zrow} (h : zUs s i r) (e0 : ∀ k, k ≠ 6 → s'.1 (87 + 3 * i) k = s.1 (87 + 3 * i) k) (e1 : s'.1 (87 + 3 * i + 1) = s.1 (87 + 3 * i + 1)) (e2 : s'.1 (87 + 3 * i + 2) = s.1 (87 + 3 * i + 2)) : zUs s' i r := by
  obtain ⟨a, b, c, d⟩ := h
  refine ⟨(e0 1 (by decide)).trans a, (e0 4 (by decide)).trans b, (e0 5 (by decide)).trans c, fun p hp => ?_⟩
  rw [e1, e2]
  exact d p hp
/-- set up and probed -/
def zPs (s : zs) (i : Nat) (r : zrow) (t : Int32) : Prop := zUs s i r ∧ s.1 (87 + 3 * i) 6 = rc r i t
theorem c_setUp' {s : zs} {i : Nat} {r : zrow} (hI : zIs s r) (hV : zVr r) (hi : i ≤ 10) : ∃ s', f_X5_setUp s (87 + 3 * i) = some s' ∧ zKu s s' ∧ zUs s' i r ∧ ∀ j, j ≤ 10 → j ≠ i → zUs s j r → zUs s' j r := by
  obtain ⟨s', e1, e2, e3, e4⟩ := c_setUp hI.1 hV hi (hI.2 i hi)
  refine ⟨s', e1, ⟨e2, fun a ha => e3 a (by omega) (by omega) (by omega), fun j hj => ?_⟩, e4, fun j hj hji hu => ?_⟩
  · by_cases h : j = i
    · rw [h, e4.1, hI.2 i hi]
    · rw [e3 _ (by omega) (by omega) (by omega)]
  · exact hu.cg (fun k _ => by rw [e3 _ (by omega) (by omega) (by omega)]) (e3 _ (by omega) (by omega) (by omega)) (e3 _ (by omega) (by omega) (by omega))
theorem c_suppose {s : zs} {i : Nat} {r : zrow} (hI : zIs s r) (hV : zVr r) (hi : i ≤ 10) : ∃ s', f_X2_suppose s (nI i) = some (87 + 3 * i, s') ∧ zKu s s' ∧ zUs s' i r ∧ ∀ j, j ≤ 10 → j ≠ i → zUs s j r → zUs s' j r := by
  obtain ⟨s', e1, e2⟩ := c_setUp' hI hV hi
  refine ⟨s', ?_, e2⟩
  simp only [f_X2_suppose, zin_n (show i < 11 by omega) (by decide), if_true, cl_n (show i < 2 ^ 31 by omega), e1, Option.bind_some]
theorem c_supposeAll {s : zs} {r : zrow} (hI : zIs s r) (hV : zVr r) (S : Int32) : ∃ s', f_X2_supposeAll s S = some s' ∧ zKu s s' ∧ ∀ i, i ≤ 10 → bt S i = true → zUs s' i r := by
  have h := zli (fun k j x => f_X2_supposeAll_2 k x S (nI j)) (fun j x => zKu s x ∧ ∀ i, i < j → i ≤ 10 → bt S i = true → zUs x i r) (fun o => ∃ s', o = some s' ∧ zKu s s' ∧ ∀ i, i ≤ 10 → bt S i = true → zUs s' i r) 11 (fun k j x hj ⟨x1, x2⟩ => by
    have e1 : ¬ (11 : Int32) ≤ nI j := nI_ge hj (by decide)
    refine Or.inl ?_
    cases hb : bt S j
    · refine ⟨x, ⟨x1, fun i hi hi2 hq => ?_⟩, ?_⟩
      · by_cases h : i = j
        · rw [h, hb] at hq
          cases hq
        · exact x2 i (by omega) hi2 hq
      · show f_X2_supposeAll_2 (k + 1) x S (nI j) = _
        simp only [f_X2_supposeAll_2, e1, if_false, h6 _ (show j < 32 by omega), hb, Bool.false_eq_true, a1]
    · obtain ⟨y, g1, g2, g3, g4⟩ := c_setUp' (hI.go x1) hV (show j ≤ 10 by omega)
      refine ⟨y, ⟨x1.tr g2, fun i hi hi2 hq => ?_⟩, ?_⟩
      · by_cases h : i = j
        · rw [h]
          exact g3
        · exact g4 i hi2 h (x2 i (by omega) hi2 hq)
      · show f_X2_supposeAll_2 (k + 1) x S (nI j) = _
        simp only [f_X2_supposeAll_2, e1, if_false, h6 _ (show j < 32 by omega), hb, if_true, zin_n hj (by decide), cl_n (show j < 2 ^ 31 by omega), g1, Option.bind_some, a1]) (fun k x ⟨x1, x2⟩ => by
    refine ⟨x, ?_, x1, fun i hi hq => x2 i (by omega) hi hq⟩
    show f_X2_supposeAll_2 (k + 1) x S (nI 11) = _
    simp only [f_X2_supposeAll_2, show (11 : Int32) ≤ nI 11 from nI_le (Nat.le_refl 11) (by decide), if_true]) 11 0 zFu s (by omega) (zfu (by omega)) ⟨zKu.rfl' s, fun i hi => absurd hi (Nat.not_lt_zero i)⟩
  obtain ⟨s', e1, e2⟩ := h
  refine ⟨s', ?_, e2⟩
  unfold f_X2_supposeAll
  rw [show f_X2_supposeAll_2 zFu s S 0 = some s' from e1]
  rfl
theorem c_probe' {s : zs} {i : Nat} {r : zrow} (hI : zIs s r) (hV : zVr r) (hi : i ≤ 10) (hU : zUs s i r) (t : Int32) : ∃ s', f_X5_probe s (87 + 3 * i) t = some s' ∧ zKu s s' ∧ zPs s' i r t ∧ (∀ j, j ≤ 10 → zUs s j r → zUs s' j r) ∧ ∀ j t', j ≤ 10 → j ≠ i → zPs s j r t' → zPs s' j r t' := by
  obtain ⟨s', e1, e2, e3, e4, e5⟩ := c_probe hI.1 hV hU t
  have hu : ∀ j, j ≤ 10 → zUs s j r → zUs s' j r := by
    intro j hj hq
    by_cases h : j = i
    · subst h
      exact hq.cg e4 (e3 _ (by omega)) (e3 _ (by omega))
    · exact hq.cg (fun k _ => by rw [e3 _ (by omega)]) (e3 _ (by omega)) (e3 _ (by omega))
  refine ⟨s', e1, ⟨e2, fun a ha => e3 a (by omega), fun j hj => ?_⟩, ⟨hu i hi hU, e5⟩, hu, fun j t' hj hji hp => ⟨hu j hj hp.1, ?_⟩⟩
  · by_cases h : j = i
    · rw [h, e4 1 (by decide)]
    · rw [e3 _ (by omega)]
  · rw [e3 _ (by omega)]
    exact hp.2
theorem c_probeAll {s : zs} {r : zrow} (hI : zIs s r) (hV : zVr r) {S : Int32} (hU : ∀ i, i ≤ 10 → bt S i = true → zUs s i r) (t : Int32) : ∃ s', f_X2_probeAll s S t = some s' ∧ zKu s s' ∧ ∀ i, i ≤ 10 → bt S i = true → zPs s' i r t := by
  have h := zli (fun k j x => f_X2_probeAll_2 k x S t (nI j)) (fun j x => zKu s x ∧ (∀ i, i ≤ 10 → bt S i = true → zUs x i r) ∧ ∀ i, i < j → i ≤ 10 → bt S i = true → zPs x i r t) (fun o => ∃ s', o = some s' ∧ zKu s s' ∧ ∀ i, i ≤ 10 → bt S i = true → zPs s' i r t) 11 (fun k j x hj ⟨x1, x2, x3⟩ => by
    have e1 : ¬ (11 : Int32) ≤ nI j := nI_ge hj (by decide)
    refine Or.inl ?_
    cases hb : bt S j
    · refine ⟨x, ⟨x1, x2, fun i hi hi2 hq => ?_⟩, ?_⟩
      · by_cases h : i = j
        · rw [h, hb] at hq
          cases hq
        · exact x3 i (by omega) hi2 hq
      · show f_X2_probeAll_2 (k + 1) x S t (nI j) = _
        simp only [f_X2_probeAll_2, e1, if_false, h6 _ (show j < 32 by omega), hb, Bool.false_eq_true, a1]
    · obtain ⟨y, g1, g2, g3, g4, g5⟩ := c_probe' (hI.go x1) hV (show j ≤ 10 by omega) (x2 j (by omega) hb) t
      refine ⟨y, ⟨x1.tr g2, fun i hi hq => g4 i hi (x2 i hi hq), fun i hi hi2 hq => ?_⟩, ?_⟩
      · by_cases h : i = j
        · rw [h]
          exact g3
        · exact g5 i t hi2 h (x3 i (by omega) hi2 hq)
      · show f_X2_probeAll_2 (k + 1) x S t (nI j) = _
        simp only [f_X2_probeAll_2, e1, if_false, h6 _ (show j < 32 by omega), hb, if_true, zin_n hj (by decide), cl_n (show j < 2 ^ 31 by omega), g1, Option.bind_some, a1]) (fun k x ⟨x1, x2, x3⟩ => by
    refine ⟨x, ?_, x1, fun i hi hq => x3 i (by omega) hi hq⟩
    show f_X2_probeAll_2 (k + 1) x S t (nI 11) = _
    simp only [f_X2_probeAll_2, show (11 : Int32) ≤ nI 11 from nI_le (Nat.le_refl 11) (by decide), if_true]) 11 0 zFu s (by omega) (zfu (by omega)) ⟨zKu.rfl' s, hU, fun i hi => absurd hi (Nat.not_lt_zero i)⟩
  obtain ⟨s', e1, e2⟩ := h
  refine ⟨s', ?_, e2⟩
  unfold f_X2_probeAll
  rw [show f_X2_probeAll_2 zFu s S t 0 = some s' from e1]
  rfl
theorem c_pinsAt1 {s : zs} {i : Nat} {r : zrow} {t : Int32} (hP : zPs s i r t) {p : Nat} (hp : p < 16) : f_X5_pinsAtOne s (87 + 3 * i) (nI p) 1 = some (rdV r i (rc r i t) p true) := by
  simp only [f_X5_pinsAtOne, if_true, zin_n hp (by decide), cl_n (show p < 2 ^ 31 by omega), zlt, (hP.1.2.2.2 p hp).2, hP.1.2.1, hP.2, rdV]
theorem c_pinsAt {s : zs} {i : Nat} {r : zrow} {t : Int32} (hP : zPs s i r t) {p : Nat} (hp : p < 16) (v : Bool) : f_X5_pinsAtOne s (87 + 3 * i) (nI p) (zb v) = some (rdV r i (rc r i t) p v) := by
  cases v
  · simp only [f_X5_pinsAtOne, show ¬ zb false = 1 by decide, if_false, zlt, hP.1.2.1, hP.2, rdV, Bool.false_eq_true]
  · exact c_pinsAt1 hP hp
theorem c_sameOutcome {s : zs} {i j : Nat} {r : zrow} {t : Int32} (hV : zVr r) (ht : zTo t) (hP : zPs s i r t) (hQ : zPs s j r t) : f_X5_sameOutcome s (87 + 3 * i) (87 + 3 * j) = some (lk r t i j) := by
  have hx : ∀ i, zTo (rc r i t) := fun i => rc_to hV i ht
  unfold f_X5_sameOutcome
  rw [hP.2, hQ.2, hP.1.2.1, hQ.1.2.1]
  by_cases h0 : rc r i t = rc r j t
  · rw [if_pos h0]
    by_cases h1 : stV r i &&& rc r i t = stV r j &&& rc r i t
    · rw [if_pos h1]
      have h := zlq (fun k p => f_X5_sameOutcome_36 k s (87 + 3 * i) (87 + 3 * j) (nI p)) (fun p => bt (rc r i t) p && !decide (rdV r i (rc r i t) p true = rdV r j (rc r j t) p true)) (fun _ => some (Sum.inr false)) (some (Sum.inl ())) 16 (fun k p hp _ hq => by
        show f_X5_sameOutcome_36 (k + 1) s (87 + 3 * i) (87 + 3 * j) (nI p) = _
        have e1 : ¬ (16 : Int32) ≤ nI p := nI_ge hp (by decide)
        simp only [f_X5_sameOutcome_36, e1, if_false, hP.2, h6 _ (show p < 32 by omega), c_pinsAt1 hP hp, c_pinsAt1 hQ hp, Option.bind_some, a1]
        cases hb : bt (rc r i t) p
        · rw [if_neg (by decide)]
        · rw [if_pos rfl]
          rw [hb, Bool.true_and, Bool.not_eq_false', decide_eq_true_eq] at hq
          rw [if_pos hq]) (fun k p hp _ hq => by
        show f_X5_sameOutcome_36 (k + 1) s (87 + 3 * i) (87 + 3 * j) (nI p) = _
        have e1 : ¬ (16 : Int32) ≤ nI p := nI_ge hp (by decide)
        rw [Bool.and_eq_true, Bool.not_eq_true', decide_eq_false_iff_not] at hq
        simp only [f_X5_sameOutcome_36, e1, if_false, hP.2, h6 _ (show p < 32 by omega), c_pinsAt1 hP hp, c_pinsAt1 hQ hp, Option.bind_some, hq.1, if_true, hq.2]) (fun k => by
        show f_X5_sameOutcome_36 (k + 1) s (87 + 3 * i) (87 + 3 * j) (nI 16) = _
        simp only [f_X5_sameOutcome_36, show (16 : Int32) ≤ nI 16 from nI_le (Nat.le_refl 16) (by decide), if_true]) 16 0 zFu (by omega) (zfu (by omega)) (fun j hj => absurd hj (Nat.not_lt_zero j))
      rw [show f_X5_sameOutcome_36 zFu s (87 + 3 * i) (87 + 3 * j) 0 = _ from h]
      cases hf : fst 16 (fun p => bt (rc r i t) p && !decide (rdV r i (rc r i t) p true = rdV r j (rc r j t) p true)) with
      | none =>
        show some true = _
        have := fst_none.mp hf
        rw [(lk_class hx).mpr ⟨h0, h1, fun p hp hb => ?_⟩]
        have h2 := this p hp
        simp only [hb, Bool.true_and, Bool.not_eq_false', decide_eq_true_eq] at h2
        exact h2
      | some p =>
        show some false = _
        obtain ⟨hp, hq, -⟩ := fst_some.mp hf
        simp only [Bool.and_eq_true, Bool.not_eq_true', decide_eq_false_iff_not] at hq
        congr 1
        refine (Bool.eq_false_iff.mpr (fun q => ?_)).symm
        exact hq.2 (((lk_class hx).mp q).2.2 p hp hq.1)
    · rw [if_neg h1]
      congr 1
      exact (Bool.eq_false_iff.mpr (fun q => h1 ((lk_class hx).mp q).2.1)).symm
  · rw [if_neg h0]
    congr 1
    exact (Bool.eq_false_iff.mpr (fun q => h0 ((lk_class hx).mp q).1)).symm
/-! all suspects -/
def isB (r : zrow) (k : Nat) : Bool := decide (k < cF r) || decide (k = 10)
theorem isB_iff {r : zrow} {k : Nat} : isB r k = true ↔ sOk r k := by
  unfold isB sOk
  rw [Bool.or_eq_true, decide_eq_true_eq, decide_eq_true_eq]
def aS (r : zrow) : Int32 := (1024 : Int32) ||| (((1 : Int32) <<< (nI (cF r) &&& 31)) - 1)
theorem b_lo : ∀ n, n < 11 → ∀ k, k < 32 → bt (((1 : Int32) <<< (nI n &&& 31)) - 1) k = decide (k < n) := by decide +kernel
theorem b_1024 : ∀ k, k < 32 → bt 1024 k = decide (k = 10) := by decide +kernel
theorem bt_aS {r : zrow} (hV : zVr r) {k : Nat} (hk : k < 32) : bt (aS r) k = isB r k := by
  have hf := hV.f.2
  unfold aS isB
  rw [b_or, b_lo _ (by omega) k hk, b_1024 k hk, Bool.or_comm]
theorem c_allSuspects {s : zs} {b : Nat} {r : zrow} (hB : zBr s b r) (hV : zVr r) : f_X0_allSuspects s b = aS r := by
  unfold f_X0_allSuspects aS
  rw [hB.f, hV.f.1]
/-- the first suspect that looks like one -/
def fl (r : zrow) (t : Int32) (i : Nat) : Nat := (fst i (fun j => isB r j && lk r t i j)).getD i
theorem fl_spec {r : zrow} {t : Int32} {i : Nat} (hi : sOk r i) : fl r t i ≤ i ∧ sOk r (fl r t i) ∧ lk r t i (fl r t i) = true ∧ ∀ k, k < fl r t i → sOk r k → lk r t i k = false := by
  unfold fl
  cases h : fst i (fun j => isB r j && lk r t i j) with
  | none =>
    refine ⟨Nat.le_refl _, hi, lk_refl _ _ _, fun k hk hs => ?_⟩
    have := fst_none.mp h k hk
    rw [isB_iff.mpr hs, Bool.true_and] at this
    exact this
  | some j =>
    obtain ⟨h1, h2, h3⟩ := fst_some.mp h
    rw [Bool.and_eq_true] at h2
    refine ⟨Nat.le_of_lt h1, isB_iff.mp h2.1, h2.2, fun k hk hs => ?_⟩
    have := h3 k hk
    rw [isB_iff.mpr hs, Bool.true_and] at this
    exact this
theorem fl_eq {r : zrow} {t : Int32} {i j : Nat} (hi : sOk r i) (hj : sOk r j) : fl r t i = fl r t j ↔ lk r t i j = true := by
  obtain ⟨-, a1, a2, a3⟩ := fl_spec (t := t) hi
  obtain ⟨-, b1, b2, b3⟩ := fl_spec (t := t) hj
  constructor
  · intro h
    rw [h] at a2
    exact lk_trans a2 (lk_sym b2)
  · intro h
    rcases Nat.lt_trichotomy (fl r t i) (fl r t j) with g | g | g
    · have := b3 _ g a1
      rw [lk_trans (lk_sym h) a2] at this
      cases this
    · exact g
    · have := a3 _ g b1
      rw [lk_trans h b2] at this
      cases this
/-- what the week's rows hold -/
def flW (r : zrow) (d i : Nat) : Int32 := if isB r i = true then nI (fl r (tO r d) i) else -1
theorem flW_eq {r : zrow} (hV : zVr r) {d i j : Nat} (hi : sOk r i) : flW r d j = flW r d i ↔ (isB r j && lk r (tO r d) i j) = true := by
  unfold flW
  rw [if_pos (isB_iff.mpr hi)]
  have hfi := fl_spec (t := tO r d) hi
  have h10 := hi.le hV
  cases hb : isB r j
  · rw [if_neg (by decide), Bool.false_and]
    exact ⟨fun q => absurd q.symm (m1_ne (by omega)), fun q => by cases q⟩
  · have hj := isB_iff.mp hb
    have hj10 := hj.le hV
    have hfj := fl_spec (t := tO r d) hj
    rw [if_pos rfl, Bool.true_and, nI_eq (by omega) (by omega), fl_eq hj hi]
    exact ⟨lk_sym, lk_sym⟩
/-- what measuring a week leaves -/
def zKw (s s' : zs) : Prop := s'.2 = s.2 ∧ (∀ a, a < 79 → s'.1 a = s.1 a) ∧ s'.1 86 = s.1 86 ∧ ∀ i, i ≤ 10 → s'.1 (87 + 3 * i) 1 = s.1 (87 + 3 * i) 1
theorem zKw.tr {s t u : zs} (h : zKw s t) (h2 : zKw t u) : zKw s u := ⟨h2.1.trans h.1, fun a ha => (h2.2.1 a ha).trans (h.2.1 a ha), h2.2.2.1.trans h.2.2.1, fun i hi => (h2.2.2.2 i hi).trans (h.2.2.2 i hi)⟩
theorem zKu.w {s s' : zs} (h : zKu s s') : zKw s s' := ⟨h.1, fun a ha => h.2.1 a (by omega), h.2.1 86 (by omega), h.2.2⟩
theorem zIs.gow {s s' : zs} {r : zrow} (h : zIs s r) (k : zKw s s') : zIs s' r := ⟨h.1.cg (fun a h1 h2 => k.2.1 a (by omega)), fun i hi => (k.2.2.2 i hi).trans (h.2 i hi)⟩
/-- the week is measured -/
def zWk (s : zs) (r : zrow) : Prop := ∀ d, d < 7 → ∀ i, i < 11 → s.1 (79 + d) i = flW r d i
