/-! a command is read -/
/-- a loop that may end early, from a place on -/
theorem zlq2 {β : Type} (G : Nat → Nat → β) (q : Nat → Bool) (hv : Nat → β) (ev : β) (i0 n : Nat) (hs : ∀ k i, i0 ≤ i → i < n → q i = false → G (k + 1) i = G k (i + 1)) (hh : ∀ k i, i0 ≤ i → i < n → q i = true → G (k + 1) i = hv i) (he : ∀ k, G (k + 1) n = ev) : ∀ m i k, i + m = n → m < k → i0 ≤ i → (∀ j, j < i → q j = false) → G k i = (match fst n q with | some j => hv j | none => ev) := by
  intro m
  induction m with
  | zero =>
    intro i k h hk _ hq
    obtain ⟨k, rfl⟩ : ∃ j, k = j + 1 := ⟨k - 1, by omega⟩
    have hin : i = n := by omega
    subst hin
    rw [fst_none.mpr hq]
    exact he k
  | succ m ih =>
    intro i k h hk h0 hq
    obtain ⟨k, rfl⟩ : ∃ j, k = j + 1 := ⟨k - 1, by omega⟩
    cases hqi : q i
    · rw [hs k i h0 (by omega) hqi]
      refine ih (i + 1) k (by omega) (by omega) (by omega) (fun j hj => ?_)
      by_cases h2 : j = i
      · subst h2
        exact hqi
      · exact hq j (by omega)
    · rw [hh k i h0 (by omega) hqi, fst_some.mpr ⟨by omega, hqi, hq⟩]
def uqi (f : Nat → Int32) (m a : Nat) : Bool := (fst m (fun j => decide (a < j) && decide (f a = f j))).isSome
def uq (f : Nat → Int32) (b m : Nat) : Bool := (fst m (fun a => decide (b ≤ a) && uqi f m a)).isNone
theorem uq_cg {f g : Nat → Int32} {b m : Nat} (h : ∀ k, k < m → f k = g k) : uq f b m = uq g b m := by
  unfold uq
  congr 1
  refine fst_cg (fun a ha => ?_)
  congr 1
  unfold uqi
  congr 1
  exact fst_cg (fun j hj => by rw [h a ha, h j hj])
def fw (w : Nat) : Nat := if w = 7 then 1 else 0
theorem c_areUnlike {s : zs} {w m : Nat} (hm : m ≤ 8) (hw : w < 8) (h4 : s.1 51 4 = nI w) (h5 : s.1 51 5 = nI m) (hb : fw w ≤ m) : f_X3_areUnlike s = some (uq (s.1 63) (fw w) m) := by
  have inn : ∀ a, a < m → f_X3_areUnlike_29 zFu s (nI a) (nI (a + 1)) = (match fst m (fun j => decide (a < j) && decide (s.1 63 a = s.1 63 j)) with | some _ => some (Sum.inr false) | none => some (Sum.inl ())) := by
    intro a ha
    exact zlq2 (fun k j => f_X3_areUnlike_29 k s (nI a) (nI j)) (fun j => decide (a < j) && decide (s.1 63 a = s.1 63 j)) (fun _ => some (Sum.inr false)) (some (Sum.inl ())) (a + 1) m (fun k j h0 hj hq => by
      show f_X3_areUnlike_29 (k + 1) s (nI a) (nI j) = _
      have e1 : ¬ nI m ≤ nI j := nI_ge hj (by omega)
      rw [decide_eq_true (show a < j by omega), Bool.true_and, decide_eq_false_iff_not] at hq
      simp only [f_X3_areUnlike_29, h5, e1, if_false, zin_n (show a < 8 by omega) (by decide), zin_n (show j < 8 by omega) (by decide), if_true, cl_n (show a < 2 ^ 31 by omega), cl_n (show j < 2 ^ 31 by omega), hq, a1]) (fun k j h0 hj hq => by
      show f_X3_areUnlike_29 (k + 1) s (nI a) (nI j) = _
      have e1 : ¬ nI m ≤ nI j := nI_ge hj (by omega)
      rw [Bool.and_eq_true, decide_eq_true_eq, decide_eq_true_eq] at hq
      simp only [f_X3_areUnlike_29, h5, e1, if_false, zin_n (show a < 8 by omega) (by decide), zin_n (show j < 8 by omega) (by decide), if_true, cl_n (show a < 2 ^ 31 by omega), cl_n (show j < 2 ^ 31 by omega), hq.2]) (fun k => by
      show f_X3_areUnlike_29 (k + 1) s (nI a) (nI m) = _
      simp only [f_X3_areUnlike_29, h5, nI_le (Nat.le_refl m) (show m < 2 ^ 31 by omega), if_true]) (m - (a + 1)) (a + 1) zFu (by omega) (zfu (by omega)) (Nat.le_refl _) (fun j hj => by rw [decide_eq_false (by omega), Bool.false_and])
  have out : ∀ b, b ≤ m → f_X3_areUnlike_17 zFu s (nI b) = (match fst m (fun a => decide (b ≤ a) && uqi (s.1 63) m a) with | some _ => some (Sum.inr false) | none => some (Sum.inl ())) := by
    intro b hbm
    exact zlq2 (fun k a => f_X3_areUnlike_17 k s (nI a)) (fun a => decide (b ≤ a) && uqi (s.1 63) m a) (fun _ => some (Sum.inr false)) (some (Sum.inl ())) b m (fun k a h0 ha hq => by
      show f_X3_areUnlike_17 (k + 1) s (nI a) = _
      have e1 : ¬ nI m ≤ nI a := nI_ge ha (by omega)
      rw [decide_eq_true h0, Bool.true_and] at hq
      simp only [f_X3_areUnlike_17, h5, e1, if_false, zlt, a1, inn a ha]
      unfold uqi at hq
      cases hf : fst m (fun j => decide (a < j) && decide (s.1 63 a = s.1 63 j)) with
      | none => rfl
      | some j =>
        rw [hf] at hq
        cases hq) (fun k a h0 ha hq => by
      show f_X3_areUnlike_17 (k + 1) s (nI a) = _
      have e1 : ¬ nI m ≤ nI a := nI_ge ha (by omega)
      rw [decide_eq_true h0, Bool.true_and] at hq
      simp only [f_X3_areUnlike_17, h5, e1, if_false, zlt, a1, inn a ha]
      unfold uqi at hq
      cases hf : fst m (fun j => decide (a < j) && decide (s.1 63 a = s.1 63 j)) with
      | none =>
        rw [hf] at hq
        cases hq
      | some j => rfl) (fun k => by
      show f_X3_areUnlike_17 (k + 1) s (nI m) = _
      simp only [f_X3_areUnlike_17, h5, nI_le (Nat.le_refl m) (show m < 2 ^ 31 by omega), if_true]) (m - b) b zFu (by omega) (zfu (by omega)) (Nat.le_refl _) (fun j hj => by rw [decide_eq_false (by omega), Bool.false_and])
  have q7 : (nI w = (7 : Int32)) = (w = 7) := propext (nI_eq (b := 7) (by omega) (by omega))
  unfold f_X3_areUnlike
  simp only [h4, q7]
  unfold fw at hb ⊢
  by_cases g : w = 7
  · rw [if_pos g] at hb ⊢
    rw [if_pos g, show f_X3_areUnlike_17 zFu s 1 = _ from out 1 hb]
    unfold uq
    cases fst m (fun a => decide (1 ≤ a) && uqi (s.1 63) m a) <;> rfl
  · rw [if_neg g] at hb ⊢
    rw [if_neg g, show f_X3_areUnlike_17 zFu s 0 = _ from out 0 hb]
    unfold uq
    cases fst m (fun a => decide (0 ≤ a) && uqi (s.1 63) m a) <;> rfl
theorem r_areUnlike {R : zr} {b m : Nat} (hm : m ≤ 9) (h10 : R 0 10 = nI m) (hb : b ≤ m) : f_X7_areUnlike R (nI b) = some (uq (R 7) b m) := by
  have inn : ∀ a, a < m → f_X7_areUnlike_14 zFu R (nI a) (nI (a + 1)) = (match fst m (fun j => decide (a < j) && decide (R 7 a = R 7 j)) with | some _ => some (Sum.inr false) | none => some (Sum.inl ())) := by
    intro a ha
    exact zlq2 (fun k j => f_X7_areUnlike_14 k R (nI a) (nI j)) (fun j => decide (a < j) && decide (R 7 a = R 7 j)) (fun _ => some (Sum.inr false)) (some (Sum.inl ())) (a + 1) m (fun k j h0 hj hq => by
      show f_X7_areUnlike_14 (k + 1) R (nI a) (nI j) = _
      have e1 : ¬ nI m ≤ nI j := nI_ge hj (by omega)
      rw [decide_eq_true (show a < j by omega), Bool.true_and, decide_eq_false_iff_not] at hq
      simp only [f_X7_areUnlike_14, h10, e1, if_false, zin_n (show a < 9 by omega) (by decide), zin_n (show j < 9 by omega) (by decide), if_true, cl_n (show a < 2 ^ 31 by omega), cl_n (show j < 2 ^ 31 by omega), hq, a1]) (fun k j h0 hj hq => by
      show f_X7_areUnlike_14 (k + 1) R (nI a) (nI j) = _
      have e1 : ¬ nI m ≤ nI j := nI_ge hj (by omega)
      rw [Bool.and_eq_true, decide_eq_true_eq, decide_eq_true_eq] at hq
      simp only [f_X7_areUnlike_14, h10, e1, if_false, zin_n (show a < 9 by omega) (by decide), zin_n (show j < 9 by omega) (by decide), if_true, cl_n (show a < 2 ^ 31 by omega), cl_n (show j < 2 ^ 31 by omega), hq.2]) (fun k => by
      show f_X7_areUnlike_14 (k + 1) R (nI a) (nI m) = _
      simp only [f_X7_areUnlike_14, h10, nI_le (Nat.le_refl m) (show m < 2 ^ 31 by omega), if_true]) (m - (a + 1)) (a + 1) zFu (by omega) (zfu (by omega)) (Nat.le_refl _) (fun j hj => by rw [decide_eq_false (by omega), Bool.false_and])
  have out : f_X7_areUnlike_2 zFu R (nI b) = (match fst m (fun a => decide (b ≤ a) && uqi (R 7) m a) with | some _ => some (Sum.inr false) | none => some (Sum.inl ())) := by
    exact zlq2 (fun k a => f_X7_areUnlike_2 k R (nI a)) (fun a => decide (b ≤ a) && uqi (R 7) m a) (fun _ => some (Sum.inr false)) (some (Sum.inl ())) b m (fun k a h0 ha hq => by
      show f_X7_areUnlike_2 (k + 1) R (nI a) = _
      have e1 : ¬ nI m ≤ nI a := nI_ge ha (by omega)
      rw [decide_eq_true h0, Bool.true_and] at hq
      simp only [f_X7_areUnlike_2, h10, e1, if_false, zlt, a1, inn a ha]
      unfold uqi at hq
      cases hf : fst m (fun j => decide (a < j) && decide (R 7 a = R 7 j)) with
      | none => rfl
      | some j =>
        rw [hf] at hq
        cases hq) (fun k a h0 ha hq => by
      show f_X7_areUnlike_2 (k + 1) R (nI a) = _
      have e1 : ¬ nI m ≤ nI a := nI_ge ha (by omega)
      rw [decide_eq_true h0, Bool.true_and] at hq
      simp only [f_X7_areUnlike_2, h10, e1, if_false, zlt, a1, inn a ha]
      unfold uqi at hq
      cases hf : fst m (fun j => decide (a < j) && decide (R 7 a = R 7 j)) with
      | none =>
        rw [hf] at hq
        cases hq
      | some j => rfl) (fun k => by
      show f_X7_areUnlike_2 (k + 1) R (nI m) = _
      simp only [f_X7_areUnlike_2, h10, nI_le (Nat.le_refl m) (show m < 2 ^ 31 by omega), if_true]) (m - b) b zFu (by omega) (zfu (by omega)) (Nat.le_refl _) (fun j hj => by rw [decide_eq_false (by omega), Bool.false_and])
  unfold f_X7_areUnlike
  rw [out]
  unfold uq
  cases fst m (fun a => decide (b ≤ a) && uqi (R 7) m a) <;> rfl
/-- a word's kind, its code -/
def kdW (w : Nat) : Nat := ([5, 6, 0, 1, 2, 3, 4, 7] : List Nat).getD w 0
def cw (w : Nat) : Nat := enc (wch w) (wln w)
theorem kind_w : ∀ w, w < 8 → f_X7_commandKind (fun _ _ => nI (cw w)) = nI (kdW w) := by decide +kernel
theorem cw_b : ∀ w, w < 8 → 0 < cw w ∧ cw w < 2 ^ 31 := by decide +kernel
theorem code_w : f_X7_codeOf 111 112 101 110 32 = nI (cw 2) ∧ f_X7_codeOf 115 104 111 114 116 = nI (cw 3) ∧ f_X7_codeOf 108 111 119 32 32 = nI (cw 4) ∧ f_X7_codeOf 104 105 103 104 32 = nI (cw 5) ∧ f_X7_codeOf 100 101 97 100 32 = nI (cw 6) ∧ f_X7_codeOf 110 101 116 32 32 = nI (cw 0) ∧ f_X7_codeOf 99 104 105 112 32 = nI (cw 1) ∧ f_X7_codeOf 98 108 101 115 115 = nI (cw 7) := by decide +kernel
theorem kind_t {R : zr} {w : Nat} (hw : w < 8) (h : R 0 9 = nI (cw w)) : f_X7_commandKind R = nI (kdW w) := by
  have e : f_X7_commandKind R = f_X7_commandKind (fun _ _ => R 0 9) := rfl
  rw [e, h]
  exact kind_w w hw
theorem kind_f {R : zr} {cd : Nat} (hcd : cd < 2 ^ 31) (h : R 0 9 = nI cd) (hn : ∀ w, w < 8 → cd ≠ cw w) : f_X7_commandKind R = -1 := by
  obtain ⟨k2, k3, k4, k5, k6, k0, k1, k7⟩ := code_w
  have ne : ∀ w, w < 8 → ¬ nI cd = nI (cw w) := fun w hw q => hn w hw ((nI_eq hcd (cw_b w hw).2).mp q)
  unfold f_X7_commandKind
  rw [h, k2, k3, k4, k5, k6, k0, k1, k7, if_neg (ne 2 (by decide)), if_neg (ne 3 (by decide)), if_neg (ne 4 (by decide)), if_neg (ne 5 (by decide)), if_neg (ne 6 (by decide)), if_neg (ne 0 (by decide)), if_neg (ne 1 (by decide)), if_neg (ne 7 (by decide))]
theorem form_no (R : zr) : f_X7_isOfForm R (-1) = some false := rfl
theorem form_w {R : zr} {w m : Nat} (hw : w < 8) (hm : m ≤ 9) (h10 : R 0 10 = nI m) : f_X7_isOfForm R (nI (kdW w)) = some (decide (few w ≤ m) && (decide (m ≤ mst w) && uq (R 7) (fw w) m)) := by
  have one : (if R 0 10 = 1 then some true else some false) = some (decide (1 ≤ m) && (decide (m ≤ 1) && uq (R 7) 0 m)) := by
    rw [h10]
    have q : (nI m = (1 : Int32)) = (m = 1) := propext (nI_eq (b := 1) (by omega) (by omega))
    simp only [q]
    by_cases g : m = 1
    · subst g
      rfl
    · rw [if_neg g]
      by_cases g1 : 1 ≤ m
      · rw [decide_eq_false (show ¬ m ≤ 1 by omega), Bool.false_and, Bool.and_false]
      · rw [decide_eq_false g1, Bool.false_and]
  have rng : ∀ a b f, f ≤ a → a < 100 → b < 100 → (if f_X7_isIn (R 0 10) (nI a) (nI b) = true then Option.bind (f_X7_areUnlike R (nI f)) (fun v => if v = true then some true else some false) else some false) = some (decide (a ≤ m) && (decide (m ≤ b) && uq (R 7) f m)) := by
    intro a b f hf ha hb
    rw [h10, isIn_n (by omega) (by omega) (by omega)]
    by_cases g1 : a ≤ m
    · rw [decide_eq_true g1, Bool.true_and]
      by_cases g2 : m ≤ b
      · rw [decide_eq_true g2, if_pos rfl, r_areUnlike hm h10 (by omega), Option.bind_some, Bool.true_and]
        cases uq (R 7) f m <;> rfl
      · rw [decide_eq_false g2, if_neg (by decide), Bool.false_and, Bool.and_false]
    · rw [decide_eq_false g1, Bool.false_and, if_neg (by decide), Bool.false_and]
  have two : (if R 0 10 = 2 then Option.bind (f_X7_areUnlike R 0) (fun v => if v = true then some true else some false) else some false) = some (decide (2 ≤ m) && (decide (m ≤ 2) && uq (R 7) 0 m)) := by
    rw [h10]
    have q : (nI m = (2 : Int32)) = (m = 2) := propext (nI_eq (b := 2) (by omega) (by omega))
    simp only [q]
    by_cases g : m = 2
    · rw [if_pos g, show f_X7_areUnlike R 0 = _ from r_areUnlike (b := 0) hm h10 (by omega), Option.bind_some, decide_eq_true (show 2 ≤ m by omega), decide_eq_true (show m ≤ 2 by omega)]
      cases uq (R 7) 0 m <;> rfl
    · rw [if_neg g]
      by_cases g1 : 2 ≤ m
      · rw [decide_eq_false (show ¬ m ≤ 2 by omega), Bool.false_and, Bool.and_false]
      · rw [decide_eq_false g1, Bool.false_and]
  rcases (show w = 0 ∨ w = 1 ∨ w = 2 ∨ w = 3 ∨ w = 4 ∨ w = 5 ∨ w = 6 ∨ w = 7 by omega) with rfl | rfl | rfl | rfl | rfl | rfl | rfl | rfl
  · exact rng 2 5 0 (by omega) (by omega) (by omega)
  · exact rng 2 7 0 (by omega) (by omega) (by omega)
  · exact one
  · exact two
  · exact one
  · exact one
  · exact one
  · exact rng 1 8 1 (by omega) (by omega) (by omega)
/-- what the reference's word says of the class's -/
theorem word_rel {c : Nat → Nat} {n p e t q : Nat} (hc : zTc c n) (ht : isNx (qSp c) p e t) (hq : isNx (qNl c) p n q) (he : e < n) (hs : c e = 59) (hns : ∀ j, p ≤ j → j < e → c j ≠ 59) : (q = t ∧ ∀ w, w < 8 → (wr c w p t = true ↔ cdN c p q = cw w)) ∨ (q < t ∧ ∀ w, w < 8 → wr c w p t = false) := by
  obtain ⟨en1, en2⟩ := tokE ht he hs hns
  have hte := ht.1
  have hqp := hq.1
  have hqt : q ≤ t := by
    refine Nat.le_of_not_lt (fun h => ?_)
    have h1 := hq.2.1 t hte.1 h
    unfold qNl at h1
    have h2 : 97 ≤ c t ∧ c t ≤ 122 := by simpa using h1
    unfold enB at en2
    rw [Bool.and_eq_true, Bool.or_eq_true, decide_eq_true_eq, decide_eq_true_eq, decide_eq_true_eq] at en2
    omega
  have lt : ∀ j, p ≤ j → j < q → 97 ≤ c j ∧ c j ≤ 122 := fun j h1 h2 => by
    have := hq.2.1 j h1 h2
    unfold qNl at this
    simpa using this
  have wrd : ∀ w, wr c w p t = true → wln w = t - p ∧ ∀ j, j < wln w → wch w j = c (p + j) := by
    intro w h
    unfold wr at h
    rw [Bool.and_eq_true, decide_eq_true_eq, Option.isNone_iff_eq_none, fst_none] at h
    refine ⟨h.1, fun j hj => ?_⟩
    have := h.2 j hj
    simpa using this
  by_cases g : q = t
  · left
    refine ⟨g, fun w hw => ⟨fun h => ?_, fun h => ?_⟩⟩
    · obtain ⟨h1, h2⟩ := wrd w h
      have h5 := (wln_b w hw).2
      unfold cdN cw
      rw [if_pos (by omega), h1, g]
      exact enc_cg (fun j hj => (h2 j (by omega)).symm)
    · have hpos := (cw_b w hw).1
      unfold cdN at h
      by_cases h5 : q - p ≤ 5
      · rw [if_pos h5] at h
        unfold cw at h
        obtain ⟨a1, a2⟩ := enc_inj _ _ (fun j hj => lt (p + j) (by omega) (by omega)) (fun j hj => wch_l w hw j hj) h
        unfold wr
        rw [Bool.and_eq_true, decide_eq_true_eq, Option.isNone_iff_eq_none, fst_none]
        refine ⟨by omega, fun j hj => ?_⟩
        rw [decide_eq_true (a2 j (by omega)).symm]
        rfl
      · rw [if_neg h5] at h
        omega
  · right
    refine ⟨by omega, fun w hw => Bool.eq_false_iff.mpr (fun h => ?_)⟩
    obtain ⟨h1, h2⟩ := wrd w h
    have h3 := hq.2.2 (by omega)
    have h4 := wch_l w hw (q - p) (by omega)
    rw [h2 (q - p) (by omega), show p + (q - p) = q by omega] at h4
    unfold qNl at h3
    rw [decide_eq_true h4.1, decide_eq_true h4.2] at h3
    cases h3
theorem zNf.zm8 (R : zr) (k : Nat) (v : Int32) (h : k = 8 ∨ k = 9 ∨ k = 10) : zNf R (zm R 0 k v) := ⟨fun a ha _ => zm_ne ha, fun j a b d => zm_nk (by omega)⟩
theorem cdN_lt {c : Nat → Nat} {n p q : Nat} (hq : isNx (qNl c) p n q) : cdN c p q < 2 ^ 31 := by
  unfold cdN
  by_cases h5 : q - p ≤ 5
  · rw [if_pos h5]
    refine Nat.lt_of_lt_of_le (enc_lt (fun i hi => ?_)) (Nat.le_trans (Nat.pow_le_pow_right (by decide) h5) (by decide))
    have := hq.2.1 (p + i) (by omega) (by omega)
    unfold qNl at this
    have h9 : 97 ≤ c (p + i) ∧ c (p + i) ≤ 122 := by simpa using this
    exact h9.2
  · rw [if_neg h5]
    decide
/-- the reference reads a command's word -/
theorem r_cmdWord {R : zr} {c : Nat → Nat} {n p : Nat} (hT : zRl R c n) (hc : zTc c n) (h8 : R 0 8 = nI p) (hp : p ≤ n) : ∃ q, isNx (qNl c) p n q ∧ ((∃ R', f_X7_readsCommand R = some (false, R') ∧ zNf R R' ∧ (∃ i', i' ≤ n ∧ R' 0 8 = nI i') ∧ (cdN c p q = 0 ∨ enB c n q = false)) ∨ (cdN c p q ≠ 0 ∧ enB c n q = true ∧ ∃ S k, f_X7_readsCommand R = (Option.bind (f_X7_readsCommand_33 zFu S) fun e10 => match e10 with | Sum.inr r13 => some r13 | Sum.inl e10i => some (true, zm e10i 0 8 ((e10i 0 8) + 1))) ∧ zNf R S ∧ S 0 8 = nI k ∧ isNx (qNs c) q n k ∧ S 0 10 = 0 ∧ S 0 9 = nI (cdN c p q))) := by
  have k0 : zNf R (zm R 0 10 0) := zNf.zm8 R 10 0 (by omega)
  obtain ⟨S, q, s1, s2, s3, s4⟩ := r_readsWord (hT.gof k0) hc (show (zm R 0 10 0) 0 8 = nI p by rw [zm_nk (by decide)]; exact h8) hp
  refine ⟨q, s4, ?_⟩
  have k1 : zNf R (zm S 0 9 (nI (cdN c p q))) := (k0.tr s2.f).tr (zNf.zm8 S 9 _ (by omega))
  have e8 : (zm S 0 9 (nI (cdN c p q))) 0 8 = nI q := by rw [zm_nk (by decide)]; exact s3
  have e9 : (zm S 0 9 (nI (cdN c p q))) 0 9 = nI (cdN c p q) := zm_at
  have hlt := cdN_lt s4
  have hqn := s4.1.2
  have eE := r_isEnded (hT.gof k1) hc e8 hqn
  have unf : f_X7_readsCommand R = (if nI (cdN c p q) = 0 then some (false, zm S 0 9 (nI (cdN c p q))) else Option.bind (f_X7_isEnded (zm S 0 9 (nI (cdN c p q)))) fun v7 => if v7 = true then Option.bind (f_X7_passesSpaces (zm S 0 9 (nI (cdN c p q)))) fun v9 => Option.bind (f_X7_readsCommand_33 zFu v9) fun e10 => match e10 with | Sum.inr r13 => some r13 | Sum.inl e10i => some (true, zm e10i 0 8 ((e10i 0 8) + 1)) else some (false, zm S 0 9 (nI (cdN c p q)))) := by
    unfold f_X7_readsCommand
    simp only [zlt, s1, Option.bind_some, e9]
    rfl
  rw [unf]
  by_cases g0 : cdN c p q = 0
  · left
    rw [if_pos (by rw [g0]; rfl)]
    exact ⟨_, rfl, k1, ⟨q, hqn, e8⟩, Or.inl g0⟩
  · rw [if_neg (nI_ne0 (by omega) hlt), eE, Option.bind_some]
    cases gE : enB c n q
    · left
      exact ⟨_, rfl, k1, ⟨q, hqn, e8⟩, Or.inr rfl⟩
    · right
      obtain ⟨T, k, t1, t2, t3, t4⟩ := r_passes (hT.gof k1) hc e8 hqn
      refine ⟨g0, rfl, T, k, ?_, k1.tr t2.f, t3, t4, ?_, ?_⟩
      · rw [if_pos rfl, t1, Option.bind_some]
      · rw [t2.2 10 (by decide), zm_nk (by decide), s2.2 10 (by decide)]
        exact zm_at
      · rw [t2.2 9 (by decide)]
        exact e9
/-- a command without its end -/
theorem p_noend {R : zr} {c : Nat → Nat} {n p : Nat} (hT : zRl R c n) (hc : zTc c n) (h8 : R 0 8 = nI p) (hp : p ≤ n) (hns : ∀ j, p ≤ j → j < n → c j ≠ 59) : ∃ R', f_X7_readsCommand R = some (false, R') ∧ zNf R R' ∧ ∃ i', i' ≤ n ∧ R' 0 8 = nI i' := by
  have hn := hc.1
  obtain ⟨q, q1, ⟨R', a1, a2, a3, -⟩ | ⟨-, -, S, k, b1, b2, b3, b4, b5, -⟩⟩ := r_cmdWord hT hc h8 hp
  · exact ⟨R', a1, a2, a3⟩
  · have hq := q1.1
    have hk := b4.1
    rcases r_nums hc (n - k) zFu S k 0 (Nat.le_refl _) (zfu (by omega)) (hT.gof b2) b3 (by omega) b5 (by omega) with ⟨R', i', m', d1, d2, d3, d4, d5, d6, -⟩ | ⟨R', d1, d2, d3⟩
    · exact absurd d6 (hns i' (by omega) d5)
    · refine ⟨R', ?_, b2.tr d2, d3⟩
      rw [b1, d1]
      rfl
theorem p_parse {s : zs} {R : zr} {c : Nat → Nat} {n p e : Nat} (hTs : zCl s c n) (hT : zRl R c n) (hc : zTc c n) (h8 : R 0 8 = nI p) (hp : p < n) (h32 : c p ≠ 32) (hse : isNx (qSc c) p n e) (he : e < n) : ∃ b s' b' R', f_X3_parse s (nI p) (nI e) = some (b, s') ∧ f_X7_readsCommand R = some (b', R') ∧ zNs s s' ∧ zNf R R' ∧ (∃ i', i' ≤ n ∧ R' 0 8 = nI i') ∧
    ((b = true ∧ b' = true ∧ ∃ w m, (w < 8 ∧ s'.1 51 4 = nI w ∧ s'.1 51 5 = nI m ∧ R' 0 10 = nI m) ∧ (R' 0 8 = nI (e + 1) ∧ f_X7_commandKind R' = nI (kdW w) ∧ f_X7_isOfForm R' (nI (kdW w)) = some true) ∧ zNu s' R' m ∧ few w ≤ m ∧ m ≤ mst w)
     ∨ (b = false ∧ (b' = false ∨ f_X7_isOfForm R' (f_X7_commandKind R') = some false))) := by
  have hn := hc.1
  have hs : c e = 59 := of_decide_eq_true (hse.2.2 he)
  have hns : ∀ j, p ≤ j → j < e → c j ≠ 59 := fun j h1 h2 => of_decide_eq_false (hse.2.1 j h1 h2)
  have hpe := hse.1.1
  obtain ⟨t, t1, t2⟩ := c_endTok hTs hc (i := p) (e := e) hpe (by omega)
  have htb := t2.1
  have w1 := c_wordBetween hTs hc (p := p) (t := t) htb.1 (by omega)
  obtain ⟨q, q1, qq⟩ := r_cmdWord hT hc h8 (by omega)
  have rel := word_rel hc t2 q1 he hs hns
  have hlt := cdN_lt q1
  obtain ⟨en1, en2⟩ := tokE t2 he hs hns
  -- the class
  have k4 : ∀ x, zNs s (zc s 51 4 x) := fun x => ⟨rfl, fun a h0 h7 => zc_ne h0, fun k a b => zc_nk a⟩
  have cno : fst 8 (fun w => wr c w p t) = none → f_X3_parse s (nI p) (nI e) = some (false, zc s 51 4 (-1)) := by
    intro hf
    rw [hf] at w1
    have e4 : (zc s 51 4 (-1)).1 51 4 = -1 := zc_at
    unfold f_X3_parse
    rw [t1, Option.bind_some, w1, Option.bind_some]
    simp only [zlt, zo, e4, if_true]
  cases hf : fst 8 (fun w => wr c w p t) with
  | none =>
    have hall : ∀ w, w < 8 → wr c w p t = false := fst_none.mp hf
    rcases qq with ⟨R', a1, a2, a3, -⟩ | ⟨g0, gE, S, k, b1, b2, b3, b4, b5, b6⟩
    · exact ⟨false, _, false, R', cno hf, a1, k4 _, a2, a3, Or.inr ⟨rfl, Or.inl rfl⟩⟩
    · have hk := b4.1
      have hqb := q1.1
      rcases r_nums hc (n - k) zFu S k 0 (Nat.le_refl _) (zfu (by omega)) (hT.gof b2) b3 (by omega) b5 (by omega) with ⟨R', i', m', d1, d2, d3, d4, d5, d6, d7, d8, d9, d10, d11⟩ | ⟨R', d1, d2, d3⟩
      · refine ⟨false, _, true, zm R' 0 8 (R' 0 8 + 1), cno hf, ?_, k4 _, (b2.tr d2).tr (zNf.zm8 _ 8 _ (by omega)), ⟨i' + 1, by omega, by rw [zm_at, d3, nI_1]⟩, Or.inr ⟨rfl, Or.inr ?_⟩⟩
        · rw [b1, d1]
          rfl
        · have hqt : q = t := by
            rcases rel with ⟨r1, -⟩ | ⟨r1, -⟩
            · exact r1
            · have := en1 q (by omega) r1
              rw [gE] at this
              cases this
          have hne : ∀ w, w < 8 → cdN c p q ≠ cw w := by
            intro w hw h9
            rcases rel with ⟨-, r2⟩ | ⟨r1, -⟩
            · have := (r2 w hw).mpr h9
              rw [hall w hw] at this
              cases this
            · omega
          rw [kind_f hlt (show (zm R' 0 8 (R' 0 8 + 1)) 0 9 = nI (cdN c p q) by rw [zm_nk (by decide), d11]; exact b6) hne]
          exact form_no _
      · refine ⟨false, _, false, R', cno hf, ?_, k4 _, b2.tr d2, d3, Or.inr ⟨rfl, Or.inl rfl⟩⟩
        rw [b1, d1]
        rfl
  | some w =>
    obtain ⟨hw, hwr, -⟩ := fst_some.mp hf
    have hcd : q = t ∧ cdN c p q = cw w := by
      rcases rel with ⟨r1, r2⟩ | ⟨r1, r2⟩
      · exact ⟨r1, (r2 w hw).mp hwr⟩
      · rw [r2 w hw] at hwr
        cases hwr
    have hqt := hcd.1
    subst hqt
    rw [hf] at w1
    obtain ⟨hcw1, hcw2⟩ := cw_b w hw
    obtain ⟨hmz, hm8⟩ := mst_b w hw
    obtain ⟨hfz, hf2⟩ := few_b w hw
    rcases qq with ⟨R', a1, a2, -, a3⟩ | ⟨g0, gE, S, k, b1, b2, b3, b4, b5, b6⟩
    · rcases a3 with a3 | a3
      · omega
      · rw [en2] at a3
        cases a3
    · have hk := b4.1
      -- the class goes on to the numbers
      obtain ⟨k2, d1, d2⟩ := c_skip (hTs.go (k4 (nI w))) hc (i := q) (e := e) htb.2 (by omega)
      have hkk : k = k2 := by
        refine isNx_un b4 ⟨⟨d2.1.1, by have := d2.1.2; omega⟩, d2.2.1, fun _ => ?_⟩
        by_cases g : k2 < e
        · exact d2.2.2 g
        · have h9 := d2.1.2
          have : k2 = e := by omega
          rw [this]
          unfold qNs
          rw [hs]
          rfl
      subst hkk
      have hkb := d2.1
      have e4 : (zc s 51 4 (nI w)).1 51 4 = nI w := zc_at
      have hne : ¬ nI w = -1 := m1_ne (by omega)
      have k45 : zNs s (zc (zc s 51 4 (nI w)) 51 5 0) := (k4 (nI w)).tr ⟨rfl, fun a h0 h7 => zc_ne h0, fun k a b => zc_nk b⟩
      have unf : f_X3_parse s (nI p) (nI e) = (Option.bind (f_X3_parse_40 zFu (zc (zc s 51 4 (nI w)) 51 5 0) (nI e) (nI k)) fun e9 => match e9 with
          | Sum.inr r15 => some r15
          | Sum.inl e9i => if e9i.2 < nI e then some (false, e9i.1) else (if zin (e9i.1.1 51 4) 8 = true then (if (e9i.1.1 51 5) < (z0 ((e9i.1.1 51 4).toNatClampNeg)) then some (false, e9i.1) else Option.bind (f_X3_areUnlike e9i.1) fun v19 => if v19 = true then some (true, e9i.1) else some (false, e9i.1)) else none)) := by
        unfold f_X3_parse
        rw [t1, Option.bind_some, w1, Option.bind_some]
        simp only [zlt, zo, e4, hne, if_false, d1, Option.bind_some]
        rfl
      have hn2 := nums2 hc hw he hs (e - k) zFu zFu (zc (zc s 51 4 (nI w)) 51 5 0) S k 0 (Nat.le_refl _) (zfu (by omega)) (zfu (by omega)) (hTs.go k45) (by rw [zc_nk (by decide)]; exact zc_at) zc_at (by omega) hkb.2 (fun h => by
        have := d2.2.2 h
        unfold qNs at this
        intro g
        rw [g] at this
        cases this) (fun j h1 h2 => hns j (by omega) h2) (hT.gof b2) b3 b5 (fun k hk => absurd hk (Nat.not_lt_zero k))
      rcases hn2 with ⟨s', R', m', x1, x2, ⟨x3, x4⟩, ⟨x5, x6⟩, ⟨x7, x8, x9⟩, x10, x11⟩ | ⟨⟨s', y1, y2, y3⟩, y4⟩
      · have hform := form_w (R := zm R' 0 8 (R' 0 8 + 1)) hw (show m' ≤ 9 by omega) (by rw [zm_nk (by decide)]; exact x8)
        have hkind : f_X7_commandKind (zm R' 0 8 (R' 0 8 + 1)) = nI (kdW w) := kind_t hw (by rw [zm_nk (by decide), x9, b6, hcd.2])
        have hread : f_X7_readsCommand R = some (true, zm R' 0 8 (R' 0 8 + 1)) := by
          rw [b1, x2]
          rfl
        have huq : uq ((zm R' 0 8 (R' 0 8 + 1)) 7) (fw w) m' = uq (s'.1 63) (fw w) m' := by
          rw [zm_ne (by decide)]
          exact uq_cg (fun k hk => ((x11 k hk).1).symm)
        rw [huq, decide_eq_true x10, Bool.true_and] at hform
        have hzr : zNf R (zm R' 0 8 (R' 0 8 + 1)) := (b2.tr x4).tr (zNf.zm8 _ 8 _ (by omega))
        have hat : ∃ i', i' ≤ n ∧ (zm R' 0 8 (R' 0 8 + 1)) 0 8 = nI i' := ⟨e + 1, by omega, by rw [zm_at, x7, nI_1]⟩
        have hnot : ¬ nI e < nI e := nI_nlt (Nat.le_refl e) (by omega)
        by_cases gf : few w ≤ m'
        · rw [decide_eq_true gf, Bool.true_and] at hform
          have hfw : fw w ≤ m' := by
            unfold fw
            by_cases h7 : w = 7
            · rw [if_pos h7]
              have : few 7 = 1 := rfl
              rw [h7] at gf
              omega
            · rw [if_neg h7]
              omega
          have hun := c_areUnlike (by omega) hw x5 x6 hfw
          have hcls : f_X3_parse s (nI p) (nI e) = some (uq (s'.1 63) (fw w) m', s') := by
            rw [unf, x1, Option.bind_some]
            show (if nI e < nI e then _ else _) = _
            rw [if_neg hnot]
            show (if zin (s'.1 51 4) 8 = true then (if s'.1 51 5 < z0 ((s'.1 51 4).toNatClampNeg) then some (false, s') else Option.bind (f_X3_areUnlike s') fun v19 => if v19 = true then some (true, s') else some (false, s')) else none) = _
            rw [x5, if_pos (zin_n hw (by decide)), cl_n (show w < 2 ^ 31 by omega), hfz, x6, if_neg (nI_nlt gf (by omega)), hun, Option.bind_some]
            cases uq (s'.1 63) (fw w) m' <;> rfl
          refine ⟨_, s', true, zm R' 0 8 (R' 0 8 + 1), hcls, hread, k45.tr x3, hzr, hat, ?_⟩
          cases gq : uq (s'.1 63) (fw w) m'
          · right
            rw [gq] at hform
            exact ⟨rfl, Or.inr (by rw [hkind]; exact hform)⟩
          · left
            rw [gq] at hform
            refine ⟨rfl, rfl, w, m', ⟨hw, x5, x6, by rw [zm_nk (by decide)]; exact x8⟩, ⟨?_, hkind, hform⟩, ?_, gf, x10⟩
            · rw [zm_at, x7, nI_1]
            · intro k hk
              rw [zm_ne (by decide)]
              exact x11 k hk
        · rw [decide_eq_false gf, Bool.false_and] at hform
          have hcls : f_X3_parse s (nI p) (nI e) = some (false, s') := by
            rw [unf, x1, Option.bind_some]
            show (if nI e < nI e then _ else _) = _
            rw [if_neg hnot]
            show (if zin (s'.1 51 4) 8 = true then (if s'.1 51 5 < z0 ((s'.1 51 4).toNatClampNeg) then some (false, s') else Option.bind (f_X3_areUnlike s') fun v19 => if v19 = true then some (true, s') else some (false, s')) else none) = _
            rw [x5, if_pos (zin_n hw (by decide)), cl_n (show w < 2 ^ 31 by omega), hfz, x6, if_pos (nI_lt (by omega) (by omega))]
          exact ⟨false, s', true, _, hcls, hread, k45.tr x3, hzr, hat, Or.inr ⟨rfl, Or.inr (by rw [hkind]; exact hform)⟩⟩
      · have hcls : f_X3_parse s (nI p) (nI e) = some (false, s') := by
          rw [unf]
          rcases y3 with y3 | ⟨i', y5, y3⟩
          · rw [y3]
            rfl
          · rw [y3, Option.bind_some]
            show (if nI i' < nI e then _ else _) = _
            rw [if_pos (nI_lt y5 (by omega))]
        rcases y4 with ⟨R', y5, y6, y7⟩ | ⟨R', m', i', y5, y6, y7, y8, y9, y10, y11, y12⟩
        · refine ⟨false, s', false, R', hcls, ?_, k45.tr y1, b2.tr y6, y7, Or.inr ⟨rfl, Or.inl rfl⟩⟩
          rw [b1, y5]
          rfl
        · have hkind : f_X7_commandKind (zm R' 0 8 (R' 0 8 + 1)) = nI (kdW w) := kind_t hw (by rw [zm_nk (by decide), y12, b6, hcd.2])
          have hform := form_w (R := zm R' 0 8 (R' 0 8 + 1)) hw y11 (by rw [zm_nk (by decide)]; exact y9)
          rw [decide_eq_false (show ¬ m' ≤ mst w by omega), Bool.false_and, Bool.and_false] at hform
          refine ⟨false, s', true, zm R' 0 8 (R' 0 8 + 1), hcls, ?_, k45.tr y1, (b2.tr y6).tr (zNf.zm8 _ 8 _ (by omega)), ⟨i' + 1, by omega, by rw [zm_at, y7, nI_1]⟩, Or.inr ⟨rfl, Or.inr (by rw [hkind]; exact hform)⟩⟩
          rw [b1, y5]
          rfl
