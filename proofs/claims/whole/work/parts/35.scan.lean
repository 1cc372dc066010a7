/-! the text is scanned -/
/-- the first place from i on, ahead of e, with a property; else e -/
def isNx (q : Nat → Bool) (i e k : Nat) : Prop := (i ≤ k ∧ k ≤ e) ∧ (∀ j, i ≤ j → j < k → q j = false) ∧ (k < e → q k = true)
theorem isNx_un {q : Nat → Bool} {i e k l : Nat} (h : isNx q i e k) (h2 : isNx q i e l) : k = l := by
  rcases Nat.lt_trichotomy k l with g | g | g
  · have a := h2.2.1 k h.1.1 g
    rw [h.2.2 (by have := h2.1.2; omega)] at a
    cases a
  · exact g
  · have a := h.2.1 l h2.1.1 g
    rw [h2.2.2 (by have := h.1.2; omega)] at a
    cases a
/-- the text, on both sides -/
def zCl (s : zs) (c : Nat → Nat) (n : Nat) : Prop := s.1 51 3 = nI n ∧ ∀ j, j < n → s.1 62 j = nI (c j)
def zRl (R : zr) (c : Nat → Nat) (n : Nat) : Prop := R 0 7 = nI n ∧ ∀ j, j < n → R 6 j = nI (c j)
def zTc (c : Nat → Nat) (n : Nat) : Prop := n ≤ 100 ∧ ∀ j, j < n → c j ≤ 126
def qSp (c : Nat → Nat) (j : Nat) : Bool := decide (c j = 32)
def qNs (c : Nat → Nat) (j : Nat) : Bool := !decide (c j = 32)
def qSc (c : Nat → Nat) (j : Nat) : Bool := decide (c j = 59)
def qNl (c : Nat → Nat) (j : Nat) : Bool := !(decide (97 ≤ c j) && decide (c j ≤ 122))
theorem c_skip {s : zs} {c : Nat → Nat} {n i e : Nat} (hT : zCl s c n) (hc : zTc c n) (hi : i ≤ e) (he : e ≤ n) : ∃ k, f_X3_skipSpaces s (nI i) (nI e) = some (nI k) ∧ isNx (qNs c) i e k := by
  have hn := hc.1
  have h := zli (fun k j (_ : Unit) => f_X3_skipSpaces_2 k s (nI e) (nI j)) (fun j _ => i ≤ j ∧ ∀ l, i ≤ l → l < j → qNs c l = false) (fun o => ∃ k, o = some (nI k) ∧ isNx (qNs c) i e k) e (fun k j _ hj ⟨x1, x2⟩ => by
    have e1 : ¬ nI e ≤ nI j := nI_ge hj (by omega)
    have hcj := hc.2 j (by omega)
    have q1 : (nI (c j) = (32 : Int32)) = (c j = 32) := propext (nI_eq (b := 32) (by omega) (by omega))
    by_cases g : c j = 32
    · refine Or.inl ⟨(), ⟨by omega, fun l h1 h2 => ?_⟩, ?_⟩
      · by_cases h : l = j
        · rw [h]
          unfold qNs
          rw [decide_eq_true g]
          rfl
        · exact x2 l h1 (by omega)
      · show f_X3_skipSpaces_2 (k + 1) s (nI e) (nI j) = _
        simp only [f_X3_skipSpaces_2, e1, if_false, zin_n (show j < 100 by omega) (by decide), if_true, cl_n (show j < 2 ^ 31 by omega), hT.2 j (by omega), q1, a1]
        rw [if_pos g]
    · refine Or.inr ⟨j, ?_, ⟨x1, by omega⟩, x2, fun _ => ?_⟩
      · show f_X3_skipSpaces_2 (k + 1) s (nI e) (nI j) = _
        simp only [f_X3_skipSpaces_2, e1, if_false, zin_n (show j < 100 by omega) (by decide), if_true, cl_n (show j < 2 ^ 31 by omega), hT.2 j (by omega), q1, g]
      · unfold qNs
        rw [decide_eq_false g]
        rfl) (fun k _ ⟨x1, x2⟩ => by
    refine ⟨e, ?_, ⟨x1, Nat.le_refl e⟩, x2, fun h => absurd h (Nat.lt_irrefl e)⟩
    show f_X3_skipSpaces_2 (k + 1) s (nI e) (nI e) = _
    simp only [f_X3_skipSpaces_2, nI_le (Nat.le_refl e) (show e < 2 ^ 31 by omega), if_true]) (e - i) i zFu () (by omega) (zfu (by omega)) ⟨Nat.le_refl i, fun l h1 h2 => by omega⟩
  obtain ⟨k, k1, k2⟩ := h
  refine ⟨k, ?_, k2⟩
  unfold f_X3_skipSpaces
  rw [k1]
  rfl
theorem c_endTok {s : zs} {c : Nat → Nat} {n i e : Nat} (hT : zCl s c n) (hc : zTc c n) (hi : i ≤ e) (he : e ≤ n) : ∃ k, f_X3_endOfToken s (nI i) (nI e) = some (nI k) ∧ isNx (qSp c) i e k := by
  have hn := hc.1
  have h := zli (fun k j (_ : Unit) => f_X3_endOfToken_2 k s (nI e) (nI j)) (fun j _ => i ≤ j ∧ ∀ l, i ≤ l → l < j → qSp c l = false) (fun o => ∃ k, o = some (nI k) ∧ isNx (qSp c) i e k) e (fun k j _ hj ⟨x1, x2⟩ => by
    have e1 : ¬ nI e ≤ nI j := nI_ge hj (by omega)
    have hcj := hc.2 j (by omega)
    have q1 : (nI (c j) = (32 : Int32)) = (c j = 32) := propext (nI_eq (b := 32) (by omega) (by omega))
    by_cases g : c j = 32
    · refine Or.inr ⟨j, ?_, ⟨x1, by omega⟩, x2, fun _ => decide_eq_true g⟩
      show f_X3_endOfToken_2 (k + 1) s (nI e) (nI j) = _
      simp only [f_X3_endOfToken_2, e1, if_false, zin_n (show j < 100 by omega) (by decide), if_true, cl_n (show j < 2 ^ 31 by omega), hT.2 j (by omega), q1]
      rw [if_pos g]
    · refine Or.inl ⟨(), ⟨by omega, fun l h1 h2 => ?_⟩, ?_⟩
      · by_cases h : l = j
        · rw [h]
          exact decide_eq_false g
        · exact x2 l h1 (by omega)
      · show f_X3_endOfToken_2 (k + 1) s (nI e) (nI j) = _
        simp only [f_X3_endOfToken_2, e1, if_false, zin_n (show j < 100 by omega) (by decide), if_true, cl_n (show j < 2 ^ 31 by omega), hT.2 j (by omega), q1, g, a1]) (fun k _ ⟨x1, x2⟩ => by
    refine ⟨e, ?_, ⟨x1, Nat.le_refl e⟩, x2, fun h => absurd h (Nat.lt_irrefl e)⟩
    show f_X3_endOfToken_2 (k + 1) s (nI e) (nI e) = _
    simp only [f_X3_endOfToken_2, nI_le (Nat.le_refl e) (show e < 2 ^ 31 by omega), if_true]) (e - i) i zFu () (by omega) (zfu (by omega)) ⟨Nat.le_refl i, fun l h1 h2 => by omega⟩
  obtain ⟨k, k1, k2⟩ := h
  refine ⟨k, ?_, k2⟩
  unfold f_X3_endOfToken
  rw [k1]
  rfl
theorem c_endCmd {s : zs} {c : Nat → Nat} {n i : Nat} (hT : zCl s c n) (hc : zTc c n) (hi : i ≤ n) : ∃ k, f_X3_endOfCommand s (nI i) = some (nI k) ∧ isNx (qSc c) i n k := by
  have hn := hc.1
  have h := zli (fun k j (_ : Unit) => f_X3_endOfCommand_2 k s (nI j)) (fun j _ => i ≤ j ∧ ∀ l, i ≤ l → l < j → qSc c l = false) (fun o => ∃ k, o = some (nI k) ∧ isNx (qSc c) i n k) n (fun k j _ hj ⟨x1, x2⟩ => by
    have e1 : ¬ nI n ≤ nI j := nI_ge hj (by omega)
    have hcj := hc.2 j (by omega)
    have q1 : (nI (c j) = (59 : Int32)) = (c j = 59) := propext (nI_eq (b := 59) (by omega) (by omega))
    by_cases g : c j = 59
    · refine Or.inr ⟨j, ?_, ⟨x1, by omega⟩, x2, fun _ => decide_eq_true g⟩
      show f_X3_endOfCommand_2 (k + 1) s (nI j) = _
      simp only [f_X3_endOfCommand_2, hT.1, e1, if_false, zin_n (show j < 100 by omega) (by decide), if_true, cl_n (show j < 2 ^ 31 by omega), hT.2 j (by omega), q1]
      rw [if_pos g]
    · refine Or.inl ⟨(), ⟨by omega, fun l h1 h2 => ?_⟩, ?_⟩
      · by_cases h : l = j
        · rw [h]
          exact decide_eq_false g
        · exact x2 l h1 (by omega)
      · show f_X3_endOfCommand_2 (k + 1) s (nI j) = _
        simp only [f_X3_endOfCommand_2, hT.1, e1, if_false, zin_n (show j < 100 by omega) (by decide), if_true, cl_n (show j < 2 ^ 31 by omega), hT.2 j (by omega), q1, g, a1]) (fun k _ ⟨x1, x2⟩ => by
    refine ⟨n, ?_, ⟨x1, Nat.le_refl n⟩, x2, fun h => absurd h (Nat.lt_irrefl n)⟩
    show f_X3_endOfCommand_2 (k + 1) s (nI n) = _
    simp only [f_X3_endOfCommand_2, hT.1, nI_le (Nat.le_refl n) (show n < 2 ^ 31 by omega), if_true]) (n - i) i zFu () (by omega) (zfu (by omega)) ⟨Nat.le_refl i, fun l h1 h2 => by omega⟩
  obtain ⟨k, k1, k2⟩ := h
  refine ⟨k, ?_, k2⟩
  unfold f_X3_endOfCommand
  rw [k1]
  rfl
/-- words as codes of characters -/
def wch (w j : Nat) : Nat := (([[110, 101, 116], [99, 104, 105, 112], [111, 112, 101, 110], [115, 104, 111, 114, 116], [108, 111, 119], [104, 105, 103, 104], [100, 101, 97, 100], [98, 108, 101, 115, 115]] : List (List Nat)).getD w []).getD j 0
def wln (w : Nat) : Nat := ([3, 4, 4, 5, 3, 4, 4, 5] : List Nat).getD w 0
def wr (c : Nat → Nat) (w p t : Nat) : Bool := decide (wln w = t - p) && (fst (wln w) (fun j => !decide (wch w j = c (p + j)))).isNone
theorem wch_b : ∀ w, w < 8 → ∀ j, j < 5 → zSch (1000010 + w) j = nI (wch w j) := by decide +kernel
theorem wln_b : ∀ w, w < 8 → zSln (1000010 + w) = wln w ∧ wln w ≤ 5 := by decide +kernel
theorem wch_l : ∀ w, w < 8 → ∀ j, j < wln w → 97 ≤ wch w j ∧ wch w j ≤ 122 := by decide +kernel
theorem spell : ∀ w, w < 8 → f_X3_spelling (nI w) = 1000010 + w := by decide +kernel
theorem c_isWritten {s : zs} {c : Nat → Nat} {n p t w : Nat} (hT : zCl s c n) (hc : zTc c n) (hw : w < 8) (hp : p ≤ t) (ht : t ≤ n) : f_X3_isWritten s (1000010 + w) (nI p) (nI t) = some (wr c w p t) := by
  have hn := hc.1
  obtain ⟨hl, hl5⟩ := wln_b w hw
  have e0 : zSlen (1000010 + w) = nI (wln w) := by unfold zSlen; rw [hl]
  have e1 : nI t - nI p = nI (t - p) := pk_sub hp
  unfold f_X3_isWritten wr
  rw [e0, e1]
  by_cases g : wln w = t - p
  · rw [if_pos (by rw [g]), decide_eq_true g, Bool.true_and]
    have h := zlq (fun k j => f_X3_isWritten_15 k s (1000010 + w) (nI p) (nI j)) (fun j => !decide (wch w j = c (p + j))) (fun _ => some (Sum.inr false)) (some (Sum.inl ())) (wln w) (fun k j hj _ hq => by
      show f_X3_isWritten_15 (k + 1) s (1000010 + w) (nI p) (nI j) = _
      have e2 : ¬ nI (wln w) ≤ nI j := nI_ge hj (by omega)
      rw [Bool.not_eq_false', decide_eq_true_eq] at hq
      simp only [f_X3_isWritten_15, e0, e2, if_false, hl, zin_n hj (by omega), nI_add, zin_n (show p + j < 100 by omega) (by decide), if_true, cl_n (show j < 2 ^ 31 by omega), cl_n (show p + j < 2 ^ 31 by omega), wch_b w hw j (by omega), hT.2 (p + j) (by omega), hq, a1]) (fun k j hj _ hq => by
      show f_X3_isWritten_15 (k + 1) s (1000010 + w) (nI p) (nI j) = _
      have e2 : ¬ nI (wln w) ≤ nI j := nI_ge hj (by omega)
      rw [Bool.not_eq_true', decide_eq_false_iff_not] at hq
      have hcj := hc.2 (p + j) (by omega)
      have hwj := wch_l w hw j hj
      have hq' : ¬ nI (wch w j) = nI (c (p + j)) := fun q => hq ((nI_eq (by omega) (by omega)).mp q)
      simp only [f_X3_isWritten_15, e0, e2, if_false, hl, zin_n hj (by omega), nI_add, zin_n (show p + j < 100 by omega) (by decide), if_true, cl_n (show j < 2 ^ 31 by omega), cl_n (show p + j < 2 ^ 31 by omega), wch_b w hw j (by omega), hT.2 (p + j) (by omega), hq']) (fun k => by
      show f_X3_isWritten_15 (k + 1) s (1000010 + w) (nI p) (nI (wln w)) = _
      simp only [f_X3_isWritten_15, e0, nI_le (Nat.le_refl (wln w)) (show wln w < 2 ^ 31 by omega), if_true]) (wln w) 0 zFu (by omega) (zfu (by omega)) (fun j hj => absurd hj (Nat.not_lt_zero j))
    rw [show f_X3_isWritten_15 zFu s (1000010 + w) (nI p) 0 = _ from h]
    cases fst (wln w) (fun j => !decide (wch w j = c (p + j))) <;> rfl
  · rw [if_neg (fun q => g ((nI_eq (by omega) (by omega)).mp q)), decide_eq_false g, Bool.false_and]
theorem c_wordBetween {s : zs} {c : Nat → Nat} {n p t : Nat} (hT : zCl s c n) (hc : zTc c n) (hp : p ≤ t) (ht : t ≤ n) : f_X3_wordBetween s (nI p) (nI t) = some (zo (fst 8 (fun w => wr c w p t))) := by
  have h := zlq (fun k w => f_X3_wordBetween_2 k s (nI p) (nI t) (nI w)) (fun w => wr c w p t) (fun w => some (Sum.inr (nI w))) (some (Sum.inl ())) 8 (fun k w hw _ hq => by
    show f_X3_wordBetween_2 (k + 1) s (nI p) (nI t) (nI w) = _
    have e1 : ¬ (8 : Int32) ≤ nI w := nI_ge hw (by decide)
    simp only [f_X3_wordBetween_2, e1, if_false, spell w hw, c_isWritten hT hc hw hp ht, Option.bind_some, hq, Bool.false_eq_true, a1]) (fun k w hw _ hq => by
    show f_X3_wordBetween_2 (k + 1) s (nI p) (nI t) (nI w) = _
    have e1 : ¬ (8 : Int32) ≤ nI w := nI_ge hw (by decide)
    simp only [f_X3_wordBetween_2, e1, if_false, spell w hw, c_isWritten hT hc hw hp ht, Option.bind_some, hq, if_true]) (fun k => by
    show f_X3_wordBetween_2 (k + 1) s (nI p) (nI t) (nI 8) = _
    simp only [f_X3_wordBetween_2, show (8 : Int32) ≤ nI 8 from nI_le (Nat.le_refl 8) (by decide), if_true]) 8 0 zFu (by omega) (zfu (by omega)) (fun j hj => absurd hj (Nat.not_lt_zero j))
  unfold f_X3_wordBetween
  rw [show f_X3_wordBetween_2 zFu s (nI p) (nI t) 0 = _ from h]
  cases fst 8 (fun w => wr c w p t) <;> rfl
/-! the reference's scanning -/
/-- only the place in the text may change -/
def zAt (R R' : zr) : Prop := (∀ a, a ≠ 0 → R' a = R a) ∧ ∀ k, k ≠ 8 → R' 0 k = R 0 k
theorem zAt.rfl' (R : zr) : zAt R R := ⟨fun _ _ => rfl, fun _ _ => rfl⟩
theorem zAt.tr {R S T : zr} (h : zAt R S) (h2 : zAt S T) : zAt R T := ⟨fun a ha => (h2.1 a ha).trans (h.1 a ha), fun k hk => (h2.2 k hk).trans (h.2 k hk)⟩
theorem zAt.zm' (R : zr) (v : Int32) : zAt R (zm R 0 8 v) := ⟨fun a ha => zm_ne ha, fun k hk => zm_nk hk⟩
theorem zRl.go {R R' : zr} {c : Nat → Nat} {n : Nat} (h : zRl R c n) (k : zAt R R') : zRl R' c n := ⟨(k.2 7 (by decide)).trans h.1, fun j hj => by rw [k.1 6 (by decide)]; exact h.2 j hj⟩
theorem r_isHere {R : zr} {c : Nat → Nat} {n i a b : Nat} (hT : zRl R c n) (hc : zTc c n) (h8 : R 0 8 = nI i) (hi : i ≤ n) (ha : a < 2 ^ 31) (hb : b < 2 ^ 31) : f_X7_isHere R (nI a) (nI b) = some (decide (i < n) && (decide (a ≤ c i) && decide (c i ≤ b))) := by
  have hn := hc.1
  simp only [f_X7_isHere, hT.1, h8]
  by_cases g : i < n
  · have hci := hc.2 i g
    have e1 : ¬ nI n ≤ nI i := nI_ge g (by omega)
    rw [if_neg e1, if_pos (zin_n (show i < 100 by omega) (by decide)), cl_n (show i < 2 ^ 31 by omega), hT.2 i g, isIn_n (by omega) ha hb, decide_eq_true g, Bool.true_and]
    cases (decide (a ≤ c i) && decide (c i ≤ b)) <;> rfl
  · rw [if_pos (nI_le (by omega) (by omega)), decide_eq_false g, Bool.false_and]
theorem r_here1 {R : zr} {c : Nat → Nat} {n i a : Nat} (hT : zRl R c n) (hc : zTc c n) (h8 : R 0 8 = nI i) (hi : i ≤ n) (ha : a < 2 ^ 31) : f_X7_isHere R (nI a) (nI a) = some (decide (i < n) && decide (c i = a)) := by
  rw [r_isHere hT hc h8 hi ha ha]
  congr 2
  rw [Bool.eq_iff_iff, Bool.and_eq_true, decide_eq_true_eq, decide_eq_true_eq, decide_eq_true_eq]
  omega
theorem r_passes {R : zr} {c : Nat → Nat} {n i : Nat} (hT : zRl R c n) (hc : zTc c n) (h8 : R 0 8 = nI i) (hi : i ≤ n) : ∃ R' k, f_X7_passesSpaces R = some R' ∧ zAt R R' ∧ R' 0 8 = nI k ∧ isNx (qNs c) i n k := by
  have hn := hc.1
  have h := zli (fun k (_ : Nat) x => f_X7_passesSpaces_0 k x) (fun j x => zAt R x ∧ x 0 8 = nI j ∧ i ≤ j ∧ ∀ l, i ≤ l → l < j → qNs c l = false) (fun o => ∃ R' k, o = some R' ∧ zAt R R' ∧ R' 0 8 = nI k ∧ isNx (qNs c) i n k) n (fun k j x hj ⟨x1, x2, x3, x4⟩ => by
    have hTx := hT.go x1
    have eh : f_X7_isHere x 32 32 = _ := r_here1 (a := 32) hTx hc x2 (by omega) (by decide)
    rw [decide_eq_true hj, Bool.true_and] at eh
    by_cases g : c j = 32
    · rw [decide_eq_true g] at eh
      refine Or.inl ⟨zm x 0 8 (nI (j + 1)), ⟨x1.tr (zAt.zm' _ _), zm_at, by omega, fun l h1 h2 => ?_⟩, ?_⟩
      · by_cases h : l = j
        · rw [h]
          unfold qNs
          rw [decide_eq_true g]
          rfl
        · exact x4 l h1 (by omega)
      · show f_X7_passesSpaces_0 (k + 1) x = _
        simp only [f_X7_passesSpaces_0, eh, Option.bind_some, if_true, zlt, x2, a1]
    · rw [decide_eq_false g] at eh
      refine Or.inr ⟨x, j, ?_, x1, x2, ⟨x3, by omega⟩, x4, fun _ => ?_⟩
      · show f_X7_passesSpaces_0 (k + 1) x = _
        simp only [f_X7_passesSpaces_0, eh, Option.bind_some, Bool.false_eq_true, if_false]
      · unfold qNs
        rw [decide_eq_false g]
        rfl) (fun k x ⟨x1, x2, x3, x4⟩ => by
    have eh : f_X7_isHere x 32 32 = _ := r_here1 (a := 32) (hT.go x1) hc x2 (Nat.le_refl n) (by decide)
    rw [decide_eq_false (Nat.lt_irrefl n), Bool.false_and] at eh
    refine ⟨x, n, ?_, x1, x2, ⟨x3, Nat.le_refl n⟩, x4, fun h => absurd h (Nat.lt_irrefl n)⟩
    show f_X7_passesSpaces_0 (k + 1) x = _
    simp only [f_X7_passesSpaces_0, eh, Option.bind_some, Bool.false_eq_true, if_false]) (n - i) i zFu R (by omega) (zfu (by omega)) ⟨zAt.rfl' R, h8, Nat.le_refl i, fun l h1 h2 => by omega⟩
  obtain ⟨R', k, e1, e2⟩ := h
  refine ⟨R', k, ?_, e2⟩
  unfold f_X7_passesSpaces
  rw [e1]
  rfl
/-- whether a word or number ends here -/
def enB (c : Nat → Nat) (n i : Nat) : Bool := decide (i < n) && (decide (c i = 32) || decide (c i = 59))
theorem r_isEnded {R : zr} {c : Nat → Nat} {n i : Nat} (hT : zRl R c n) (hc : zTc c n) (h8 : R 0 8 = nI i) (hi : i ≤ n) : f_X7_isEnded R = some (enB c n i) := by
  have e1 : f_X7_isHere R 32 32 = _ := r_here1 (a := 32) hT hc h8 hi (by decide)
  have e2 : f_X7_isHere R 59 59 = _ := r_here1 (a := 59) hT hc h8 hi (by decide)
  unfold f_X7_isEnded enB
  rw [e1, e2, Option.bind_some]
  cases decide (i < n)
  · rfl
  · cases decide (c i = 32)
    · cases decide (c i = 59) <;> rfl
    · rfl
/-- the code of letters -/
def enc (f : Nat → Nat) : Nat → Nat
  | 0 => 0
  | m + 1 => 27 * enc f m + (f m - 96)
theorem enc_cg {f g : Nat → Nat} {m : Nat} (h : ∀ j, j < m → f j = g j) : enc f m = enc g m := by
  induction m with
  | zero => rfl
  | succ m ih =>
    show 27 * enc f m + (f m - 96) = 27 * enc g m + (g m - 96)
    rw [ih (fun j hj => h j (by omega)), h m (by omega)]
theorem enc_lt {f : Nat → Nat} {m : Nat} (h : ∀ j, j < m → f j ≤ 122) : enc f m < 27 ^ m := by
  induction m with
  | zero => exact Nat.lt_succ_self 0
  | succ m ih =>
    have h1 := ih (fun j hj => h j (by omega))
    have h2 := h m (by omega)
    show 27 * enc f m + (f m - 96) < 27 ^ m * 27
    omega
theorem enc_inj {f g : Nat → Nat} : ∀ m l, (∀ j, j < m → 97 ≤ f j ∧ f j ≤ 122) → (∀ j, j < l → 97 ≤ g j ∧ g j ≤ 122) → enc f m = enc g l → m = l ∧ ∀ j, j < m → f j = g j := by
  intro m
  induction m with
  | zero =>
    intro l _ hg h
    cases l with
    | zero => exact ⟨rfl, fun j hj => absurd hj (Nat.not_lt_zero j)⟩
    | succ l =>
      have := hg l (by omega)
      have h2 : 0 = 27 * enc g l + (g l - 96) := h
      omega
  | succ m ih =>
    intro l hf hg h
    have hm := hf m (by omega)
    cases l with
    | zero =>
      have h2 : 27 * enc f m + (f m - 96) = 0 := h
      omega
    | succ l =>
      have hl := hg l (by omega)
      have h2 : 27 * enc f m + (f m - 96) = 27 * enc g l + (g l - 96) := h
      have h3 : enc f m = enc g l := by omega
      obtain ⟨a1, a2⟩ := ih l (fun j hj => hf j (by omega)) (fun j hj => hg j (by omega)) h3
      refine ⟨by omega, fun j hj => ?_⟩
      by_cases h9 : j = m
      · rw [h9]
        subst a1
        omega
      · exact a2 j (by omega)
theorem enc_pos {f : Nat → Nat} {m : Nat} (hm : 0 < m) (h : ∀ j, j < m → 97 ≤ f j ∧ f j ≤ 122) : 0 < enc f m := by
  cases m with
  | zero => omega
  | succ m =>
    have := h m (by omega)
    show 0 < 27 * enc f m + (f m - 96)
    omega
/-- the code that is read -/
def cdN (c : Nat → Nat) (p q : Nat) : Nat := if q - p ≤ 5 then enc (fun j => c (p + j)) (q - p) else 0
theorem r_readsWord {R : zr} {c : Nat → Nat} {n p : Nat} (hT : zRl R c n) (hc : zTc c n) (h8 : R 0 8 = nI p) (hp : p ≤ n) : ∃ R' q, f_X7_readsWord R = some (nI (cdN c p q), R') ∧ zAt R R' ∧ R' 0 8 = nI q ∧ isNx (qNl c) p n q := by
  have hn := hc.1
  have h := zli (fun k j (x : zr × Nat) => f_X7_readsWord_4 k x.1 (nI x.2) (nI (j - p))) (fun j x => zAt R x.1 ∧ x.1 0 8 = nI j ∧ (p ≤ j ∧ ∀ l, p ≤ l → l < j → qNl c l = false) ∧ x.2 = cdN c p j) (fun o => ∃ R' q, o = some (R', nI (cdN c p q), nI (q - p)) ∧ zAt R R' ∧ R' 0 8 = nI q ∧ isNx (qNl c) p n q) n (fun k j x hj ⟨x1, x2, ⟨x3, x4⟩, x5⟩ => by
    have hTx := hT.go x1
    have eh : f_X7_isHere x.1 97 122 = _ := r_isHere (a := 97) (b := 122) hTx hc x2 (by omega) (by decide) (by decide)
    rw [decide_eq_true hj, Bool.true_and] at eh
    have hcj := hc.2 j hj
    cases g : qNl c j
    · have g2 : (decide (97 ≤ c j) && decide (c j ≤ 122)) = true := by
        unfold qNl at g
        simpa using g
      have g3 : 97 ≤ c j ∧ c j ≤ 122 := by simpa using g2
      rw [g2] at eh
      have hx4 : ∀ l, p ≤ l → l < j + 1 → qNl c l = false := by
        intro l h1 h2
        by_cases h : l = j
        · rw [h]
          exact g
        · exact x4 l h1 (by omega)
      have ej : nI (j - p) + 1 = nI (j + 1 - p) := by
        rw [nI_1]
        congr 1
        omega
      refine Or.inl ⟨(zm x.1 0 8 (nI (j + 1)), cdN c p (j + 1)), ⟨x1.tr (zAt.zm' _ _), (zm_at : zm x.1 0 8 (nI (j + 1)) 0 8 = nI (j + 1)), ⟨by omega, hx4⟩, rfl⟩, ?_⟩
      show f_X7_readsWord_4 (k + 1) x.1 (nI x.2) (nI (j - p)) = f_X7_readsWord_4 k (zm x.1 0 8 (nI (j + 1))) (nI (cdN c p (j + 1))) (nI (j + 1 - p))
      by_cases h5 : j - p < 5
      · have e5 : ¬ (5 : Int32) ≤ nI (j - p) := nI_ge (b := 5) h5 (by decide)
        have ec : cdN c p (j + 1) = 27 * x.2 + (c j - 96) := by
          rw [x5]
          unfold cdN
          rw [if_pos (by omega), if_pos (by omega), show j + 1 - p = (j - p) + 1 by omega]
          show 27 * enc (fun j => c (p + j)) (j - p) + (c (p + (j - p)) - 96) = _
          rw [show p + (j - p) = j by omega]
        have hx2 : x.2 < 27 ^ 5 := by
          rw [x5]
          unfold cdN
          rw [if_pos (by omega)]
          refine Nat.lt_of_lt_of_le (enc_lt (fun i hi => ?_)) (Nat.pow_le_pow_right (by decide) (by omega))
          have := x4 (p + i) (by omega) (by omega)
          unfold qNl at this
          have h9 : 97 ≤ c (p + i) ∧ c (p + i) ≤ 122 := by simpa using this
          exact h9.2
        have ey : (((27 : Int32) * nI x.2) + nI (c j)) - 97 + 1 = nI (27 * x.2 + (c j - 96)) := by
          rw [show (27 : Int32) = nI 27 from rfl, pk_mul, nI_add, show (97 : Int32) = nI 97 from rfl, pk_sub (by omega), nI_1]
          congr 1
          omega
        simp only [f_X7_readsWord_4, eh, Option.bind_some, if_true, e5, if_false, x2, zin_n (show j < 100 by omega) (by decide), cl_n (show j < 2 ^ 31 by omega), hTx.2 j hj, ey, zlt, a1, ec]
        rw [← nI_1 (j - p), ej]
      · have e5 : (5 : Int32) ≤ nI (j - p) := nI_le (a := 5) (by omega) (by omega)
        have ec : cdN c p (j + 1) = 0 := if_neg (by omega)
        simp only [f_X7_readsWord_4, eh, Option.bind_some, if_true, e5, x2, zlt, a1, ec]
        rw [← nI_1 (j - p), ej]
        rfl
    · have g2 : (decide (97 ≤ c j) && decide (c j ≤ 122)) = false := by
        unfold qNl at g
        rw [Bool.not_eq_true'] at g
        exact g
      rw [g2] at eh
      refine Or.inr ⟨x.1, j, ?_, x1, x2, ⟨x3, by omega⟩, x4, fun _ => g⟩
      show f_X7_readsWord_4 (k + 1) x.1 (nI x.2) (nI (j - p)) = _
      simp only [f_X7_readsWord_4, eh, Option.bind_some, Bool.false_eq_true, if_false, x5]) (fun k x ⟨x1, x2, ⟨x3, x4⟩, x5⟩ => by
    have eh : f_X7_isHere x.1 97 122 = _ := r_isHere (a := 97) (b := 122) (hT.go x1) hc x2 (Nat.le_refl n) (by decide) (by decide)
    rw [decide_eq_false (Nat.lt_irrefl n), Bool.false_and] at eh
    refine ⟨x.1, n, ?_, x1, x2, ⟨x3, Nat.le_refl n⟩, x4, fun h => absurd h (Nat.lt_irrefl n)⟩
    show f_X7_readsWord_4 (k + 1) x.1 (nI x.2) (nI (n - p)) = _
    simp only [f_X7_readsWord_4, eh, Option.bind_some, Bool.false_eq_true, if_false, x5]) (n - p) p zFu (R, 0) (by omega) (zfu (by omega)) ⟨zAt.rfl' R, h8, ⟨Nat.le_refl p, fun l h1 h2 => by omega⟩, by
      unfold cdN
      rw [Nat.sub_self]
      rfl⟩
  obtain ⟨R', q, e1, e2, e3, e4⟩ := h
  refine ⟨R', q, ?_, e2, e3, e4⟩
  rw [Nat.sub_self] at e1
  unfold f_X7_readsWord
  rw [show f_X7_readsWord_4 zFu R 0 0 = _ from e1, Option.bind_some]
  have hq := e4.1
  by_cases h5 : q - p ≤ 5
  · rw [if_pos (show nI (q - p) ≤ 5 from nI_le (b := 5) h5 (by decide))]
  · rw [if_neg (show ¬ nI (q - p) ≤ 5 from nI_ge (a := 5) (by omega) (by omega))]
    have : cdN c p q = 0 := if_neg h5
    rw [this]
    rfl
