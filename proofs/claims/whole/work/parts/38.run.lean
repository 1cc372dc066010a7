/-! commands are done -/
/-- what a command may change: the trial board, numbers, word, count in the class; the row, numbers, place in the reference -/
def zPc (s s' : zs) : Prop := s'.2 = s.2 ∧ (∀ a, (a < 51 ∨ 63 < a ∨ a = 62) → s'.1 a = s.1 a) ∧ ∀ k, k ≠ 4 → k ≠ 5 → s'.1 51 k = s.1 51 k
def zPf (R R' : zr) : Prop := (∀ a, a ≠ 0 → a ≠ 1 → a ≠ 7 → R' a = R a) ∧ ∀ k, k ≠ 8 → k ≠ 9 → k ≠ 10 → R' 0 k = R 0 k
theorem zNs.p {s s' : zs} (h : zNs s s') : zPc s s' := ⟨h.1, fun a ha => h.2.1 a (by omega) (by omega), h.2.2⟩
theorem zNf.p {R R' : zr} (h : zNf R R') : zPf R R' := ⟨fun a h0 _ h7 => h.1 a h0 h7, h.2⟩
theorem zPc.tr {s t u : zs} (h : zPc s t) (h2 : zPc t u) : zPc s u := ⟨h2.1.trans h.1, fun a ha => (h2.2.1 a ha).trans (h.2.1 a ha), fun k a b => (h2.2.2 k a b).trans (h.2.2 k a b)⟩
theorem zPf.tr {R S T : zr} (h : zPf R S) (h2 : zPf S T) : zPf R T := ⟨fun a h0 h1 h7 => (h2.1 a h0 h1 h7).trans (h.1 a h0 h1 h7), fun k a b d => (h2.2 k a b d).trans (h.2 k a b d)⟩
theorem zStp.pc {s s' : zs} {R R' : zr} {r r' : zrow} (h : zStp s s' 52 R R' r r') : zPc s s' ∧ zPf R R' := ⟨⟨h.1.1, fun a ha => h.1.2.1 a (by omega), fun k _ _ => by rw [h.1.2.1 51 (by omega)]⟩, ⟨fun a h0 h1 h7 => h.1.2.2 a h1, fun k _ _ _ => by rw [h.1.2.2 0 (by decide)]⟩⟩
/-- the numbers from one on as a set -/
def sa (f : Nat → Int32) (a : Nat) : Nat → Int32
  | 0 => 0
  | j + 1 => if a ≤ j then sa f a j ||| ((1 : Int32) <<< (f j &&& 31)) else sa f a j
theorem sa_0 (f : Nat → Int32) (a : Nat) : ∀ j, j ≤ a → sa f a j = 0 := by
  intro j
  induction j with
  | zero => exact fun _ => rfl
  | succ j ih =>
    intro h
    show (if a ≤ j then _ else sa f a j) = 0
    rw [if_neg (by omega)]
    exact ih (by omega)
theorem sa_cg {f g : Nat → Int32} {a m : Nat} (h : ∀ k, k < m → f k = g k) : sa f a m = sa g a m := by
  induction m with
  | zero => rfl
  | succ m ih =>
    show (if a ≤ m then sa f a m ||| ((1 : Int32) <<< (f m &&& 31)) else sa f a m) = (if a ≤ m then sa g a m ||| ((1 : Int32) <<< (g m &&& 31)) else sa g a m)
    rw [ih (fun k hk => h k (by omega)), h m (by omega)]
theorem c_setFrom {s : zs} {a m : Nat} (h5 : s.1 51 5 = nI m) (hm : m ≤ 8) (ha : a ≤ m) : f_X3_setFrom s (nI a) = some (sa (s.1 63) a m) := by
  have h := zli (fun k j x => f_X3_setFrom_4 k s x (nI j)) (fun j x => a ≤ j ∧ x = sa (s.1 63) a j) (fun o => o = some (sa (s.1 63) a m)) m (fun k j x hj ⟨x1, x2⟩ => by
    have e1 : ¬ nI m ≤ nI j := nI_ge hj (by omega)
    refine Or.inl ⟨sa (s.1 63) a (j + 1), ⟨by omega, rfl⟩, ?_⟩
    show f_X3_setFrom_4 (k + 1) s x (nI j) = f_X3_setFrom_4 k s (if a ≤ j then sa (s.1 63) a j ||| ((1 : Int32) <<< (s.1 63 j &&& 31)) else sa (s.1 63) a j) (nI (j + 1))
    simp only [f_X3_setFrom_4, h5, e1, if_false, zin_n (show j < 8 by omega) (by decide), if_true, cl_n (show j < 2 ^ 31 by omega), zlt, a1, x1, x2]) (fun k x ⟨x1, x2⟩ => by
    show f_X3_setFrom_4 (k + 1) s x (nI m) = _
    simp only [f_X3_setFrom_4, h5, nI_le (Nat.le_refl m) (show m < 2 ^ 31 by omega), if_true, x2]) (m - a) a zFu 0 (by omega) (zfu (by omega)) ⟨Nat.le_refl a, (sa_0 _ a a (Nat.le_refl a)).symm⟩
  unfold f_X3_setFrom
  rw [show f_X3_setFrom_4 zFu s 0 (nI a) = _ from h]
  rfl
theorem r_numberSet {R : zr} {a m : Nat} (h10 : R 0 10 = nI m) (hm : m ≤ 9) (ha : a ≤ m) : f_X7_numberSet R (nI a) = some (sa (R 7) a m) := by
  have h := zli (fun k j x => f_X7_numberSet_4 k R x (nI j)) (fun j x => a ≤ j ∧ x = sa (R 7) a j) (fun o => o = some (sa (R 7) a m)) m (fun k j x hj ⟨x1, x2⟩ => by
    have e1 : ¬ nI m ≤ nI j := nI_ge hj (by omega)
    refine Or.inl ⟨sa (R 7) a (j + 1), ⟨by omega, rfl⟩, ?_⟩
    show f_X7_numberSet_4 (k + 1) R x (nI j) = f_X7_numberSet_4 k R (if a ≤ j then sa (R 7) a j ||| ((1 : Int32) <<< (R 7 j &&& 31)) else sa (R 7) a j) (nI (j + 1))
    simp only [f_X7_numberSet_4, h10, e1, if_false, zin_n (show j < 9 by omega) (by decide), if_true, cl_n (show j < 2 ^ 31 by omega), zlt, a1, x1, x2]) (fun k x ⟨x1, x2⟩ => by
    show f_X7_numberSet_4 (k + 1) R x (nI m) = _
    simp only [f_X7_numberSet_4, h10, nI_le (Nat.le_refl m) (show m < 2 ^ 31 by omega), if_true, x2]) (m - a) a zFu 0 (by omega) (zfu (by omega)) ⟨Nat.le_refl a, (sa_0 _ a a (Nat.le_refl a)).symm⟩
  unfold f_X7_numberSet
  rw [show f_X7_numberSet_4 zFu R 0 (nI a) = _ from h]
  rfl
/-- how many things a number can tell of -/
def rg (r : zrow) (w k : Nat) : Nat := if w = 3 ∨ w = 4 ∨ w = 5 then cN r else if w = 6 then cC r else if w = 7 then (if k = 0 then 16 else 7) else 16
theorem rg_le {r : zrow} (hV : zVr r) (w k : Nat) : rg r w k ≤ 16 := by
  have := hV.n.2
  have := hV.c.2
  unfold rg
  split
  · omega
  · split
    · omega
    · split
      · split <;> omega
      · omega
theorem c_range {s : zs} {r : zrow} (hB : zBr s 52 r) (hV : zVr r) {w k : Nat} (hw : w < 8) (hk : k < 2 ^ 31) (h4 : s.1 51 4 = nI w) : f_X3_rangeOfNumber s (nI k) = nI (rg r w k) := by
  have q : ∀ v, v < 8 → (nI w = nI v) = (w = v) := fun v hv => propext (nI_eq (by omega) (by omega))
  have q0 : (nI k = (0 : Int32)) = (k = 0) := propext (nI_eq (b := 0) hk (by omega))
  have e0 : s.1 52 9 = nI (cN r) := hB.n.trans hV.n.1
  have e1 : s.1 52 10 = nI (cC r) := hB.c.trans hV.c.1
  unfold f_X3_rangeOfNumber rg
  simp only [h4, show (nI w = (3 : Int32)) = (w = 3) from q 3 (by decide), show (nI w = (4 : Int32)) = (w = 4) from q 4 (by decide), show (nI w = (5 : Int32)) = (w = 5) from q 5 (by decide), show (nI w = (6 : Int32)) = (w = 6) from q 6 (by decide), show (nI w = (7 : Int32)) = (w = 7) from q 7 (by decide), q0, e0, e1]
  by_cases g3 : w = 3
  · simp [g3]
  · by_cases g4 : w = 4
    · simp [g4]
    · by_cases g5 : w = 5
      · simp [g5]
      · by_cases g6 : w = 6
        · simp [g6]
        · by_cases g7 : w = 7
          · simp only [g7]
            by_cases g0 : k = 0
            · simp [g0]
              rfl
            · simp [g0]
              rfl
          · simp [g3, g4, g5, g6, g7]
            rfl
/-- a number that tells of nothing -/
def nth (R : zr) (r : zrow) (w k : Nat) : Bool := !decide ((R 7 k).toNatClampNeg < rg r w k)
theorem c_there {s : zs} {R : zr} {r : zrow} (hB : zBr s 52 r) (hV : zVr r) {w m : Nat} (hw : w < 8) (hm : m ≤ 8) (h4 : s.1 51 4 = nI w) (h5 : s.1 51 5 = nI m) (hnu : zNu s R m) : f_X3_perform_13 zFu s 0 = (match fst m (nth R r w) with | some _ => some (Sum.inr (2, s)) | none => some (Sum.inl ())) := by
  have hlt : ∀ j, j < m → (s.1 63 j < nI (rg r w j)) = ((R 7 j).toNatClampNeg < rg r w j) := by
    intro j hj
    obtain ⟨h1, v, hv, h2⟩ := hnu j hj
    have := rg_le hV w j
    rw [h1, h2, cl_n (show v < 2 ^ 31 by omega)]
    exact propext (nI_ltI (by omega) (by omega))
  have h := zlq (fun k j => f_X3_perform_13 k s (nI j)) (nth R r w) (fun _ => some (Sum.inr (2, s))) (some (Sum.inl ())) m (fun k j hj _ hq => by
    show f_X3_perform_13 (k + 1) s (nI j) = _
    have e1 : ¬ nI m ≤ nI j := nI_ge hj (by omega)
    unfold nth at hq
    rw [Bool.not_eq_false', decide_eq_true_eq] at hq
    simp only [f_X3_perform_13, h5, e1, if_false, zin_n (show j < 8 by omega) (by decide), if_true, cl_n (show j < 2 ^ 31 by omega), c_range hB hV hw (show j < 2 ^ 31 by omega) h4, hlt j hj, hq, a1]) (fun k j hj _ hq => by
    show f_X3_perform_13 (k + 1) s (nI j) = _
    have e1 : ¬ nI m ≤ nI j := nI_ge hj (by omega)
    unfold nth at hq
    rw [Bool.not_eq_true', decide_eq_false_iff_not] at hq
    simp only [f_X3_perform_13, h5, e1, if_false, zin_n (show j < 8 by omega) (by decide), if_true, cl_n (show j < 2 ^ 31 by omega), c_range hB hV hw (show j < 2 ^ 31 by omega) h4, hlt j hj, hq]) (fun k => by
    show f_X3_perform_13 (k + 1) s (nI m) = _
    simp only [f_X3_perform_13, h5, nI_le (Nat.le_refl m) (show m < 2 ^ 31 by omega), if_true]) m 0 zFu (by omega) (zfu (by omega)) (fun j hj => absurd hj (Nat.not_lt_zero j))
  exact h
theorem r_there {s : zs} {R : zr} {r : zrow} (hR : zRr R r) (hV : zVr r) {w m : Nat} (hw : w < 8) (hm : m ≤ 8) (h10 : R 0 10 = nI m) (hnu : zNu s R m) : f_X7_areThere R (nI (kdW w)) = some ((fst m (nth R r w)).isNone) := by
  have hkd : kdW w < 8 := (by decide +kernel : ∀ w, w < 8 → kdW w < 8) w hw
  have q7 : (nI (kdW w) = (7 : Int32)) = (kdW w = 7) := propext (nI_eq (b := 7) (by omega) (by omega))
  -- one loop, for what the most is
  have lp : ∀ M, M ≤ 16 → (∀ j, j < m → (if kdW w = 7 ∧ 0 < j then 7 else M) = rg r w j) → f_X7_areThere_21 zFu R (nI (kdW w)) (nI M) true 0 = some ((fst m (nth R r w)).isNone) := by
    intro M hM hrg
    have h := zli (fun k j (x : Bool) => f_X7_areThere_21 k R (nI (kdW w)) (nI M) x (nI j)) (fun j x => x = (fst j (nth R r w)).isNone) (fun o => o = some ((fst m (nth R r w)).isNone)) m (fun k j x hj hx => by
      have e1 : ¬ nI m ≤ nI j := nI_ge hj (by omega)
      obtain ⟨h1, v, hv, h2⟩ := hnu j hj
      have ej0 : (nI j ≤ (0 : Int32)) = (j = 0) := by
        have : (nI j ≤ nI 0) = (j ≤ 0) := propext (nI_leI (by omega) (by omega))
        rw [show (0 : Int32) = nI 0 from rfl, this]
        exact propext ⟨fun h => by omega, fun h => by omega⟩
      have eM : (nI M ≤ nI v) = (M ≤ v) := propext (nI_leI (by omega) (by omega))
      have e7 : ((7 : Int32) ≤ nI v) = (7 ≤ v) := propext (nI_leI (a := 7) (by omega) (by omega))
      have hn : nth R r w j = !decide (v < (if kdW w = 7 ∧ 0 < j then 7 else M)) := by
        unfold nth
        rw [h2, cl_n (show v < 2 ^ 31 by omega), hrg j hj]
      refine Or.inl ⟨(fst (j + 1) (nth R r w)).isNone, rfl, ?_⟩
      show f_X7_areThere_21 (k + 1) R (nI (kdW w)) (nI M) x (nI j) = _
      have ef : (fst (j + 1) (nth R r w)).isNone = (x && !(nth R r w j)) := by
        cases hq : nth R r w j
        · rw [fst_F hq, hx]
          simp
        · rw [hx]
          cases hf : fst j (nth R r w) with
          | none =>
            rw [fst_T hf hq]
            rfl
          | some l =>
            have : fst (j + 1) (nth R r w) = some l := by
              obtain ⟨a, b, d⟩ := fst_some.mp hf
              exact fst_some.mpr ⟨by omega, b, d⟩
            rw [this]
            rfl
      rw [ef, hn]
      simp only [f_X7_areThere_21, h10, e1, if_false, zin_n (show j < 9 by omega) (by decide), if_true, cl_n (show j < 2 ^ 31 by omega), q7, ej0, h2, eM, e7, a1]
      cases x
      · rfl
      · rw [if_pos rfl, Bool.true_and, Bool.not_not]
        by_cases g7 : kdW w = 7
        · rw [if_pos g7]
          by_cases g0 : j = 0
          · rw [if_pos g0, if_neg (show ¬ (kdW w = 7 ∧ 0 < j) by omega)]
            by_cases gl : M ≤ v
            · rw [if_pos gl, decide_eq_false (by omega)]
            · rw [if_neg gl, decide_eq_true (by omega)]
          · rw [if_neg g0, if_pos (show kdW w = 7 ∧ 0 < j by omega)]
            by_cases gl : 7 ≤ v
            · rw [if_pos gl, decide_eq_false (by omega)]
            · rw [if_neg gl, decide_eq_true (by omega)]
        · rw [if_neg g7, if_neg (show ¬ (kdW w = 7 ∧ 0 < j) from fun q => g7 q.1)]
          by_cases gl : M ≤ v
          · rw [if_pos gl, decide_eq_false (by omega)]
          · rw [if_neg gl, decide_eq_true (by omega)]) (fun k x hx => by
      show f_X7_areThere_21 (k + 1) R (nI (kdW w)) (nI M) x (nI m) = _
      simp only [f_X7_areThere_21, h10, nI_le (Nat.le_refl m) (show m < 2 ^ 31 by omega), if_true, hx]) m 0 zFu true (by omega) (zfu (by omega)) rfl
    exact h
  have e0 : R 1 0 = nI (cN r) := (hR 0 (by decide)).trans hV.n.1
  have e1 : R 1 1 = nI (cC r) := (hR 1 (by decide)).trans hV.c.1
  have hn8 := hV.n.2
  have hc5 := hV.c.2
  rcases (show w = 0 ∨ w = 1 ∨ w = 2 ∨ w = 3 ∨ w = 4 ∨ w = 5 ∨ w = 6 ∨ w = 7 by omega) with rfl | rfl | rfl | rfl | rfl | rfl | rfl | rfl
  · show Option.bind (f_X7_areThere_21 zFu R (nI (kdW 0)) (nI 16) true 0) (fun e => some e) = _
    rw [lp 16 (by omega) (fun j hj => rfl)]
    rfl
  · show Option.bind (f_X7_areThere_21 zFu R (nI (kdW 1)) (nI 16) true 0) (fun e => some e) = _
    rw [lp 16 (by omega) (fun j hj => rfl)]
    rfl
  · show Option.bind (f_X7_areThere_21 zFu R (nI (kdW 2)) (nI 16) true 0) (fun e => some e) = _
    rw [lp 16 (by omega) (fun j hj => rfl)]
    rfl
  · show Option.bind (f_X7_areThere_21 zFu R (nI (kdW 3)) (R 1 0) true 0) (fun e => some e) = _
    rw [e0, lp (cN r) (by omega) (fun j hj => rfl)]
    rfl
  · show Option.bind (f_X7_areThere_21 zFu R (nI (kdW 4)) (R 1 0) true 0) (fun e => some e) = _
    rw [e0, lp (cN r) (by omega) (fun j hj => rfl)]
    rfl
  · show Option.bind (f_X7_areThere_21 zFu R (nI (kdW 5)) (R 1 0) true 0) (fun e => some e) = _
    rw [e0, lp (cN r) (by omega) (fun j hj => rfl)]
    rfl
  · show Option.bind (f_X7_areThere_21 zFu R (nI (kdW 6)) (R 1 1) true 0) (fun e => some e) = _
    rw [e1, lp (cC r) (by omega) (fun j hj => rfl)]
    rfl
  · show Option.bind (f_X7_areThere_21 zFu R (nI (kdW 7)) (nI 16) true 0) (fun e => some e) = _
    rw [lp 16 (by omega) (fun j hj => by
      show (if (7 : Nat) = 7 ∧ 0 < j then 7 else 16) = (if j = 0 then 16 else 7)
      by_cases g : j = 0
      · rw [if_neg (by omega), if_pos g]
      · rw [if_pos (by omega), if_neg g])]
    rfl
theorem ref_net (s : zs) (b : Nat) (x : Int32) : f_X0_refusalOfNet s b x = 0 ∨ f_X0_refusalOfNet s b x < 0 := by
  unfold f_X0_refusalOfNet
  simp only [zlt]
  repeat' split
  all_goals first | exact Or.inl rfl | exact Or.inr (by decide)
theorem ref_chip (s : zs) (b : Nat) (x y z : Int32) : f_X0_refusalOfChip s b x y z = 0 ∨ f_X0_refusalOfChip s b x y z < 0 := by
  unfold f_X0_refusalOfChip
  repeat' split
  all_goals first | exact Or.inl rfl | exact Or.inr (by decide)
/-- a command is done, on both sides -/
theorem p_does {s : zs} {R : zr} {r : zrow} (hB : zBr s 52 r) (hR : zRr R r) (hV : zVr r) {w m : Nat} (hw : w < 8) (hm : m ≤ mst w) (hf : few w ≤ m) (h4 : s.1 51 4 = nI w) (h5 : s.1 51 5 = nI m) (h10 : R 0 10 = nI m) (hnu : zNu s R m) (hth : fst m (nth R r w) = none) : ∃ v u s' R' r', f_X3_doCommand s = some (v, s') ∧ f_X7_does R (nI (kdW w)) = some (u, R') ∧ ((v = 0 ∧ ¬ u < 0) ∨ (¬ v = 0 ∧ u < 0)) ∧ zPc s s' ∧ zPf R R' ∧ (∀ k, R' 0 k = R 0 k) ∧ (zBr s' 52 r' ∧ zRr R' r' ∧ zVr r') ∧ ∀ k, (3 ≤ k ∧ k < 9 ∨ 62 ≤ k ∧ k < 72) → r' k = r k := by
  have hm8 := (mst_b w hw).2
  have hf2 := (few_b w hw).2
  have esa : ∀ a, sa (s.1 63) a m = sa (R 7) a m := fun a => sa_cg (fun k hk => (hnu k hk).1)
  have e63 : ∀ k, k < m → s.1 63 k = R 7 k := fun k hk => (hnu k hk).1
  have self : (zBr s 52 r ∧ zRr R r ∧ zVr r) ∧ ∀ k, (3 ≤ k ∧ k < 9 ∨ 62 ≤ k ∧ k < 72) → r k = r k := ⟨⟨hB, hR, hV⟩, fun _ _ => rfl⟩
  have pc0 : zPc s s := (zNs.rfl' s).p
  have pf0 : zPf R R := (zNf.rfl' R).p
  -- a fault
  have flt : ∀ (x1 x2 x3 : Int32), ∃ v u s' R' r', f_X3_doFault s x1 x2 x3 = some (v, s') ∧ (Option.bind (f_X7_checksFault R x1 x2 x3) fun v36 => if v36 = 0 then Option.bind (f_X7_addsFault R x1 x2 x3) fun v38 => some (v38.1, v38.2) else some (v36, R)) = some (u, R') ∧ ((v = 0 ∧ ¬ u < 0) ∨ (¬ v = 0 ∧ u < 0)) ∧ zPc s s' ∧ zPf R R' ∧ (∀ k, R' 0 k = R 0 k) ∧ (zBr s' 52 r' ∧ zRr R' r' ∧ zVr r') ∧ ∀ k, (3 ≤ k ∧ k < 9 ∨ 62 ≤ k ∧ k < 72) → r' k = r k := by
    intro x1 x2 x3
    obtain ⟨y, g1, g2, g3, g4⟩ := b_checkFault hB hR hV x1 x2 x3
    unfold f_X3_doFault
    rw [g1, g2, Option.bind_some, Option.bind_some]
    by_cases g : y = 0
    · obtain ⟨k, o, t, d1, d2, rfl, rfl, rfl, d3, d4, d5⟩ := g4 g
      obtain ⟨s', R', e1, e2, e3⟩ := b_addFault hB hR hV d1 d2 d3 d4 d5
      rw [if_pos g, if_pos g, e1, e2]
      exact ⟨y, _, s', R', _, rfl, rfl, Or.inl ⟨g, nI_pos (by omega)⟩, e3.pc.1, e3.pc.2, fun k => by rw [e3.1.2.2 0 (by decide)], e3.2⟩
    · rw [if_neg g, if_neg g]
      rcases g3 with g3 | g3
      · exact absurd g3 g
      · exact ⟨y, y, s, R, r, rfl, rfl, Or.inr ⟨g, g3⟩, pc0, pf0, fun _ => rfl, self⟩
  have q : ∀ v, v < 8 → (nI w = nI v) = (w = v) := fun v hv => propext (nI_eq (by omega) (by omega))
  unfold f_X3_doCommand
  simp only [h4, show (nI w = (0 : Int32)) = (w = 0) from q 0 (by decide), show (nI w = (1 : Int32)) = (w = 1) from q 1 (by decide), show (nI w = (2 : Int32)) = (w = 2) from q 2 (by decide), show (nI w = (3 : Int32)) = (w = 3) from q 3 (by decide), show (nI w = (4 : Int32)) = (w = 4) from q 4 (by decide), show (nI w = (5 : Int32)) = (w = 5) from q 5 (by decide), show (nI w = (6 : Int32)) = (w = 6) from q 6 (by decide)]
  rcases (show w = 0 ∨ w = 1 ∨ w = 2 ∨ w = 3 ∨ w = 4 ∨ w = 5 ∨ w = 6 ∨ w = 7 by omega) with rfl | rfl | rfl | rfl | rfl | rfl | rfl | rfl
  · -- a net
    rw [if_pos rfl]
    obtain ⟨g1, g2⟩ := b_checkNet hB hR hV (sa (R 7) 0 m)
    have eC : f_X3_setFrom s 0 = some (sa (R 7) 0 m) := (c_setFrom h5 (Nat.le_trans hm hm8) (Nat.zero_le m)).trans (by rw [esa])
    have eR : f_X7_numberSet R 0 = some (sa (R 7) 0 m) := r_numberSet h10 (by omega) (Nat.zero_le m)
    show ∃ v u s' R' r', (Option.bind (f_X3_doNet s) fun v8 => some (v8.1, v8.2)) = some (v, s') ∧ (Option.bind (f_X7_numberSet R 0) fun v7 => Option.bind (f_X7_checksNet R v7) fun v8 => if v8 = 0 then Option.bind (f_X7_numberSet R 0) fun v10 => Option.bind (f_X7_addsNet R v10) fun v11 => some (v11.1, v11.2) else some (v8, R)) = some (u, R') ∧ _
    unfold f_X3_doNet
    rw [eC, eR, Option.bind_some, Option.bind_some, g1, Option.bind_some, Option.bind_some]
    simp only [zlt]
    by_cases g : f_X0_refusalOfNet s 52 (sa (R 7) 0 m) = 0
    · obtain ⟨d1, d2, d3⟩ := g2 g
      obtain ⟨s', R', e1, e2, e3⟩ := b_addNet hB hR hV d1 d2 d3
      rw [if_pos g, if_pos g, e1, e2]
      exact ⟨_, _, s', R', _, rfl, rfl, Or.inl ⟨g, nI_pos (by omega)⟩, e3.pc.1, e3.pc.2, fun k => by rw [e3.1.2.2 0 (by decide)], e3.2⟩
    · rw [if_neg g, if_neg g]
      rcases ref_net s 52 (sa (R 7) 0 m) with g3 | g3
      · exact absurd g3 g
      · exact ⟨_, _, s, R, r, rfl, rfl, Or.inr ⟨g, g3⟩, pc0, pf0, fun _ => rfl, self⟩
  · -- a chip
    rw [if_neg (by decide), if_pos rfl]
    have hm2 : 2 ≤ m := hf
    obtain ⟨g1, g2⟩ := b_checkChip hB hR hV (R 7 0) (R 7 1) (sa (R 7) 2 m)
    have eC : f_X3_setFrom s 2 = some (sa (R 7) 2 m) := (c_setFrom h5 (Nat.le_trans hm hm8) hm2).trans (by rw [esa])
    have eR : f_X7_numberSet R 2 = some (sa (R 7) 2 m) := r_numberSet h10 (by omega) hm2
    show ∃ v u s' R' r', (Option.bind (f_X3_doChip s) fun v8 => some (v8.1, v8.2)) = some (v, s') ∧ (Option.bind (f_X7_numberSet R 2) fun v13 => Option.bind (f_X7_checksChip R (R 7 0) (R 7 1) v13) fun v14 => if v14 = 0 then Option.bind (f_X7_numberSet R 2) fun v16 => Option.bind (f_X7_addsChip R (R 7 0) (R 7 1) v16) fun v17 => some (v17.1, v17.2) else some (v14, R)) = some (u, R') ∧ _
    unfold f_X3_doChip
    rw [eC, eR, Option.bind_some, Option.bind_some, e63 0 (by omega), e63 1 (by omega), g1, Option.bind_some, Option.bind_some]
    simp only [zlt]
    by_cases g : f_X0_refusalOfChip s 52 (R 7 0) (R 7 1) (sa (R 7) 2 m) = 0
    · obtain ⟨e, x, d1, d2, k1, k2, d3, d4, d5⟩ := g2 g
      rw [if_pos g, if_pos g]
      rw [k1, k2] at g ⊢
      obtain ⟨s', R', e1, e2, e3⟩ := b_addChip hB hR hV d1 d2 d3 d4 d5
      rw [e1, e2]
      exact ⟨_, _, s', R', _, rfl, rfl, Or.inl ⟨g, nI_pos (by omega)⟩, e3.pc.1, e3.pc.2, fun k => by rw [e3.1.2.2 0 (by decide)], e3.2⟩
    · rw [if_neg g, if_neg g]
      rcases ref_chip s 52 (R 7 0) (R 7 1) (sa (R 7) 2 m) with g3 | g3
      · exact absurd g3 g
      · exact ⟨_, _, s, R, r, rfl, rfl, Or.inr ⟨g, g3⟩, pc0, pf0, fun _ => rfl, self⟩
  · rw [if_neg (by decide), if_neg (by decide), if_pos rfl, e63 0 (by have : few 2 = 1 := rfl; omega)]
    obtain ⟨v, u, s', R', r', a1, a2, a3⟩ := flt 0 (R 7 0) 0
    refine ⟨v, u, s', R', r', by rw [a1]; rfl, a2, a3⟩
  · -- a short
    rw [if_neg (by decide), if_neg (by decide), if_neg (by decide), if_pos rfl]
    have hm2 : m = 2 := by
      have h1 : few 3 = 2 := rfl
      have h2 : mst 3 = 2 := rfl
      omega
    obtain ⟨k0, v0, hv0, hw0⟩ := hnu 0 (by omega)
    obtain ⟨k1, v1, hv1, hw1⟩ := hnu 1 (by omega)
    rw [k0, k1]
    show ∃ v u s' R' r', (Option.bind (f_X3_doFault s 1 (if R 7 1 < R 7 0 then R 7 1 else R 7 0) (if R 7 0 < R 7 1 then R 7 1 else R 7 0)) fun v11 => some (v11.1, v11.2)) = some (v, s') ∧ (if (R 7 1) ≤ (R 7 0) then (Option.bind (f_X7_checksFault R 1 (R 7 1) (R 7 0)) fun v26 => if v26 = 0 then Option.bind (f_X7_addsFault R 1 (R 7 1) (R 7 0)) fun v28 => some (v28.1, v28.2) else some (v26, R)) else (Option.bind (f_X7_checksFault R 1 (R 7 0) (R 7 1)) fun v33 => if v33 = 0 then Option.bind (f_X7_addsFault R 1 (R 7 0) (R 7 1)) fun v35 => some (v35.1, v35.2) else some (v33, R))) = some (u, R') ∧ _
    by_cases g : v1 ≤ v0
    · have c1 : R 7 1 ≤ R 7 0 := by rw [hw0, hw1]; exact nI_le g (by omega)
      have c2 : ¬ R 7 0 < R 7 1 := by rw [hw0, hw1]; exact nI_nlt g (by omega)
      have c3 : (if R 7 1 < R 7 0 then R 7 1 else R 7 0) = R 7 1 := by
        by_cases g2 : v1 < v0
        · rw [if_pos (by rw [hw0, hw1]; exact nI_lt g2 (by omega))]
        · rw [if_neg (by rw [hw0, hw1]; exact nI_nlt (by omega) (by omega)), hw0, hw1, show v0 = v1 by omega]
      rw [if_pos c1, if_neg c2, c3]
      obtain ⟨v, u, s', R', r', a1, a2, a3⟩ := flt 1 (R 7 1) (R 7 0)
      refine ⟨v, u, s', R', r', by rw [a1]; rfl, a2, a3⟩
    · have c1 : ¬ R 7 1 ≤ R 7 0 := by rw [hw0, hw1]; exact nI_ge (by omega) (by omega)
      have c2 : R 7 0 < R 7 1 := by rw [hw0, hw1]; exact nI_lt (by omega) (by omega)
      have c3 : ¬ R 7 1 < R 7 0 := by rw [hw0, hw1]; exact nI_nlt (by omega) (by omega)
      rw [if_neg c1, if_pos c2, if_neg c3]
      obtain ⟨v, u, s', R', r', a1, a2, a3⟩ := flt 1 (R 7 0) (R 7 1)
      refine ⟨v, u, s', R', r', by rw [a1]; rfl, a2, a3⟩
  · rw [if_neg (by decide), if_neg (by decide), if_neg (by decide), if_neg (by decide), if_pos rfl, e63 0 (by have : few 4 = 1 := rfl; omega)]
    obtain ⟨v, u, s', R', r', a1, a2, a3⟩ := flt 2 (R 7 0) 0
    refine ⟨v, u, s', R', r', by rw [a1]; rfl, a2, a3⟩
  · rw [if_neg (by decide), if_neg (by decide), if_neg (by decide), if_neg (by decide), if_neg (by decide), if_pos rfl, e63 0 (by have : few 5 = 1 := rfl; omega)]
    obtain ⟨v, u, s', R', r', a1, a2, a3⟩ := flt 3 (R 7 0) 0
    refine ⟨v, u, s', R', r', by rw [a1]; rfl, a2, a3⟩
  · rw [if_neg (by decide), if_neg (by decide), if_neg (by decide), if_neg (by decide), if_neg (by decide), if_neg (by decide), if_pos rfl, e63 0 (by have : few 6 = 1 := rfl; omega)]
    obtain ⟨v, u, s', R', r', a1, a2, a3⟩ := flt 4 (R 7 0) 0
    refine ⟨v, u, s', R', r', by rw [a1]; rfl, a2, a3⟩
  · -- a blessing
    rw [if_neg (by decide), if_neg (by decide), if_neg (by decide), if_neg (by decide), if_neg (by decide), if_neg (by decide), if_neg (by decide)]
    have hm1 : 1 ≤ m := hf
    have eC : f_X3_setFrom s 1 = some (sa (R 7) 1 m) := (c_setFrom h5 (Nat.le_trans hm hm8) hm1).trans (by rw [esa])
    have eR : f_X7_numberSet R 1 = some (sa (R 7) 1 m) := r_numberSet h10 (by omega) hm1
    obtain ⟨k0, v0, hv0, hw0⟩ := hnu 0 (by omega)
    have hp : v0 < 16 := by
      have := fst_none.mp hth 0 (by omega)
      unfold nth at this
      rw [Bool.not_eq_false', decide_eq_true_eq, hw0, cl_n (show v0 < 2 ^ 31 by omega)] at this
      exact this
    obtain ⟨s', e1, e2⟩ := b_bless hB hR hV hp (sa (R 7) 1 m)
    refine ⟨0, 0, s', zm R 1 (72 + v0) (sa (R 7) 1 m), _, ?_, ?_, Or.inl ⟨rfl, by decide⟩, e2.pc.1, e2.pc.2, fun k => by rw [zm_ne (by decide)], e2.2⟩
    · rw [eC, Option.bind_some, k0, hw0, e1]
      rfl
    · show (Option.bind (f_X7_numberSet R 1) fun v2 => if zin ((72 : Int32) + (R 7 0)) 88 = true then zlt (zm R 1 (((72 : Int32) + (R 7 0)).toNatClampNeg) v2) fun s4 => some (0, s4) else none) = _
      rw [eR, Option.bind_some, hw0]
      simp only [a72, zin_n (show 72 + v0 < 88 by omega) (by decide), if_true, cl_n (show 72 + v0 < 2 ^ 31 by omega), zlt]
/-- a command's reason, on both sides -/
theorem p_perform {s : zs} {R : zr} {c : Nat → Nat} {n p e : Nat} {r : zrow} (hB : zBr s 52 r) (hR : zRr R r) (hV : zVr r) (hTs : zCl s c n) (hT : zRl R c n) (hc : zTc c n) (h8 : R 0 8 = nI p) (hp : p < n) (h32 : c p ≠ 32) (hse : isNx (qSc c) p n e) (he : e < n) : ∃ v s' R' r', f_X3_perform s (nI p) (nI e) = some (nI v, s') ∧ f_X7_reasonOf R = some (nI v, R') ∧ v < 4 ∧ zPc s s' ∧ zPf R R' ∧ (zBr s' 52 r' ∧ zRr R' r' ∧ zVr r') ∧ (∀ k, (3 ≤ k ∧ k < 9 ∨ 62 ≤ k ∧ k < 72) → r' k = r k) ∧ (v = 0 → R' 0 8 = nI (e + 1)) ∧ ∃ i', i' ≤ n ∧ R' 0 8 = nI i' := by
  obtain ⟨b, s1, b', R1, a1, a2, a3, a4, hat, a5⟩ := p_parse hTs hT hc h8 hp h32 hse he
  have hB1 : zBr s1 52 r := hB.cg (fun a h1 h2 => a3.2.1 a (by omega) (by omega))
  have hR1 : zRr R1 r := fun k hk => by rw [a4.1 1 (by decide) (by decide)]; exact hR k hk
  have same : ∀ k, (3 ≤ k ∧ k < 9 ∨ 62 ≤ k ∧ k < 72) → r k = r k := fun _ _ => rfl
  unfold f_X3_perform f_X7_reasonOf
  rw [a1, a2, Option.bind_some, Option.bind_some]
  rcases a5 with ⟨rfl, rfl, w, m, ⟨w1, w2, w3, w4⟩, ⟨w5, w6, w7⟩, w8, w9, w10⟩ | ⟨rfl, a6⟩
  · have hm8 := (mst_b w w1).2
    have eth := c_there hB1 hV w1 (show m ≤ 8 by omega) w2 w3 w8
    have rth := r_there hR1 hV w1 (show m ≤ 8 by omega) w4 w8
    simp only [zlt, if_true, w6, w7, Option.bind_some, eth, rth]
    cases hf : fst m (nth R1 r w) with
    | some j => exact ⟨2, s1, R1, r, rfl, rfl, by decide, a3.p, a4.p, ⟨hB1, hR1, hV⟩, same, fun h => (by cases h), hat⟩
    | none =>
      obtain ⟨v, u, s', R', r', d1, d2, d3, d4, d5, d6, d7, d8⟩ := p_does hB1 hR1 hV w1 w10 w9 w2 w3 w4 w8 hf
      simp only [Option.bind_some, d1, d2, Option.isNone_none, if_true]
      have hat' : ∃ i', i' ≤ n ∧ R' 0 8 = nI i' := by
        obtain ⟨i', h1, h2⟩ := hat
        exact ⟨i', h1, (d6 8).trans h2⟩
      rcases d3 with ⟨d3, d9⟩ | ⟨d3, d9⟩
      · refine ⟨0, s', R', r', ?_, ?_, by decide, a3.p.tr d4, a4.p.tr d5, d7, d8, fun _ => (d6 8).trans w5, hat'⟩
        · rw [if_pos d3]
          rfl
        · rw [if_pos (Int32.not_lt.mp d9)]
          rfl
      · refine ⟨3, s', R', r', ?_, ?_, by decide, a3.p.tr d4, a4.p.tr d5, d7, d8, fun h => (by cases h), hat'⟩
        · rw [if_neg d3]
          rfl
        · rw [if_neg (fun g => Int32.not_lt.mpr g d9)]
          rfl
  · refine ⟨1, s1, R1, r, rfl, ?_, by decide, a3.p, a4.p, ⟨hB1, hR1, hV⟩, same, fun h => (by cases h), hat⟩
    cases b'
    · rfl
    · rcases a6 with a6 | a6
      · cases a6
      · simp only [if_true, zlt, a6, Option.bind_some]
        rfl
