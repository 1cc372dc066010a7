/-! WHAT A CALL TELLS HANGS ON THE ROW ALONE; an error changes nothing, any other call puts one state into the history. -/
def nPr (n : Nat) : Nat := if n = 4 then 3 else n
theorem nPr_lt {n : Nat} (h : n ≤ 4) : nPr n < 4 := by
  unfold nPr
  split <;> omega
theorem nPr_s (n : Nat) : (if n = 4 then 4 else n + 1) = nPr n + 1 := by
  unfold nPr
  split <;> rfl
def zPu (R R' : zr) : Prop := ∀ n, n ≤ 4 → R 0 3 = nI n → R' 0 3 = nI (nPr n + 1) ∧ ∀ k, k < 88 → R' 2 (88 * nPr n + k) = R 1 k
def zAf (v : Int32) (R R' : zr) : Prop := (v < 0 ∧ R' = R) ∨ (¬ v < 0 ∧ zPu R R')
def zTr (f : zr → Option (Int32 × zr)) (r : zrow) (v : Int32) (r' : zrow) : Prop := ∀ (R : zr) (n : Nat), zRr R r → n ≤ 4 → R 0 3 = nI n → ∃ R', f R = some (v, R') ∧ zRr R' r' ∧ zAf v R R'
theorem zPu.up {R T T' : zr} (h : zPu R T) (e0 : T' 0 3 = T 0 3) (e2 : T' 2 = T 2) : zPu R T' := fun n hn hR => by
  rw [e0, e2]
  exact h n hn hR
theorem rec_ {R : zr} {r : zrow} {n : Nat} (hR : zRr R r) (hn : n ≤ 4) (e0 : R 0 3 = nI n) : ∃ T, f_X7_records R = some T ∧ zRr T r ∧ zPu R T := by
  obtain ⟨T, k1, k2, k3, k4, k5, k6⟩ := r_records hn e0
  refine ⟨T, k1, fun k hk => by rw [k2 1 (by decide) (by decide)]; exact hR k hk, fun m hm hm2 => ?_⟩
  have e : m = n := (nI_eq (by omega) (by omega)).mp (hm2.symm.trans e0)
  subst e
  rw [nPr_s] at k4
  exact ⟨k4, k6⟩
/-- a call that is refused -/
theorem zTr.no {f : zr → Option (Int32 × zr)} {r : zrow} {v : Int32} (hv : v < 0) (h : ∀ R, zRr R r → f R = some (v, R)) : zTr f r v r := fun R n hR hn e0 => ⟨R, h R hR, hR, Or.inl ⟨hv, rfl⟩⟩
/-- a call that is done: behind the keeping, cells of the row alone are written -/
theorem zTr.yes {f : zr → Option (Int32 × zr)} {r r' : zrow} {v : Int32} (hv : ¬ v < 0) (h : ∀ R T, zRr R r → f_X7_records R = some T → zRr T r → ∃ R', f R = some (v, R') ∧ zRr R' r' ∧ R' 0 = T 0 ∧ R' 2 = T 2) : zTr f r v r' := fun R n hR hn e0 => by
  obtain ⟨T, k1, k2, k3⟩ := rec_ hR hn e0
  obtain ⟨R', h1, h2, h3, h4⟩ := h R T hR k1 k2
  exact ⟨R', h1, h2, Or.inr ⟨hv, k3.up (by rw [h3]) h4⟩⟩
/-- what holds of the row besides -/
def zJr (r : zrow) : Prop := (∀ p, p < 16 → ¬ r (72 + p) < 0) ∧ (∃ m, m ≤ 20 ∧ r 4 = nI m) ∧ ∀ i, i ≤ 10 → f_X7_slotOf (r 6) = nI i → bt (r 7) i = true
theorem zJr.cg {r r' : zrow} (h : zJr r) (e7 : ∀ p, p < 16 → r' (72 + p) = r (72 + p)) (e4 : r' 4 = r 4) (e6 : r' 6 = r 6) (es : r' 7 = r 7) : zJr r' := by
  obtain ⟨a, b, c⟩ := h
  refine ⟨fun p hp => by rw [e7 p hp]; exact a p hp, by rw [e4]; exact b, ?_⟩
  rw [e6, es]
  exact c
theorem nn {n : Nat} (h : n < 2 ^ 31) : ¬ nI n < 0 := nI_pos h
/-- the suspects, and which is planted, stay -/
def zKp (r r' : zrow) : Prop := r' 6 = r 6 ∧ r' 7 = r 7
theorem g_pinR (x : Int32) : (∃ p, p < 16 ∧ x = nI p ∧ f_X7_isIn x 0 15 = true) ∨ f_X7_isIn x 0 15 = false := by
  rcases g_pin x with ⟨p, hp, e, -, g⟩ | ⟨-, g⟩
  · exact Or.inl ⟨p, hp, e, g⟩
  · exact Or.inr g
section ZTOLD
variable {s0 : zs} {R0 : zr} {r : zrow}
theorem t_vouchers (hJ : zJr r) (x : Int32) : ∃ v r', zTr (fun R => f_X7_vouchers R x) r v r' ∧ zJr r' ∧ zKp r r' := by
  obtain ⟨m, hm, e4⟩ := hJ.2.1
  by_cases g : f_X7_isIn x 0 20 = true
  · refine ⟨r 4, upd r 4 x, zTr.yes (by rw [e4]; exact nn (by omega)) (fun R T hR k1 hT => ⟨zm T 1 4 x, ?_, hT.up 4 x, zm_ne (by decide), zm_ne (by decide)⟩), ?_, rfl, rfl⟩
    · show f_X7_vouchers R x = _
      unfold f_X7_vouchers
      rw [if_pos g, k1, Option.bind_some]
      simp only [zlt]
      rw [hT 4 (by decide)]
    · obtain ⟨a, b, c⟩ := hJ
      refine ⟨fun p hp => by rw [upd_ne (by omega)]; exact a p hp, ?_, c⟩
      rw [upd_at]
      rcases n_cs x with hx | ⟨k, hk, rfl⟩
      · rw [show f_X7_isIn x 0 20 = false from isIn_neg hx (a := 0) (by decide) 20] at g
        exact absurd g (by decide)
      · have e : f_X7_isIn (nI k) 0 20 = _ := isIn_n (a := 0) (b := 20) hk (by decide) (by decide)
        rw [e, Bool.and_eq_true, decide_eq_true_eq, decide_eq_true_eq] at g
        exact ⟨k, g.2, rfl⟩
  · refine ⟨-1000001, r, zTr.no (by decide) (fun R hR => ?_), hJ, rfl, rfl⟩
    unfold f_X7_vouchers
    rw [if_neg g]
theorem t_vouch (hV : zVr r) (hJ : zJr r) (x : Int32) : ∃ v r', zTr (fun R => f_X7_vouch R x) r v r' ∧ zJr r' ∧ zKp r r' ∧ (¬ v < 0 → zVr r' ∧ ∀ p, p < 16 → x = nI p → bt (tN' r') p = true) := by
  rcases g_pinR x with ⟨p, hp, rfl, g⟩ | g
  · have key : ∀ R, zRr R r → f_X7_touchedNow R = some (tN' r) := fun R hR => r_touchedNow hR hV
    cases hb : bt (tN' r) p
    · by_cases gz : r 4 = 0
      · refine ⟨-1000003, r, zTr.no (by decide) (fun R hR => ?_), hJ, ⟨rfl, rfl⟩, fun h => absurd (by decide) h⟩
        unfold f_X7_vouch
        rw [if_pos g, key R hR, Option.bind_some, h7 _ (show p < 32 by omega), hb, if_neg (by decide), hR 4 (by decide), if_pos gz]
      · obtain ⟨m, hm, e4⟩ := hJ.2.1
        have hm0 : m ≠ 0 := fun q => gz (by rw [e4, q]; rfl)
        have em : r 4 - 1 = nI (m - 1) := by rw [e4, show m = (m - 1) + 1 by omega]; exact nI_pred (m - 1)
        refine ⟨r 4 - 1, upd (upd r 5 (r 5 ||| bi p)) 4 (r 4 - 1), zTr.yes (by rw [em]; exact nn (by omega)) (fun R T hR k1 hT => ⟨zm (zm T 1 5 (r 5 ||| bi p)) 1 4 (r 4 - 1), ?_, (hT.up 5 _).up 4 _, ?_, ?_⟩), ?_, ⟨rfl, rfl⟩, fun _ => ⟨?_, fun q hq e => ?_⟩⟩
        · show f_X7_vouch R (nI p) = _
          unfold f_X7_vouch
          rw [if_pos g, key R hR, Option.bind_some, h7 _ (show p < 32 by omega), hb, if_neg (by decide), hR 4 (by decide), if_neg gz, k1, Option.bind_some]
          simp only [zlt]
          have c2 : (zm T 1 5 (T 1 5 ||| ((1 : Int32) <<< (nI p &&& 31)))) 1 4 = r 4 := hT 4 (by decide)
          rw [c2, hT 5 (by decide), zm_at]
          rfl
        · rw [zm_ne (by decide), zm_ne (by decide)]
        · rw [zm_ne (by decide), zm_ne (by decide)]
        · obtain ⟨a, b, c⟩ := hJ
          refine ⟨fun q hq => by rw [upd_ne (by omega), upd_ne (by omega)]; exact a q hq, ?_, c⟩
          rw [upd_at, em]
          exact ⟨m - 1, by omega, rfl⟩
        · refine hV.cg (fun k hk => by rw [upd_ne (by omega), upd_ne (by omega)]) ⟨hV.p4.1, or_to hV.vch (bi_to hp), hV.p4.2.2⟩ (fun f h1 h2 => by rw [upd_ne (by omega), upd_ne (by omega)]; exact hV.drw f h1 h2) (fun d hd => by
              rw [ct_cg (fun f _ => by rw [upd_ne (by omega), upd_ne (by omega)])]
              exact hV.fil d hd)
        · have e9 : p = q := (nI_eq (by omega) (by omega)).mp e
          subst e9
          unfold tN'
          rw [b_or, show (upd (upd r 5 (r 5 ||| bi p)) 4 (r 4 - 1)) 5 = r 5 ||| bi p from rfl, b_or, bi_b (by omega), decide_eq_true rfl, Bool.or_true, Bool.or_true]
    · refine ⟨-1000002, r, zTr.no (by decide) (fun R hR => ?_), hJ, ⟨rfl, rfl⟩, fun h => absurd (by decide) h⟩
      unfold f_X7_vouch
      rw [if_pos g, key R hR, Option.bind_some, h7 _ (show p < 32 by omega), hb, if_pos rfl]
  · refine ⟨-1000001, r, zTr.no (by decide) (fun R hR => ?_), hJ, ⟨rfl, rfl⟩, fun h => absurd (by decide) h⟩
    unfold f_X7_vouch
    rw [if_neg (by rw [g]; decide)]
theorem t_pass (hV : zVr r) (hJ : zJr r) (x : Int32) : ∃ v r', zTr (fun R => f_X7_pass R x) r v r' ∧ zJr r' ∧ zKp r r' := by
  have hd := hV.day
  by_cases g : f_X7_isIn x 1 60 = true
  · rcases n_cs x with hx | ⟨m, hm, rfl⟩
    · rw [show f_X7_isIn x 1 60 = false from isIn_neg hx (a := 1) (by decide) 60] at g
      exact absurd g (by decide)
    · have e : f_X7_isIn (nI m) 1 60 = _ := isIn_n (a := 1) (b := 60) hm (by decide) (by decide)
      have g' := g
      rw [e, Bool.and_eq_true, decide_eq_true_eq, decide_eq_true_eq] at g'
      have eD : r 3 + nI m = nI (dN r + m) := by rw [hd.1, nI_add]
      by_cases g9 : r 3 + nI m ≤ 10000
      · refine ⟨nI ((dN r + m) % 7), upd (upd r 3 (nI (dN r + m))) 5 0, zTr.yes (nn (by omega)) (fun R T hR k1 hT => ⟨zm (zm T 1 3 (nI (dN r + m))) 1 5 0, ?_, (hT.up 3 _).up 5 _, ?_, ?_⟩), ?_, rfl, rfl⟩
        · show f_X7_pass R (nI m) = _
          unfold f_X7_pass
          rw [if_pos g, hR 3 (by decide), if_pos g9, k1, Option.bind_some]
          simp only [zlt]
          rw [hT 3 (by decide), eD]
          congr 2
          exact wd_n (n := dN r + m) rfl (by omega)
        · rw [zm_ne (by decide), zm_ne (by decide)]
        · rw [zm_ne (by decide), zm_ne (by decide)]
        · exact hJ.cg (fun p hp => by rw [upd_ne (by omega), upd_ne (by omega)]) rfl rfl rfl
      · refine ⟨-1000003, r, zTr.no (by decide) (fun R hR => ?_), hJ, rfl, rfl⟩
        unfold f_X7_pass
        rw [if_pos g, hR 3 (by decide), if_neg g9]
  · refine ⟨-1000001, r, zTr.no (by decide) (fun R hR => ?_), hJ, rfl, rfl⟩
    unfold f_X7_pass
    rw [if_neg g]
theorem t_bless (hJ : zJr r) (x y : Int32) : ∃ v r', zTr (fun R => f_X7_bless R x y) r v r' ∧ zJr r' ∧ zKp r r' := by
  rcases g_pinR x with ⟨p, hp, rfl, g⟩ | g
  · by_cases g7 : f_X7_isIn y 0 127 = true
    · refine ⟨r (72 + p), upd r (72 + p) y, zTr.yes (hJ.1 p hp) (fun R T hR k1 hT => ⟨zm T 1 (72 + p) y, ?_, hT.up _ _, zm_ne (by decide), zm_ne (by decide)⟩), ?_, upd_ne (by omega), upd_ne (by omega)⟩
      · show f_X7_bless R (nI p) y = _
        unfold f_X7_bless
        rw [if_pos g, if_pos g7, k1, Option.bind_some]
        simp only [a72, zin_n (show 72 + p < 88 by omega) (by decide), if_true, cl_n (show 72 + p < 2 ^ 31 by omega), zlt, hT (72 + p) (by omega)]
      · obtain ⟨a, b, c⟩ := hJ
        refine ⟨fun q hq => ?_, by rw [upd_ne (by omega)]; exact b, by rw [upd_ne (by omega), upd_ne (by omega)]; exact c⟩
        by_cases hqp : q = p
        · rw [hqp, upd_at]
          intro hy
          rw [show f_X7_isIn y 0 127 = false from isIn_neg hy (a := 0) (by decide) 127] at g7
          exact absurd g7 (by decide)
        · rw [upd_ne (by omega)]
          exact a q hq
    · refine ⟨-1000001, r, zTr.no (by decide) (fun R hR => ?_), hJ, rfl, rfl⟩
      unfold f_X7_bless
      rw [if_pos g, if_neg g7]
  · refine ⟨-1000001, r, zTr.no (by decide) (fun R hR => ?_), hJ, rfl, rfl⟩
    unfold f_X7_bless
    rw [if_neg (by rw [g]; decide)]
end ZTOLD
