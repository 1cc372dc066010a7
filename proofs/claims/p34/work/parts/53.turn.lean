/-! THE CALL OF A TURN, as the row tells it. -/
theorem r_undoR {R : zr} {m : Nat} (hm : m < 4) (e0 : R 0 3 = nI (m + 1)) : ∃ R2, f_X7_undo R = some (nI m, R2) ∧ R2 0 3 = nI m ∧ ∀ k, k < 88 → R2 1 k = R 2 (88 * m + k) := by
  obtain ⟨z, z1, z2, z3⟩ := r_undo22 (R := zm R 0 3 (nI m)) (n := m) hm zm_at
  have hne : ¬ nI (m + 1) = 0 := nI_ne0 (by omega) (by omega)
  have em : nI (m + 1) - 1 = nI m := nI_pred m
  have ez0 : z 0 3 = nI m := by rw [z2 0 (by decide), zm_at]
  refine ⟨z, ?_, ez0, fun k hk => by rw [z3 k hk, zm_ne (by decide)]⟩
  unfold f_X7_undo
  rw [e0, if_neg hne]
  simp only [zlt, em, z1, Option.bind_some]
  rw [ez0]
/-- one step of both sides, as the row tells it -/
theorem st_ {s : zs} {R : zr} {r r' : zrow} {v : Int32} {f6 : Option (Int32 × zs)} {f7 : zr → Option (Int32 × zr)} (hI : zInv s R) (hR : zRr R r) (hq : zPr f6 (f7 R)) (ht : zTr f7 r v r') : ∃ s' R', f6 = some (v, s') ∧ zInv s' R' ∧ zRr R' r' ∧ zAf v R R' := by
  obtain ⟨-, ⟨-, n, hn, -, e0, -⟩, -⟩ := id hI
  obtain ⟨w, s', R', e1, e2, e3⟩ := hq
  obtain ⟨R2, h1, h2, h3⟩ := ht R n hR hn e0
  have e := Option.some.inj (e2.symm.trans h1)
  have ew : w = v := congrArg Prod.fst e
  have eR : R' = R2 := congrArg Prod.snd e
  subst ew
  subst eR
  exact ⟨s', R', e1, e3, h2, h3⟩
def upv (x m : Int32) : Int32 := (x &&& 2147483647) - (x &&& 2147483647) / m * m
theorem up_ {x m : Int32} (h : ¬ m = 0) : f_L_up x m = some (upv x m) := if_pos h
theorem bnd (w : Option (Int32 × zs)) : (Option.bind w fun v => some (v.1, v.2)) = w := by cases w <;> rfl
def tTr (x1 x2 x3 : Int32) (r : zrow) (v : Int32) (r' : zrow) : Prop := ∀ s R, zInv s R → zRr R r → ∃ s' R', f_L_turn s x1 x2 x3 = some (v, s') ∧ zInv s' R' ∧ zRr R' r' ∧ zAf v R R'
def tFa (x1 x2 : Int32) (r : zrow) (v : Int32) (r' : zrow) : Prop := ¬ v < 0 → (x1 = 8 → r' 6 = upv x2 13 - 2 ∧ r' 7 = aS r ∧ r' 2 = r 2 ∧ v = nI (ct 16 (bt (aS r)))) ∧ ((x1 = 9 ∨ x1 = 10) → ∃ i, sOk r i ∧ f_X7_slotOf (r 6) = nI i ∧ v = nI (ct 16 (bt (rT r i 7))) ∧ r' = rT r i) ∧ (¬ x1 = 8 → ¬ x1 = 9 → ¬ x1 = 10 → zKp r r') ∧ (x1 = 11 → zVr r' ∧ ∀ p, p < 16 → x2 &&& 15 = nI p → bt (tN' r') p = true)
theorem tn_of {x1 x2 x3 : Int32} {r r' : zrow} {v : Int32} {g : zs → Option (Int32 × zs)} {f7 : zr → Option (Int32 × zr)} (hg : ∀ s, f_L_turn s x1 x2 x3 = g s) (hq : ∀ s R, zInv s R → zPr (g s) (f7 R)) (ht : zTr f7 r v r') : tTr x1 x2 x3 r v r' := by
  intro s R hI hR
  rw [hg]
  exact st_ hI hR (hq s R hI) ht
theorem fa_kp {x1 x2 : Int32} {r r' : zrow} {v : Int32} (h8 : ¬ x1 = 8) (h9 : ¬ x1 = 9) (h10 : ¬ x1 = 10) (h11 : ¬ x1 = 11) (k : zKp r r') : tFa x1 x2 r v r' := fun _ => ⟨fun h => absurd h h8, fun h => h.elim (fun q => absurd q h9) (fun q => absurd q h10), fun _ _ _ => k, fun h => absurd h h11⟩
theorem any_ {s0 : zs} {R0 : zr} {r : zrow} (hc : zCu s0 R0 r) (hJ : zJr r) (x1 x2 : Int32) : ∃ (f7 : zr → Option (Int32 × zr)) (v : Int32) (r' : zrow), (∀ s R, zInv s R → zPr (f_L_any s x1 x2) (f7 R)) ∧ zTr f7 r v r' ∧ zJr r' ∧ zKp r r' := by
  by_cases g0 : (x2 &&& 7) = 0
  · obtain ⟨v, r', h1, h2, h3⟩ := t_net hc hJ x1
    refine ⟨fun R => f_X7_net R x1, v, r', fun s R hI => ?_, h1, h2, h3⟩
    have e : f_L_any s x1 x2 = f_X6_net s x1 := by
      unfold f_L_any
      rw [if_pos g0, bnd]
    rw [e]
    exact q_net hI x1
  by_cases g1 : (x2 &&& 7) = 1
  · obtain ⟨v, r', h1, h2, h3⟩ := t_chip hc hJ x1 x2 (x2 >>> (3 &&& 31))
    refine ⟨fun R => f_X7_chip R x1 x2 (x2 >>> (3 &&& 31)), v, r', fun s R hI => ?_, h1, h2, h3⟩
    have e : f_L_any s x1 x2 = f_X6_chip s x1 x2 (x2 >>> (3 &&& 31)) := by
      unfold f_L_any
      rw [if_neg g0, if_pos g1, bnd]
    rw [e]
    exact q_chip hI x1 x2 (x2 >>> (3 &&& 31))
  by_cases g2 : (x2 &&& 7) = 2
  · obtain ⟨v, r', h1, h2, h3⟩ := t_fault hc hJ x1 x2 (x2 >>> (3 &&& 31))
    refine ⟨fun R => f_X7_fault R x1 x2 (x2 >>> (3 &&& 31)), v, r', fun s R hI => ?_, h1, h2, h3⟩
    have e : f_L_any s x1 x2 = f_X6_fault s x1 x2 (x2 >>> (3 &&& 31)) := by
      unfold f_L_any
      rw [if_neg g0, if_neg g1, if_pos g2, bnd]
    rw [e]
    exact q_fault hI x1 x2 (x2 >>> (3 &&& 31))
  by_cases g3 : (x2 &&& 7) = 3
  · obtain ⟨v, r', h1, h2, h3⟩ := t_bless hJ x1 x2
    refine ⟨fun R => f_X7_bless R x1 x2, v, r', fun s R hI => ?_, h1, h2, h3⟩
    have e : f_L_any s x1 x2 = f_X6_bless s x1 x2 := by
      unfold f_L_any
      rw [if_neg g0, if_neg g1, if_neg g2, if_pos g3, bnd]
    rw [e]
    exact q_bless hI x1 x2
  by_cases g4 : (x2 &&& 7) = 4
  · obtain ⟨v, r', h1, h2, h3⟩ := t_vouchers hJ x1
    refine ⟨fun R => f_X7_vouchers R x1, v, r', fun s R hI => ?_, h1, h2, h3⟩
    have e : f_L_any s x1 x2 = f_X6_vouchers s x1 := by
      unfold f_L_any
      rw [if_neg g0, if_neg g1, if_neg g2, if_neg g3, if_pos g4, bnd]
    rw [e]
    exact q_vouchers hI x1
  by_cases g5 : (x2 &&& 7) = 5
  · obtain ⟨v, r', h1, h2, h3, -⟩ := t_vouch hc.V hJ x1
    refine ⟨fun R => f_X7_vouch R x1, v, r', fun s R hI => ?_, h1, h2, h3⟩
    have e : f_L_any s x1 x2 = f_X6_vouch s x1 := by
      unfold f_L_any
      rw [if_neg g0, if_neg g1, if_neg g2, if_neg g3, if_neg g4, if_pos g5, bnd]
    rw [e]
    exact q_vouch hI x1
  by_cases g6 : (x2 &&& 7) = 6
  · obtain ⟨v, r', h1, h2, h3⟩ := t_pass hc.V hJ x1
    refine ⟨fun R => f_X7_pass R x1, v, r', fun s R hI => ?_, h1, h2, h3⟩
    have e : f_L_any s x1 x2 = f_X6_pass s x1 := by
      unfold f_L_any
      rw [if_neg g0, if_neg g1, if_neg g2, if_neg g3, if_neg g4, if_neg g5, if_pos g6, bnd]
    rw [e]
    exact q_pass hI x1
  obtain ⟨v, r', h1, h2, h3⟩ := t_file hc hJ x1 (x2 >>> (3 &&& 31))
  refine ⟨fun R => f_X7_file R x1 (x2 >>> (3 &&& 31)), v, r', fun s R hI => ?_, h1, h2, h3⟩
  have e : f_L_any s x1 x2 = f_X6_file s x1 (x2 >>> (3 &&& 31)) := by
    unfold f_L_any
    rw [if_neg g0, if_neg g1, if_neg g2, if_neg g3, if_neg g4, if_neg g5, if_neg g6, bnd]
  rw [e]
  exact q_file hI x1 (x2 >>> (3 &&& 31))
theorem t_turn {s0 : zs} {R0 : zr} {r : zrow} (hc : zCu s0 R0 r) (hJ : zJr r) (x1 x2 x3 : Int32) : ∃ v r', tTr x1 x2 x3 r v r' ∧ zJr r' ∧ tFa x1 x2 r v r' := by
  by_cases g0 : x1 = 0
  · subst g0
    obtain ⟨v, r', h1, h2, h3⟩ := t_net hc hJ (f_L_some x2)
    refine ⟨v, r', tn_of (g := fun s => f_X6_net s (f_L_some x2)) (f7 := fun R => f_X7_net R (f_L_some x2)) (fun s => ?_) (fun s R hI => q_net hI (f_L_some x2)) h1, h2, fa_kp (by decide) (by decide) (by decide) (by decide) h3⟩
    unfold f_L_turn
    rw [up_ (by decide), Option.bind_some, if_pos (show (0 : Int32) = 0 from rfl), bnd]
  by_cases g1 : x1 = 1
  · subst g1
    obtain ⟨v, r', h1, h2, h3⟩ := t_net hc hJ (f_L_some x2)
    refine ⟨v, r', tn_of (g := fun s => f_X6_net s (f_L_some x2)) (f7 := fun R => f_X7_net R (f_L_some x2)) (fun s => ?_) (fun s R hI => q_net hI (f_L_some x2)) h1, h2, fa_kp (by decide) (by decide) (by decide) (by decide) h3⟩
    unfold f_L_turn
    rw [up_ (by decide), Option.bind_some, if_neg (show ¬ (1 : Int32) = 0 by decide), if_pos (show (1 : Int32) = 1 from rfl), bnd]
  by_cases g2 : x1 = 2
  · subst g2
    obtain ⟨v, r', h1, h2, h3⟩ := t_chip hc hJ (x2 &&& 15) ((x2 >>> (4 &&& 31)) &&& 15) ((1 : Int32) <<< ((x3 &&& 15) &&& 31))
    refine ⟨v, r', tn_of (g := fun s => f_X6_chip s (x2 &&& 15) ((x2 >>> (4 &&& 31)) &&& 15) ((1 : Int32) <<< ((x3 &&& 15) &&& 31))) (f7 := fun R => f_X7_chip R (x2 &&& 15) ((x2 >>> (4 &&& 31)) &&& 15) ((1 : Int32) <<< ((x3 &&& 15) &&& 31))) (fun s => ?_) (fun s R hI => q_chip hI (x2 &&& 15) ((x2 >>> (4 &&& 31)) &&& 15) ((1 : Int32) <<< ((x3 &&& 15) &&& 31))) h1, h2, fa_kp (by decide) (by decide) (by decide) (by decide) h3⟩
    unfold f_L_turn
    rw [up_ (by decide), Option.bind_some, if_neg (show ¬ (2 : Int32) = 0 by decide), if_neg (show ¬ (2 : Int32) = 1 by decide), if_pos (show (2 : Int32) = 2 from rfl), bnd]
  by_cases g3 : x1 = 3
  · subst g3
    by_cases gu : upv x2 5 = 1
    · obtain ⟨v, r', h1, h2, h3⟩ := t_fault hc hJ (upv x2 5) (x3 &&& 7) ((x3 >>> (3 &&& 31)) &&& 7)
      refine ⟨v, r', tn_of (g := fun s => f_X6_fault s (upv x2 5) (x3 &&& 7) ((x3 >>> (3 &&& 31)) &&& 7)) (f7 := fun R => f_X7_fault R (upv x2 5) (x3 &&& 7) ((x3 >>> (3 &&& 31)) &&& 7)) (fun s => ?_) (fun s R hI => q_fault hI (upv x2 5) (x3 &&& 7) ((x3 >>> (3 &&& 31)) &&& 7)) h1, h2, fa_kp (by decide) (by decide) (by decide) (by decide) h3⟩
      unfold f_L_turn
      rw [up_ (by decide), Option.bind_some, if_neg (show ¬ (3 : Int32) = 0 by decide), if_neg (show ¬ (3 : Int32) = 1 by decide), if_neg (show ¬ (3 : Int32) = 2 by decide), if_pos (show (3 : Int32) = 3 from rfl), if_pos gu, bnd]
    · obtain ⟨v, r', h1, h2, h3⟩ := t_fault hc hJ (upv x2 5) (x3 &&& 7) 0
      refine ⟨v, r', tn_of (g := fun s => f_X6_fault s (upv x2 5) (x3 &&& 7) 0) (f7 := fun R => f_X7_fault R (upv x2 5) (x3 &&& 7) 0) (fun s => ?_) (fun s R hI => q_fault hI (upv x2 5) (x3 &&& 7) 0) h1, h2, fa_kp (by decide) (by decide) (by decide) (by decide) h3⟩
      unfold f_L_turn
      rw [up_ (by decide), Option.bind_some, if_neg (show ¬ (3 : Int32) = 0 by decide), if_neg (show ¬ (3 : Int32) = 1 by decide), if_neg (show ¬ (3 : Int32) = 2 by decide), if_pos (show (3 : Int32) = 3 from rfl), if_neg gu, bnd]
  by_cases g4 : x1 = 4
  · subst g4
    by_cases gu : upv x2 5 = 1
    · obtain ⟨v, r', h1, h2, h3⟩ := t_fault hc hJ (upv x2 5) (x3 &&& 7) ((x3 >>> (3 &&& 31)) &&& 7)
      refine ⟨v, r', tn_of (g := fun s => f_X6_fault s (upv x2 5) (x3 &&& 7) ((x3 >>> (3 &&& 31)) &&& 7)) (f7 := fun R => f_X7_fault R (upv x2 5) (x3 &&& 7) ((x3 >>> (3 &&& 31)) &&& 7)) (fun s => ?_) (fun s R hI => q_fault hI (upv x2 5) (x3 &&& 7) ((x3 >>> (3 &&& 31)) &&& 7)) h1, h2, fa_kp (by decide) (by decide) (by decide) (by decide) h3⟩
      unfold f_L_turn
      rw [up_ (by decide), Option.bind_some, if_neg (show ¬ (4 : Int32) = 0 by decide), if_neg (show ¬ (4 : Int32) = 1 by decide), if_neg (show ¬ (4 : Int32) = 2 by decide), if_neg (show ¬ (4 : Int32) = 3 by decide), if_pos (show (4 : Int32) = 4 from rfl), if_pos gu, bnd]
    · obtain ⟨v, r', h1, h2, h3⟩ := t_fault hc hJ (upv x2 5) (x3 &&& 7) 0
      refine ⟨v, r', tn_of (g := fun s => f_X6_fault s (upv x2 5) (x3 &&& 7) 0) (f7 := fun R => f_X7_fault R (upv x2 5) (x3 &&& 7) 0) (fun s => ?_) (fun s R hI => q_fault hI (upv x2 5) (x3 &&& 7) 0) h1, h2, fa_kp (by decide) (by decide) (by decide) (by decide) h3⟩
      unfold f_L_turn
      rw [up_ (by decide), Option.bind_some, if_neg (show ¬ (4 : Int32) = 0 by decide), if_neg (show ¬ (4 : Int32) = 1 by decide), if_neg (show ¬ (4 : Int32) = 2 by decide), if_neg (show ¬ (4 : Int32) = 3 by decide), if_pos (show (4 : Int32) = 4 from rfl), if_neg gu, bnd]
  by_cases g5 : x1 = 5
  · subst g5
    obtain ⟨v, r', h1, h2, h3⟩ := t_bless hJ (x2 &&& 15) (x3 &&& 127)
    refine ⟨v, r', tn_of (g := fun s => f_X6_bless s (x2 &&& 15) (x3 &&& 127)) (f7 := fun R => f_X7_bless R (x2 &&& 15) (x3 &&& 127)) (fun s => ?_) (fun s R hI => q_bless hI (x2 &&& 15) (x3 &&& 127)) h1, h2, fa_kp (by decide) (by decide) (by decide) (by decide) h3⟩
    unfold f_L_turn
    rw [up_ (by decide), Option.bind_some, if_neg (show ¬ (5 : Int32) = 0 by decide), if_neg (show ¬ (5 : Int32) = 1 by decide), if_neg (show ¬ (5 : Int32) = 2 by decide), if_neg (show ¬ (5 : Int32) = 3 by decide), if_neg (show ¬ (5 : Int32) = 4 by decide), if_pos (show (5 : Int32) = 5 from rfl), bnd]
  by_cases g6 : x1 = 6
  · subst g6
    obtain ⟨v, r', h1, h2, h3⟩ := t_bless hJ (x2 &&& 15) (x3 &&& 127)
    refine ⟨v, r', tn_of (g := fun s => f_X6_bless s (x2 &&& 15) (x3 &&& 127)) (f7 := fun R => f_X7_bless R (x2 &&& 15) (x3 &&& 127)) (fun s => ?_) (fun s R hI => q_bless hI (x2 &&& 15) (x3 &&& 127)) h1, h2, fa_kp (by decide) (by decide) (by decide) (by decide) h3⟩
    unfold f_L_turn
    rw [up_ (by decide), Option.bind_some, if_neg (show ¬ (6 : Int32) = 0 by decide), if_neg (show ¬ (6 : Int32) = 1 by decide), if_neg (show ¬ (6 : Int32) = 2 by decide), if_neg (show ¬ (6 : Int32) = 3 by decide), if_neg (show ¬ (6 : Int32) = 4 by decide), if_neg (show ¬ (6 : Int32) = 5 by decide), if_pos (show (6 : Int32) = 6 from rfl), bnd]
  by_cases g7 : x1 = 7
  · subst g7
    obtain ⟨v, r', h1, h2, h3⟩ := t_bless hJ (x2 &&& 15) (x3 &&& 127)
    refine ⟨v, r', tn_of (g := fun s => f_X6_bless s (x2 &&& 15) (x3 &&& 127)) (f7 := fun R => f_X7_bless R (x2 &&& 15) (x3 &&& 127)) (fun s => ?_) (fun s R hI => q_bless hI (x2 &&& 15) (x3 &&& 127)) h1, h2, fa_kp (by decide) (by decide) (by decide) (by decide) h3⟩
    unfold f_L_turn
    rw [up_ (by decide), Option.bind_some, if_neg (show ¬ (7 : Int32) = 0 by decide), if_neg (show ¬ (7 : Int32) = 1 by decide), if_neg (show ¬ (7 : Int32) = 2 by decide), if_neg (show ¬ (7 : Int32) = 3 by decide), if_neg (show ¬ (7 : Int32) = 4 by decide), if_neg (show ¬ (7 : Int32) = 5 by decide), if_neg (show ¬ (7 : Int32) = 6 by decide), if_pos (show (7 : Int32) = 7 from rfl), bnd]
  by_cases g8 : x1 = 8
  · subst g8
    obtain ⟨v, r', h1, h2, h3⟩ := t_plant hc hJ (upv x2 13 - 2)
    refine ⟨v, r', tn_of (g := fun s => f_X6_plant s (upv x2 13 - 2)) (f7 := fun R => f_X7_plant R (upv x2 13 - 2)) (fun s => ?_) (fun s R hI => q_plant hI _) h1, h2, fun hv => ⟨fun _ => h3 hv, fun q => q.elim (fun q => absurd q (by decide)) (fun q => absurd q (by decide)), fun q => absurd rfl q, fun q => absurd q (by decide)⟩⟩
    unfold f_L_turn
    rw [up_ (by decide), Option.bind_some, if_neg (show ¬ (8 : Int32) = 0 by decide), if_neg (show ¬ (8 : Int32) = 1 by decide), if_neg (show ¬ (8 : Int32) = 2 by decide), if_neg (show ¬ (8 : Int32) = 3 by decide), if_neg (show ¬ (8 : Int32) = 4 by decide), if_neg (show ¬ (8 : Int32) = 5 by decide), if_neg (show ¬ (8 : Int32) = 6 by decide), if_neg (show ¬ (8 : Int32) = 7 by decide), if_pos (show (8 : Int32) = 8 from rfl), up_ (by decide), Option.bind_some, bnd]
  by_cases g9 : x1 = 9
  · subst g9
    obtain ⟨i, h1, h2, h3, h4⟩ := t_test hc.V hJ
    refine ⟨nI (ct 16 (bt (rT r i 7))), rT r i, tn_of (g := fun s => f_X6_test s) (f7 := f_X7_test) (fun s => ?_) (fun s R hI => q_test hI) h3, h4, fun hv => ⟨fun q => absurd q (by decide), fun _ => ⟨i, h1, h2, rfl, rfl⟩, fun q1 q2 q3 => absurd rfl q2, fun q => absurd q (by decide)⟩⟩
    unfold f_L_turn
    rw [up_ (by decide), Option.bind_some, if_neg (show ¬ (9 : Int32) = 0 by decide), if_neg (show ¬ (9 : Int32) = 1 by decide), if_neg (show ¬ (9 : Int32) = 2 by decide), if_neg (show ¬ (9 : Int32) = 3 by decide), if_neg (show ¬ (9 : Int32) = 4 by decide), if_neg (show ¬ (9 : Int32) = 5 by decide), if_neg (show ¬ (9 : Int32) = 6 by decide), if_neg (show ¬ (9 : Int32) = 7 by decide), if_neg (show ¬ (9 : Int32) = 8 by decide), if_pos (show (9 : Int32) = 9 from rfl), bnd]
  by_cases g10 : x1 = 10
  · subst g10
    obtain ⟨i, h1, h2, h3, h4⟩ := t_test hc.V hJ
    refine ⟨nI (ct 16 (bt (rT r i 7))), rT r i, tn_of (g := fun s => f_X6_test s) (f7 := f_X7_test) (fun s => ?_) (fun s R hI => q_test hI) h3, h4, fun hv => ⟨fun q => absurd q (by decide), fun _ => ⟨i, h1, h2, rfl, rfl⟩, fun q1 q2 q3 => absurd rfl q3, fun q => absurd q (by decide)⟩⟩
    unfold f_L_turn
    rw [up_ (by decide), Option.bind_some, if_neg (show ¬ (10 : Int32) = 0 by decide), if_neg (show ¬ (10 : Int32) = 1 by decide), if_neg (show ¬ (10 : Int32) = 2 by decide), if_neg (show ¬ (10 : Int32) = 3 by decide), if_neg (show ¬ (10 : Int32) = 4 by decide), if_neg (show ¬ (10 : Int32) = 5 by decide), if_neg (show ¬ (10 : Int32) = 6 by decide), if_neg (show ¬ (10 : Int32) = 7 by decide), if_neg (show ¬ (10 : Int32) = 8 by decide), if_neg (show ¬ (10 : Int32) = 9 by decide), if_pos (show (10 : Int32) = 10 from rfl), bnd]
  by_cases g11 : x1 = 11
  · subst g11
    obtain ⟨v, r', h1, h2, h3, h4⟩ := t_vouch hc.V hJ (x2 &&& 15)
    refine ⟨v, r', tn_of (g := fun s => f_X6_vouch s (x2 &&& 15)) (f7 := fun R => f_X7_vouch R (x2 &&& 15)) (fun s => ?_) (fun s R hI => q_vouch hI _) h1, h2, fun hv => ⟨fun q => absurd q (by decide), fun q => q.elim (fun q => absurd q (by decide)) (fun q => absurd q (by decide)), fun _ _ _ => h3, fun _ => h4 hv⟩⟩
    unfold f_L_turn
    rw [up_ (by decide), Option.bind_some, if_neg (show ¬ (11 : Int32) = 0 by decide), if_neg (show ¬ (11 : Int32) = 1 by decide), if_neg (show ¬ (11 : Int32) = 2 by decide), if_neg (show ¬ (11 : Int32) = 3 by decide), if_neg (show ¬ (11 : Int32) = 4 by decide), if_neg (show ¬ (11 : Int32) = 5 by decide), if_neg (show ¬ (11 : Int32) = 6 by decide), if_neg (show ¬ (11 : Int32) = 7 by decide), if_neg (show ¬ (11 : Int32) = 8 by decide), if_neg (show ¬ (11 : Int32) = 9 by decide), if_neg (show ¬ (11 : Int32) = 10 by decide), if_pos (show (11 : Int32) = 11 from rfl), bnd]
  by_cases g12 : x1 = 12
  · subst g12
    obtain ⟨v, r', h1, h2, h3⟩ := t_vouchers hJ (upv x2 23 - 1)
    refine ⟨v, r', tn_of (g := fun s => f_X6_vouchers s (upv x2 23 - 1)) (f7 := fun R => f_X7_vouchers R (upv x2 23 - 1)) (fun s => ?_) (fun s R hI => q_vouchers hI (upv x2 23 - 1)) h1, h2, fa_kp (by decide) (by decide) (by decide) (by decide) h3⟩
    unfold f_L_turn
    rw [up_ (by decide), Option.bind_some, if_neg (show ¬ (12 : Int32) = 0 by decide), if_neg (show ¬ (12 : Int32) = 1 by decide), if_neg (show ¬ (12 : Int32) = 2 by decide), if_neg (show ¬ (12 : Int32) = 3 by decide), if_neg (show ¬ (12 : Int32) = 4 by decide), if_neg (show ¬ (12 : Int32) = 5 by decide), if_neg (show ¬ (12 : Int32) = 6 by decide), if_neg (show ¬ (12 : Int32) = 7 by decide), if_neg (show ¬ (12 : Int32) = 8 by decide), if_neg (show ¬ (12 : Int32) = 9 by decide), if_neg (show ¬ (12 : Int32) = 10 by decide), if_neg (show ¬ (12 : Int32) = 11 by decide), if_pos (show (12 : Int32) = 12 from rfl), up_ (by decide), Option.bind_some, bnd]
  by_cases g13 : x1 = 13
  · subst g13
    obtain ⟨v, r', h1, h2, h3⟩ := t_pass hc.V hJ (upv x2 63 - 1)
    refine ⟨v, r', tn_of (g := fun s => f_X6_pass s (upv x2 63 - 1)) (f7 := fun R => f_X7_pass R (upv x2 63 - 1)) (fun s => ?_) (fun s R hI => q_pass hI (upv x2 63 - 1)) h1, h2, fa_kp (by decide) (by decide) (by decide) (by decide) h3⟩
    unfold f_L_turn
    rw [up_ (by decide), Option.bind_some, if_neg (show ¬ (13 : Int32) = 0 by decide), if_neg (show ¬ (13 : Int32) = 1 by decide), if_neg (show ¬ (13 : Int32) = 2 by decide), if_neg (show ¬ (13 : Int32) = 3 by decide), if_neg (show ¬ (13 : Int32) = 4 by decide), if_neg (show ¬ (13 : Int32) = 5 by decide), if_neg (show ¬ (13 : Int32) = 6 by decide), if_neg (show ¬ (13 : Int32) = 7 by decide), if_neg (show ¬ (13 : Int32) = 8 by decide), if_neg (show ¬ (13 : Int32) = 9 by decide), if_neg (show ¬ (13 : Int32) = 10 by decide), if_neg (show ¬ (13 : Int32) = 11 by decide), if_neg (show ¬ (13 : Int32) = 12 by decide), if_pos (show (13 : Int32) = 13 from rfl), up_ (by decide), Option.bind_some, bnd]
  by_cases g14 : x1 = 14
  · subst g14
    obtain ⟨v, r', h1, h2, h3⟩ := t_file hc hJ (upv x2 11) (upv x3 6)
    refine ⟨v, r', tn_of (g := fun s => f_X6_file s (upv x2 11) (upv x3 6)) (f7 := fun R => f_X7_file R (upv x2 11) (upv x3 6)) (fun s => ?_) (fun s R hI => q_file hI (upv x2 11) (upv x3 6)) h1, h2, fa_kp (by decide) (by decide) (by decide) (by decide) h3⟩
    unfold f_L_turn
    rw [up_ (by decide), Option.bind_some, if_neg (show ¬ (14 : Int32) = 0 by decide), if_neg (show ¬ (14 : Int32) = 1 by decide), if_neg (show ¬ (14 : Int32) = 2 by decide), if_neg (show ¬ (14 : Int32) = 3 by decide), if_neg (show ¬ (14 : Int32) = 4 by decide), if_neg (show ¬ (14 : Int32) = 5 by decide), if_neg (show ¬ (14 : Int32) = 6 by decide), if_neg (show ¬ (14 : Int32) = 7 by decide), if_neg (show ¬ (14 : Int32) = 8 by decide), if_neg (show ¬ (14 : Int32) = 9 by decide), if_neg (show ¬ (14 : Int32) = 10 by decide), if_neg (show ¬ (14 : Int32) = 11 by decide), if_neg (show ¬ (14 : Int32) = 12 by decide), if_neg (show ¬ (14 : Int32) = 13 by decide), if_pos (show (14 : Int32) = 14 from rfl), up_ (by decide), Option.bind_some, up_ (by decide), Option.bind_some, bnd]
  obtain ⟨f7, v, r', h0, h1, h2, h3⟩ := any_ hc hJ x2 x3
  refine ⟨v, r', tn_of (g := fun s => f_L_any s x2 x3) (fun s => ?_) h0 h1, h2, fa_kp g8 g9 g10 g11 h3⟩
  unfold f_L_turn
  rw [up_ (by decide), Option.bind_some, if_neg g0, if_neg g1, if_neg g2, if_neg g3, if_neg g4, if_neg g5, if_neg g6, if_neg g7, if_neg g8, if_neg g9, if_neg g10, if_neg g11, if_neg g12, if_neg g13, if_neg g14, bnd]
