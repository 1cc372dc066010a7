theorem rf_net (s : zs) (b : Nat) (x : Int32) : f_X0_refusalOfNet s b x = 0 ∨ f_X0_refusalOfNet s b x < 0 := by
  unfold f_X0_refusalOfNet
  try simp only [zlt]
  repeat' split
  all_goals first | exact Or.inl rfl | exact Or.inr (by decide)
theorem rf_chip (s : zs) (b : Nat) (x y z : Int32) : f_X0_refusalOfChip s b x y z = 0 ∨ f_X0_refusalOfChip s b x y z < 0 := by
  unfold f_X0_refusalOfChip
  try simp only [zlt]
  repeat' split
  all_goals first | exact Or.inl rfl | exact Or.inr (by decide)
def zRo (r : zrow) : zr := fun a => if a = 1 then r else fun _ => 0
theorem zRo_r (r : zrow) : zRr (zRo r) r := fun _ _ => rfl
section ZTOLD2
variable {s0 : zs} {R0 : zr} {r : zrow}
theorem t_net (hc : zCu s0 R0 r) (hJ : zJr r) (x : Int32) : ∃ v r', zTr (fun R => f_X7_net R x) r v r' ∧ zJr r' ∧ zKp r r' := by
  have hV := hc.V
  have hn := hV.n
  by_cases g : f_X0_refusalOfNet s0 64 x = 0
  · obtain ⟨d1, d2, d3⟩ := (b_checkNet hc.B hc.R hV x).2 g
    refine ⟨nI (cN r), rNet r x, zTr.yes (nn (by omega)) (fun R T hR k1 hT => ?_), ?_, ?_⟩
    · obtain ⟨s', R', e1, e2, e3⟩ := b_addNet hc.B hT hV d1 d2 d3
      refine ⟨R', ?_, e3.2.1.2.1, e3.1.2.2 0 (by decide), e3.1.2.2 2 (by decide)⟩
      show f_X7_net R x = _
      unfold f_X7_net
      rw [(b_checkNet hc.B hR hV x).1, Option.bind_some, if_pos g, k1, Option.bind_some, e2]
      rfl
    · exact hJ.cg (fun p hp => rNet_k (by omega) (by omega)) (rNet_k (by omega) (by omega)) (rNet_k (by omega) (by omega)) (rNet_k (by omega) (by omega))
    · exact ⟨rNet_k (by omega) (by omega), rNet_k (by omega) (by omega)⟩
  · refine ⟨f_X0_refusalOfNet s0 64 x, r, zTr.no ((rf_net s0 64 x).resolve_left g) (fun R hR => ?_), hJ, rfl, rfl⟩
    unfold f_X7_net
    rw [(b_checkNet hc.B hR hV x).1, Option.bind_some, if_neg g]
theorem t_chip (hc : zCu s0 R0 r) (hJ : zJr r) (x y z : Int32) : ∃ v r', zTr (fun R => f_X7_chip R x y z) r v r' ∧ zJr r' ∧ zKp r r' := by
  have hV := hc.V
  have hn := hV.c
  by_cases g : f_X0_refusalOfChip s0 64 x y z = 0
  · obtain ⟨e, o, d1, d2, rfl, rfl, d3, d4, d5⟩ := (b_checkChip hc.B hc.R hV x y z).2 g
    refine ⟨nI (cC r), rChip r e o z, zTr.yes (nn (by omega)) (fun R T hR k1 hT => ?_), ?_, ?_⟩
    · obtain ⟨s', R', e1, e2, e3⟩ := b_addChip hc.B hT hV d1 d2 d3 d4 d5
      refine ⟨R', ?_, e3.2.1.2.1, e3.1.2.2 0 (by decide), e3.1.2.2 2 (by decide)⟩
      show f_X7_chip R (nI e) (nI o) z = _
      unfold f_X7_chip
      rw [(b_checkChip hc.B hR hV _ _ z).1, Option.bind_some, if_pos g, k1, Option.bind_some, e2]
      rfl
    · exact hJ.cg (fun p hp => rChip_k (by omega) (by omega) (by omega) (by omega)) (rChip_k (by omega) (by omega) (by omega) (by omega)) (rChip_k (by omega) (by omega) (by omega) (by omega)) (rChip_k (by omega) (by omega) (by omega) (by omega))
    · exact ⟨rChip_k (by omega) (by omega) (by omega) (by omega), rChip_k (by omega) (by omega) (by omega) (by omega)⟩
  · refine ⟨f_X0_refusalOfChip s0 64 x y z, r, zTr.no ((rf_chip s0 64 x y z).resolve_left g) (fun R hR => ?_), hJ, rfl, rfl⟩
    unfold f_X7_chip
    rw [(b_checkChip hc.B hR hV x y z).1, Option.bind_some, if_neg g]
theorem t_fault (hc : zCu s0 R0 r) (hJ : zJr r) (x y z : Int32) : ∃ v r', zTr (fun R => f_X7_fault R x y z) r v r' ∧ zJr r' ∧ zKp r r' := by
  have hV := hc.V
  have hn := hV.f
  obtain ⟨w, -, w2, w3, w4⟩ := b_checkFault hc.B hc.R hV x y z
  have key : ∀ R, zRr R r → f_X7_checksFault R x y z = some w := fun R hR => by
    obtain ⟨w', u1, u2, -⟩ := b_checkFault hc.B hR hV x y z
    rw [u1, ← u2, w2]
  by_cases g : w = 0
  · obtain ⟨k, o, t, d1, d2, rfl, rfl, rfl, d3, d4, d5⟩ := w4 g
    refine ⟨nI (cF r), rFlt r k o t, zTr.yes (nn (by omega)) (fun R T hR k1 hT => ?_), ?_, ?_⟩
    · obtain ⟨s', R', e1, e2, e3⟩ := b_addFault hc.B hT hV d1 d2 d3 d4 d5
      refine ⟨R', ?_, e3.2.1.2.1, e3.1.2.2 0 (by decide), e3.1.2.2 2 (by decide)⟩
      show f_X7_fault R (nI k) (nI o) (nI t) = _
      unfold f_X7_fault
      rw [key R hR, Option.bind_some, if_pos g, k1, Option.bind_some, e2]
      rfl
    · exact hJ.cg (fun p hp => rFlt_k (by omega) (by omega) (by omega) (by omega) (by omega)) (rFlt_k (by omega) (by omega) (by omega) (by omega) (by omega)) (rFlt_k (by omega) (by omega) (by omega) (by omega) (by omega)) (rFlt_k (by omega) (by omega) (by omega) (by omega) (by omega))
    · exact ⟨rFlt_k (by omega) (by omega) (by omega) (by omega) (by omega), rFlt_k (by omega) (by omega) (by omega) (by omega) (by omega)⟩
  · refine ⟨w, r, zTr.no (w3.resolve_left g) (fun R hR => ?_), hJ, rfl, rfl⟩
    unfold f_X7_fault
    rw [key R hR, Option.bind_some, if_neg g]
theorem t_file (hc : zCu s0 R0 r) (hJ : zJr r) (x y : Int32) : ∃ v r', zTr (fun R => f_X7_file R x y) r v r' ∧ zJr r' ∧ zKp r r' := by
  have hV := hc.V
  have hf := hV.f
  have kf : ∀ R, zRr R r → f_X7_isFault R x = f_X7_isFault R0 x := fun R hR => by
    unfold f_X7_isFault
    rw [hR 2 (by decide), hc.R 2 (by decide)]
  rcases g_fault hc x with ⟨i, hi, rfl, -, g⟩ | ⟨-, g⟩
  · by_cases g2 : f_X7_isIn y 0 4 = true
    · by_cases ga : r (62 + i) = -1
      · by_cases gb : r (32 + i) = y
        · by_cases g3 : nI (iD r y) = 3
          · refine ⟨-1000003, r, zTr.no (by decide) (fun R hR => ?_), hJ, rfl, rfl⟩
            unfold f_X7_file
            simp only [kf R hR, g, g2, if_true, a62, a32, zin_n (show 62 + i < 88 by omega) (by decide), zin_n (show 32 + i < 88 by omega) (by decide), cl_n (show 62 + i < 2 ^ 31 by omega), cl_n (show 32 + i < 2 ^ 31 by omega), hR (62 + i) (by omega), hR (32 + i) (by omega), ga, gb]
            rw [r_inDrawer hR hV, Option.bind_some, if_pos g3]
          · obtain ⟨m, hm, rfl⟩ : ∃ m, m < 5 ∧ y = nI m := by
              rcases n_cs y with hy | ⟨m, hm, rfl⟩
              · rw [show f_X7_isIn y 0 4 = false from isIn_neg hy (a := 0) (by decide) 4] at g2
                exact absurd g2 (by decide)
              · have e : f_X7_isIn (nI m) 0 4 = _ := isIn_n (a := 0) (b := 4) hm (by decide) (by decide)
                rw [e, Bool.and_eq_true, decide_eq_true_eq, decide_eq_true_eq] at g2
                exact ⟨m, by omega, rfl⟩
            have hle : iD r (nI m) ≤ 3 := hV.fil m hm
            have g3' : iD r (nI m) ≠ 3 := fun q => g3 (by rw [q]; rfl)
            have hne : ¬ nI m = -1 := m1_ne (by omega)
            have hct : ∀ d, d < 5 → ct (cF r) (fun f => decide (upd r (62 + i) (nI m) (62 + f) = nI d)) ≤ 3 := by
              intro d hd
              by_cases hdm : d = m
              · subst hdm
                rw [ct_set (q := fun f => decide (r (62 + f) = nI d)) hi (decide_eq_false (by rw [ga]; exact fun q => hne q.symm)) (decide_eq_true upd_at) (fun j hj => by rw [upd_ne (by omega)])]
                have : iD r (nI d) = ct (cF r) (fun f => decide (r (62 + f) = nI d)) := rfl
                omega
              · refine Nat.le_trans (ct_mono (fun f _ hq => ?_)) (hV.fil d hd)
                by_cases hfi : f = i
                · rw [hfi, upd_at] at hq
                  have := (nI_eq (by omega) (by omega)).mp (of_decide_eq_true hq)
                  omega
                · rw [upd_ne (by omega)] at hq
                  exact hq
            have hV' : zVr (upd r (62 + i) (nI m)) := by
              refine hV.cg (fun k hk => upd_ne (by omega)) ?_ (fun f h1 h2 => by rw [upd_ne (by omega)]; exact hV.drw f h1 h2) hct
              unfold dN
              rw [upd_ne (show 3 ≠ 62 + i by omega), upd_ne (show 5 ≠ 62 + i by omega), upd_ne (show 6 ≠ 62 + i by omega), upd_ne (show 7 ≠ 62 + i by omega)]
              exact hV.p4
            refine ⟨nI (iD (upd r (62 + i) (nI m)) (nI m)), upd r (62 + i) (nI m), zTr.yes ?_ (fun R T hR k1 hT => ?_), ?_, upd_ne (by omega), upd_ne (by omega)⟩
            · have : iD (upd r (62 + i) (nI m)) (nI m) ≤ cF (upd r (62 + i) (nI m)) := ct_le _ _
              have e9 : cF (upd r (62 + i) (nI m)) = cF r := by
                unfold cF
                rw [upd_ne (show 2 ≠ 62 + i by omega)]
              exact nn (by omega)
            · refine ⟨zm T 1 (62 + i) (nI m), ?_, hT.up _ _, zm_ne (by decide), zm_ne (by decide)⟩
              show f_X7_file R (nI i) (nI m) = _
              unfold f_X7_file
              simp only [kf R hR, g, g2, if_true, a62, a32, zin_n (show 62 + i < 88 by omega) (by decide), zin_n (show 32 + i < 88 by omega) (by decide), cl_n (show 62 + i < 2 ^ 31 by omega), cl_n (show 32 + i < 2 ^ 31 by omega), hR (62 + i) (by omega), hR (32 + i) (by omega), ga, gb]
              rw [r_inDrawer hR hV, Option.bind_some, if_neg g3, k1, Option.bind_some]
              simp only [zlt]
              rw [r_inDrawer (hT.up (62 + i) (nI m)) hV', Option.bind_some]
            · exact hJ.cg (fun p hp => upd_ne (by omega)) (upd_ne (by omega)) (upd_ne (by omega)) (upd_ne (by omega))
        · refine ⟨-1000002, r, zTr.no (by decide) (fun R hR => ?_), hJ, rfl, rfl⟩
          unfold f_X7_file
          simp only [kf R hR, g, g2, if_true, a62, a32, zin_n (show 62 + i < 88 by omega) (by decide), zin_n (show 32 + i < 88 by omega) (by decide), cl_n (show 62 + i < 2 ^ 31 by omega), cl_n (show 32 + i < 2 ^ 31 by omega), hR (62 + i) (by omega), hR (32 + i) (by omega), ga, gb, if_false]
      · refine ⟨-1000002, r, zTr.no (by decide) (fun R hR => ?_), hJ, rfl, rfl⟩
        unfold f_X7_file
        simp only [kf R hR, g, g2, if_true, a62, a32, zin_n (show 62 + i < 88 by omega) (by decide), cl_n (show 62 + i < 2 ^ 31 by omega), hR (62 + i) (by omega), ga, if_false]
    · refine ⟨-1000001, r, zTr.no (by decide) (fun R hR => ?_), hJ, rfl, rfl⟩
      unfold f_X7_file
      rw [kf R hR, if_pos g, if_neg g2]
  · refine ⟨-1000001, r, zTr.no (by decide) (fun R hR => ?_), hJ, rfl, rfl⟩
    unfold f_X7_file
    rw [kf R hR, if_neg (by rw [g]; decide)]
theorem t_plant (hc : zCu s0 R0 r) (hJ : zJr r) (x : Int32) : ∃ v r', zTr (fun R => f_X7_plant R x) r v r' ∧ zJr r' ∧ (¬ v < 0 → r' 6 = x ∧ r' 7 = aS r ∧ r' 2 = r 2 ∧ v = nI (ct 16 (bt (aS r)))) := by
  have hV := hc.V
  have hf := hV.f
  have kf : ∀ R, zRr R r → f_X7_isFaultOrNone R x = f_X7_isFaultOrNone R0 x := fun R hR => by
    unfold f_X7_isFaultOrNone
    rw [hR 2 (by decide), hc.R 2 (by decide)]
  rcases g_faultN hc x with ⟨i, hi, rfl, -, g, -⟩ | ⟨-, g⟩
  · refine ⟨nI (ct 16 (bt (aS r))), upd (upd r 6 (sI i)) 7 (aS r), zTr.yes (nn (by have := ct_le 16 (bt (aS r)); omega)) (fun R T hR k1 hT => ?_), ?_, fun _ => ⟨rfl, rfl, rfl, rfl⟩⟩
    · refine ⟨zm (zm T 1 6 (sI i)) 1 7 (aS r), ?_, (hT.up 6 _).up 7 _, by rw [zm_ne (by decide), zm_ne (by decide)], by rw [zm_ne (by decide), zm_ne (by decide)]⟩
      show f_X7_plant R (sI i) = _
      unfold f_X7_plant
      rw [kf R hR, if_pos g, k1, Option.bind_some]
      simp only [zlt]
      have er : (((1 : Int32) <<< (((zm T 1 6 (sI i)) 1 2) &&& 31)) - 1) ||| 1024 = aS r := by
        rw [show (zm T 1 6 (sI i)) 1 2 = nI (cF r) from (hT 2 (by decide)).trans hf.1, or_cm]
        rfl
      rw [er, show (zm (zm T 1 6 (sI i)) 1 7 (aS r)) 1 7 = aS r from zm_at, r_ones, Option.bind_some]
    · obtain ⟨a, b, c⟩ := hJ
      refine ⟨fun p hp => by rw [upd_ne (by omega), upd_ne (by omega)]; exact a p hp, b, fun j hj e => ?_⟩
      have e1 : f_X7_slotOf (sI i) = nI j := e
      rw [slotOf_s (hi.le hV)] at e1
      have e2 : i = j := (nI_eq (by have := hi.le hV; omega) (by omega)).mp e1
      subst e2
      show bt (aS r) i = true
      rw [bt_aS hV (by omega)]
      exact isB_iff.mpr hi
  · refine ⟨-1000001, r, zTr.no (by decide) (fun R hR => ?_), hJ, fun h => absurd (by decide) h⟩
    unfold f_X7_plant
    rw [kf R hR, if_neg (by rw [g]; decide)]
/-- the row behind a test -/
def rT (r : zrow) (i : Nat) : zrow := upd (upd r 7 (r 7 &&& lS r (tN' r) i)) 8 (r 8 + 1)
theorem rT_E (r : zrow) (i : Nat) : zEr r (rT r i) := fun k h7 h8 => by
  unfold rT
  rw [upd_ne h8, upd_ne h7]
theorem rT_7 (r : zrow) (i : Nat) : rT r i 7 = r 7 &&& lS r (tN' r) i := by
  unfold rT
  rw [upd_ne (by decide), upd_at]
theorem rT_V {r : zrow} (hV : zVr r) (i : Nat) : zVr (rT r i) := by
  refine hV.cg (fun k hk => rT_E r i k (by omega) (by omega)) ⟨?_, ?_, ?_, fun k hk => ?_⟩ (fun f h1 h2 => by rw [rT_E r i _ (by omega) (by omega)]; exact hV.drw f h1 h2) (fun d hd => by
    rw [ct_cg (fun f _ => by rw [rT_E r i _ (by omega) (by omega)])]
    exact hV.fil d hd)
  · rw [g_dN (rT_E r i), rT_E r i 3 (by decide) (by decide)]
    exact hV.p4.1
  · rw [rT_E r i 5 (by decide) (by decide)]
    exact hV.p4.2.1
  · rw [rT_E r i 6 (by decide) (by decide)]
    exact hV.p4.2.2.1
  · rw [rT_7, b_and, Bool.and_eq_true] at hk
    exact hV.sus k hk.1
theorem t_test (hV : zVr r) (hJ : zJr r) : ∃ i, sOk r i ∧ f_X7_slotOf (r 6) = nI i ∧ zTr f_X7_test r (nI (ct 16 (bt (rT r i 7)))) (rT r i) ∧ zJr (rT r i) := by
  obtain ⟨i, hi, hpl⟩ := pl_i hV
  have hi10 := hi.le hV
  refine ⟨i, hi, hpl, zTr.yes (nn (by have := ct_le 16 (bt (rT r i 7)); omega)) (fun R T hR k1 hT => ?_), ?_⟩
  · obtain ⟨z, z1, z2, z3⟩ := r_measures hT hV (tN_to hV)
    have hz : zKr T z := fun a h4 _ => z2 a h4
    have hRz := hT.go hz
    refine ⟨zm (zm z 1 7 (r 7 &&& lS r (tN' r) i)) 1 8 (r 8 + 1), ?_, (hRz.up 7 _).up 8 _, ?_, ?_⟩
    · unfold f_X7_test
      rw [k1, Option.bind_some, r_touchedNow hT hV, Option.bind_some, z1, Option.bind_some, show z 1 6 = r 6 from hRz 6 (by decide), hpl, r_likeSet hRz hV z3 hi, Option.bind_some, show z 1 7 = r 7 from hRz 7 (by decide)]
      simp only [zlt]
      have c2 : (zm z 1 7 (r 7 &&& lS r (tN' r) i)) 1 8 = r 8 := hRz 8 (by decide)
      have c3 : (zm (zm z 1 7 (r 7 &&& lS r (tN' r) i)) 1 8 (r 8 + 1)) 1 7 = r 7 &&& lS r (tN' r) i := by
        rw [zm_nk (by decide), zm_at]
      rw [c2, c3, r_ones, Option.bind_some, rT_7]
    · rw [zm_ne (by decide), zm_ne (by decide)]
      exact hz 0 (by decide) (by decide)
    · rw [zm_ne (by decide), zm_ne (by decide)]
      exact hz 2 (by decide) (by decide)
  · obtain ⟨a, b, c⟩ := hJ
    have hE := rT_E r i
    refine ⟨fun p hp => by rw [hE _ (by omega) (by omega)]; exact a p hp, by rw [hE 4 (by decide) (by decide)]; exact b, fun j hj e => ?_⟩
    rw [hE 6 (by decide) (by decide)] at e
    rw [rT_7, b_and, c j hj e, Bool.true_and, bt_lS]
    have e2 : i = j := (nI_eq (by omega) (by omega)).mp (hpl.symm.trans e)
    subst e2
    rw [decide_eq_true (show i < 11 by omega), isB_iff.mpr hi, lk_refl]
    rfl
/-- a second test right behind leaves the same -/
theorem rT_2 {r : zrow} {i j : Nat} (hi : i ≤ 10) (hj : j ≤ 10) (h1 : f_X7_slotOf (r 6) = nI i) (h2 : f_X7_slotOf (rT r i 6) = nI j) : rT (rT r i) j 7 = rT r i 7 := by
  have hE := rT_E r i
  rw [hE 6 (by decide) (by decide)] at h2
  have e2 : i = j := (nI_eq (by omega) (by omega)).mp (h1.symm.trans h2)
  subst e2
  rw [rT_7 (rT r i), g_tN' hE, g_lS hE, rT_7 r]
  apply b_ext
  intro k _
  rw [b_and, b_and, Bool.and_assoc, Bool.and_self]
end ZTOLD2
