/-! count, share, the text's calls -/
/-- how many faults are in a drawer -/
def iD (r : zrow) (v : Int32) : Nat := ct (cF r) (fun f => decide (r (62 + f) = v))
theorem c_filedIn {s : zs} {x : Nat} {r : zrow} (hV : zVr r) (hB : zBr s (sB x) r) (hD : ∀ f, f < 10 → s.1 (sD x) f = r (62 + f)) (v : Int32) : f_X4_filedIn s x v = some (nI (iD r v)) := by
  have hf := hV.f
  have e0 : s.1 (sB x) 11 = nI (cF r) := hB.f.trans hf.1
  have h := zlp (fun k j => f_X4_filedIn_4 k s x v (nI (ct j (fun f => decide (r (62 + f) = v)))) (nI j)) (cF r) (some (nI (iD r v))) (fun k j hj => by
    show f_X4_filedIn_4 (k + 1) s x v (nI (ct j (fun f => decide (r (62 + f) = v)))) (nI j) = f_X4_filedIn_4 k s x v (nI (ct j (fun f => decide (r (62 + f) = v)) + if decide (r (62 + j) = v) = true then 1 else 0)) (nI (j + 1))
    have e1 : ¬ nI (cF r) ≤ nI j := nI_ge hj (by omega)
    simp only [f_X4_filedIn_4, e0, e1, if_false, zin_n (show j < 10 by omega) (by decide), if_true, cl_n (show j < 2 ^ 31 by omega), hD j (by omega), a1]
    by_cases g : r (62 + j) = v
    · rw [if_pos g, if_pos (decide_eq_true g)]
    · rw [if_neg g, if_neg (fun q => g (of_decide_eq_true q))]
      rfl) (fun k => by
    show f_X4_filedIn_4 (k + 1) s x v _ (nI (cF r)) = _
    simp only [f_X4_filedIn_4, e0, nI_le (Nat.le_refl (cF r)) (show cF r < 2 ^ 31 by omega), if_true]
    rfl) (cF r) 0 zFu (by omega) (zfu (by omega))
  unfold f_X4_filedIn
  rw [show f_X4_filedIn_4 zFu s x v 0 0 = _ from h]
  rfl
theorem r_inDrawer {R : zr} {r : zrow} (hR : zRr R r) (hV : zVr r) (v : Int32) : f_X7_inDrawer R v = some (nI (iD r v)) := by
  have hf := hV.f
  have e0 : R 1 2 = nI (cF r) := (hR 2 (by decide)).trans hf.1
  have h := zlp (fun k j => f_X7_inDrawer_4 k R v (nI (ct j (fun f => decide (r (62 + f) = v)))) (nI j)) (cF r) (some (nI (iD r v))) (fun k j hj => by
    show f_X7_inDrawer_4 (k + 1) R v (nI (ct j (fun f => decide (r (62 + f) = v)))) (nI j) = f_X7_inDrawer_4 k R v (nI (ct j (fun f => decide (r (62 + f) = v)) + if decide (r (62 + j) = v) = true then 1 else 0)) (nI (j + 1))
    have e1 : ¬ nI (cF r) ≤ nI j := nI_ge hj (by omega)
    simp only [f_X7_inDrawer_4, e0, e1, if_false, a62, zin_n (show 62 + j < 88 by omega) (by decide), if_true, cl_n (show 62 + j < 2 ^ 31 by omega), hR (62 + j) (by omega), zlt, a1]
    by_cases g : r (62 + j) = v
    · rw [if_pos g, if_pos (decide_eq_true g)]
    · rw [if_neg g, if_neg (fun q => g (of_decide_eq_true q))]
      rw [show nI (ct j (fun f => decide (r (62 + f) = v))) + 0 = nI (ct j (fun f => decide (r (62 + f) = v))) from nI_add _ 0]
      rfl) (fun k => by
    show f_X7_inDrawer_4 (k + 1) R v _ (nI (cF r)) = _
    simp only [f_X7_inDrawer_4, e0, nI_le (Nat.le_refl (cF r)) (show cF r < 2 ^ 31 by omega), if_true]
    rfl) (cF r) 0 zFu (by omega) (zfu (by omega))
  unfold f_X7_inDrawer
  rw [show f_X7_inDrawer_4 zFu R v 0 0 = _ from h]
  rfl
theorem q_count {s : zs} {R : zr} (h : zInv s R) (x1 : Int32) : ∃ v s', f_X6_count s x1 = some (v, s') ∧ f_X7_count R x1 = some v ∧ zInv s' R := by
  have h0 := h
  obtain ⟨⟨r, hc⟩, ⟨-, n, hn, t1, t2, -⟩, m, hm, u1, u2, -⟩ := h
  have hV := hc.V
  have hB := hc.B
  have ef : ∀ v, f_X4_filedIn s 74 v = some (nI (iD r v)) := c_filedIn hV hB (fun f hf => hc.D hf)
  have er : ∀ v, f_X7_inDrawer R v = some (nI (iD r v)) := r_inDrawer hc.R hV
  have k0 : s.1 (sB 74) 9 = R 1 0 := hB.n.trans (hc.R 0 (by decide)).symm
  have k1 : s.1 (sB 74) 10 = R 1 1 := hB.c.trans (hc.R 1 (by decide)).symm
  have k2 : s.1 (sB 74) 11 = R 1 2 := hB.f.trans (hc.R 2 (by decide)).symm
  have k3 : s.1 74 2 = R 1 3 := hc.f2.trans (hc.R 3 (by decide)).symm
  have k5 : s.1 74 5 = R 1 4 := hc.f5.trans (hc.R 4 (by decide)).symm
  have k8 : s.1 74 7 = R 1 8 := hc.f7.trans (hc.R 8 (by decide)).symm
  have k4 : f_X4_weekday s 74 = f_X7_weekday R := by
    unfold f_X4_weekday f_X7_weekday
    rw [k3]
  rcases n_cs x1 with hx | ⟨a, ha, rfl⟩
  · have hne : ∀ c : Int32, ¬ c < 0 → ¬ x1 = c := fun c hc q => hc (by rw [← q]; exact hx)
    have hi : f_X7_isIn x1 11 15 = false := isIn_neg hx (a := 11) (by decide) 15
    refine ⟨-1000001, s, ?_, ?_, h0⟩
    · simp only [f_X6_count, hne 0 (by decide), hne 1 (by decide), hne 2 (by decide), hne 3 (by decide), hne 4 (by decide), hne 5 (by decide), hne 6 (by decide), hne 7 (by decide), hne 8 (by decide), hne 9 (by decide), hne 10 (by decide), hne 11 (by decide), hne 12 (by decide), hne 13 (by decide), hne 14 (by decide), hne 15 (by decide), if_false]
    · simp only [f_X7_count, hne 0 (by decide), hne 1 (by decide), hne 2 (by decide), hne 3 (by decide), hne 4 (by decide), hne 5 (by decide), hne 6 (by decide), hne 7 (by decide), hne 8 (by decide), hne 9 (by decide), hne 10 (by decide), hi, if_false, Bool.false_eq_true]
  · by_cases h16 : a < 16
    · rcases (show a = 0 ∨ a = 1 ∨ a = 2 ∨ a = 3 ∨ a = 4 ∨ a = 5 ∨ a = 6 ∨ a = 7 ∨ a = 8 ∨ a = 9 ∨ a = 10 ∨ a = 11 ∨ a = 12 ∨ a = 13 ∨ a = 14 ∨ a = 15 by omega) with rfl | rfl | rfl | rfl | rfl | rfl | rfl | rfl | rfl | rfl | rfl | rfl | rfl | rfl | rfl | rfl
      · refine ⟨R 1 0, s, ?_, rfl, h0⟩
        rw [← k0]
        rfl
      · refine ⟨R 1 1, s, ?_, rfl, h0⟩
        rw [← k1]
        rfl
      · refine ⟨R 1 2, s, ?_, rfl, h0⟩
        rw [← k2]
        rfl
      · refine ⟨R 1 3, s, ?_, rfl, h0⟩
        rw [← k3]
        rfl
      · refine ⟨f_X7_weekday R, s, ?_, rfl, h0⟩
        rw [← k4]
        rfl
      · refine ⟨R 1 4, s, ?_, rfl, h0⟩
        rw [← k5]
        rfl
      · refine ⟨nI (ct 16 (bt (tN' r))), s, ?_, ?_, h0⟩
        · show Option.bind (f_X4_touchedNow s 74) (fun v17 => some (f_J6_bitCount_0f7a4 v17, s)) = _
          rw [c_touchedNow hc, Option.bind_some, bc_ct (tN_to hV)]
        · show Option.bind (f_X7_touchedNow R) (fun v12 => Option.bind (f_X7_ones v12) fun v13 => some v13) = _
          rw [r_touchedNow hc.R hV, Option.bind_some, r_ones]
          rfl
      · obtain ⟨y, y1, y2, y3, -⟩ := c_suppose hc.I hV (Nat.le_refl 10)
        have hcy := hc.go y2.m (zKr.rfl' R)
        obtain ⟨z, z1, z2, z3, -⟩ := c_probe' (hc.I.go y2) hV (Nat.le_refl 10) y3 (tN' r)
        refine ⟨nI (ct 16 (bt (rc r 10 (tN' r)))), z, ?_, ?_, h0.go (y2.tr z2).m (zKr.rfl' R)⟩
        · show Option.bind (f_X6_reachedNow s) (fun v18 => some (v18.1, v18.2)) = _
          unfold f_X6_reachedNow
          rw [show f_X2_suppose s 10 = _ from y1, Option.bind_some, show f_X4_touchedNow (87 + 3 * 10, y).2 74 = _ from c_touchedNow hcy, Option.bind_some, show f_X5_probe (87 + 3 * 10, y).2 (87 + 3 * 10, y).1 (tN' r) = some z from z1, Option.bind_some]
          rw [show z.1 (87 + 3 * 10, y).1 6 = _ from z3.2, bc_ct (rc_to hV 10 (tN_to hV))]
          rfl
        · show Option.bind (f_X7_touchedNow R) (fun v14 => Option.bind (f_X7_reachedBy R (-1) v14) fun v15 => Option.bind (f_X7_ones v15) fun v16 => some v16) = _
          rw [r_touchedNow hc.R hV, Option.bind_some, show f_X7_reachedBy R (-1) (tN' r) = _ from r_reachedBy hc.R hV (i := 10) (Or.inr rfl) (tN' r), Option.bind_some, r_ones]
          rfl
      · refine ⟨R 1 8, s, ?_, rfl, h0⟩
        rw [← k8]
        rfl
      · refine ⟨R 0 3, s, ?_, rfl, h0⟩
        rw [t2, ← t1]
        rfl
      · refine ⟨R 0 7, s, ?_, rfl, h0⟩
        rw [u2, ← u1]
        rfl
      · refine ⟨nI (iD r (nI 11 - 11)), s, ?_, ?_, h0⟩
        · show Option.bind (f_X4_filedIn s 74 (nI 11 - 11)) (fun v => some (v, s)) = _
          rw [ef]
          rfl
        · show Option.bind (f_X7_inDrawer R (nI 11 - 11)) (fun v => some v) = _
          rw [er]
          rfl
      · refine ⟨nI (iD r (nI 12 - 11)), s, ?_, ?_, h0⟩
        · show Option.bind (f_X4_filedIn s 74 (nI 12 - 11)) (fun v => some (v, s)) = _
          rw [ef]
          rfl
        · show Option.bind (f_X7_inDrawer R (nI 12 - 11)) (fun v => some v) = _
          rw [er]
          rfl
      · refine ⟨nI (iD r (nI 13 - 11)), s, ?_, ?_, h0⟩
        · show Option.bind (f_X4_filedIn s 74 (nI 13 - 11)) (fun v => some (v, s)) = _
          rw [ef]
          rfl
        · show Option.bind (f_X7_inDrawer R (nI 13 - 11)) (fun v => some v) = _
          rw [er]
          rfl
      · refine ⟨nI (iD r (nI 14 - 11)), s, ?_, ?_, h0⟩
        · show Option.bind (f_X4_filedIn s 74 (nI 14 - 11)) (fun v => some (v, s)) = _
          rw [ef]
          rfl
        · show Option.bind (f_X7_inDrawer R (nI 14 - 11)) (fun v => some v) = _
          rw [er]
          rfl
      · refine ⟨nI (iD r (nI 15 - 11)), s, ?_, ?_, h0⟩
        · show Option.bind (f_X4_filedIn s 74 (nI 15 - 11)) (fun v => some (v, s)) = _
          rw [ef]
          rfl
        · show Option.bind (f_X7_inDrawer R (nI 15 - 11)) (fun v => some v) = _
          rw [er]
          rfl
    · have hne : ∀ c, c < 16 → ¬ nI a = nI c := fun c hc q => by have := (nI_eq ha (by omega)).mp q; omega
      have hi : f_X7_isIn (nI a) 11 15 = false := by
        have e : f_X7_isIn (nI a) 11 15 = _ := isIn_n (a := 11) (b := 15) ha (by decide) (by decide)
        rw [e, decide_eq_false (show ¬ a ≤ 15 by omega), Bool.and_false]
      refine ⟨-1000001, s, ?_, ?_, h0⟩
      · simp only [f_X6_count, show ¬ nI a = 0 from hne 0 (by decide), show ¬ nI a = 1 from hne 1 (by decide), show ¬ nI a = 2 from hne 2 (by decide), show ¬ nI a = 3 from hne 3 (by decide), show ¬ nI a = 4 from hne 4 (by decide), show ¬ nI a = 5 from hne 5 (by decide), show ¬ nI a = 6 from hne 6 (by decide), show ¬ nI a = 7 from hne 7 (by decide), show ¬ nI a = 8 from hne 8 (by decide), show ¬ nI a = 9 from hne 9 (by decide), show ¬ nI a = 10 from hne 10 (by decide), show ¬ nI a = 11 from hne 11 (by decide), show ¬ nI a = 12 from hne 12 (by decide), show ¬ nI a = 13 from hne 13 (by decide), show ¬ nI a = 14 from hne 14 (by decide), show ¬ nI a = 15 from hne 15 (by decide), if_false]
      · simp only [f_X7_count, show ¬ nI a = 0 from hne 0 (by decide), show ¬ nI a = 1 from hne 1 (by decide), show ¬ nI a = 2 from hne 2 (by decide), show ¬ nI a = 3 from hne 3 (by decide), show ¬ nI a = 4 from hne 4 (by decide), show ¬ nI a = 5 from hne 5 (by decide), show ¬ nI a = 6 from hne 6 (by decide), show ¬ nI a = 7 from hne 7 (by decide), show ¬ nI a = 8 from hne 8 (by decide), show ¬ nI a = 9 from hne 9 (by decide), show ¬ nI a = 10 from hne 10 (by decide), hi, if_false, Bool.false_eq_true]
/-! the share -/
theorem ct_not (n : Nat) (p : Nat → Bool) : ct n p + ct n (fun i => !(p i)) = n := by
  induction n with
  | zero => rfl
  | succ n ih =>
    show (ct n p + if p n = true then 1 else 0) + (ct n (fun i => !(p i)) + if (!(p n)) = true then 1 else 0) = n + 1
    cases p n
    · rw [if_neg (show ¬ false = true by decide), if_pos (show (!false) = true from rfl)]
      omega
    · rw [if_pos (show true = true from rfl), if_neg (show ¬ (!true) = true by decide)]
      omega
theorem ct_tail {n m : Nat} {q : Nat → Bool} (h : ∀ i, n ≤ i → i < n + m → q i = false) : ct (n + m) q = ct n q := by
  rw [ct_add]
  have : ct m (fun i => q (n + i)) = ct m (fun _ => false) := ct_cg (fun i hi => h _ (by omega) (by omega))
  have h0 : ∀ m, ct m (fun _ => false) = 0 := by
    intro m
    induction m with
    | zero => rfl
    | succ m ih =>
      unfold ct
      rw [ih]
      rfl
  rw [this, h0]
  rfl
theorem b_m1025 : ∀ k, k < 32 → bt (-1025) k = !decide (k = 10) := by decide +kernel
