/-! THE VIEW is told by the row alone. -/
section ZVIEW
variable {R R2 : zr} {r : zrow}
theorem count_cg (hR : zRr R r) (hR2 : zRr R2 r) (hV : zVr r) {k : Nat} (hk : k < 16) (h9 : k ≠ 9) (h10 : k ≠ 10) : f_X7_count R (nI k) = f_X7_count R2 (nI k) := by
  rcases (show k = 0 ∨ k = 1 ∨ k = 2 ∨ k = 3 ∨ k = 4 ∨ k = 5 ∨ k = 6 ∨ k = 7 ∨ k = 8 ∨ k = 11 ∨ k = 12 ∨ k = 13 ∨ k = 14 ∨ k = 15 by omega) with rfl | rfl | rfl | rfl | rfl | rfl | rfl | rfl | rfl | rfl | rfl | rfl | rfl | rfl
  · show some (R 1 0) = some (R2 1 0)
    rw [hR 0 (by decide), hR2 0 (by decide)]
  · show some (R 1 1) = some (R2 1 1)
    rw [hR 1 (by decide), hR2 1 (by decide)]
  · show some (R 1 2) = some (R2 1 2)
    rw [hR 2 (by decide), hR2 2 (by decide)]
  · show some (R 1 3) = some (R2 1 3)
    rw [hR 3 (by decide), hR2 3 (by decide)]
  · show some (f_X7_weekday R) = some (f_X7_weekday R2)
    unfold f_X7_weekday
    rw [hR 3 (by decide), hR2 3 (by decide)]
  · show some (R 1 4) = some (R2 1 4)
    rw [hR 4 (by decide), hR2 4 (by decide)]
  · show (Option.bind (f_X7_touchedNow R) fun v12 => Option.bind (f_X7_ones v12) fun v13 => some v13) = Option.bind (f_X7_touchedNow R2) fun v12 => Option.bind (f_X7_ones v12) fun v13 => some v13
    rw [r_touchedNow hR hV, r_touchedNow hR2 hV]
  · show (Option.bind (f_X7_touchedNow R) fun v14 => Option.bind (f_X7_reachedBy R (-1) v14) fun v15 => Option.bind (f_X7_ones v15) fun v16 => some v16) = Option.bind (f_X7_touchedNow R2) fun v14 => Option.bind (f_X7_reachedBy R2 (-1) v14) fun v15 => Option.bind (f_X7_ones v15) fun v16 => some v16
    rw [r_touchedNow hR hV, r_touchedNow hR2 hV, Option.bind_some, Option.bind_some, show f_X7_reachedBy R (-1) (tN' r) = _ from r_reachedBy hR hV (i := 10) (Or.inr rfl) (tN' r), show f_X7_reachedBy R2 (-1) (tN' r) = _ from r_reachedBy hR2 hV (i := 10) (Or.inr rfl) (tN' r)]
  · show some (R 1 8) = some (R2 1 8)
    rw [hR 8 (by decide), hR2 8 (by decide)]
  · show (Option.bind (f_X7_inDrawer R (nI 11 - 11)) fun v => some v) = Option.bind (f_X7_inDrawer R2 (nI 11 - 11)) fun v => some v
    rw [r_inDrawer hR hV, r_inDrawer hR2 hV]
  · show (Option.bind (f_X7_inDrawer R (nI 12 - 11)) fun v => some v) = Option.bind (f_X7_inDrawer R2 (nI 12 - 11)) fun v => some v
    rw [r_inDrawer hR hV, r_inDrawer hR2 hV]
  · show (Option.bind (f_X7_inDrawer R (nI 13 - 11)) fun v => some v) = Option.bind (f_X7_inDrawer R2 (nI 13 - 11)) fun v => some v
    rw [r_inDrawer hR hV, r_inDrawer hR2 hV]
  · show (Option.bind (f_X7_inDrawer R (nI 14 - 11)) fun v => some v) = Option.bind (f_X7_inDrawer R2 (nI 14 - 11)) fun v => some v
    rw [r_inDrawer hR hV, r_inDrawer hR2 hV]
  · show (Option.bind (f_X7_inDrawer R (nI 15 - 11)) fun v => some v) = Option.bind (f_X7_inDrawer R2 (nI 15 - 11)) fun v => some v
    rw [r_inDrawer hR hV, r_inDrawer hR2 hV]
theorem pinOf_cg (hR : zRr R r) (hR2 : zRr R2 r) (hV : zVr r) {p : Nat} (hp : p < 16) (x : Int32) : f_X7_pinOf R (nI p) x = f_X7_pinOf R2 (nI p) x := by
  cases hcc : chOf r p with
  | none =>
    simp only [f_X7_pinOf, r_chipOf hR hV (show p < 32 by omega), r_chipOf hR2 hV (show p < 32 by omega), Option.bind_some, r_netOf hR hV (show p < 32 by omega), r_netOf hR2 hV (show p < 32 by omega), a72, cl_n (show 72 + p < 2 ^ 31 by omega), hR (72 + p) (by omega), hR2 (72 + p) (by omega), r_touchedNow hR hV, r_touchedNow hR2 hV, hcc, zo, if_true]
  | some c =>
    have hcl : c < cC r := fst_lt hcc
    simp only [f_X7_pinOf, r_chipOf hR hV (show p < 32 by omega), r_chipOf hR2 hV (show p < 32 by omega), Option.bind_some, r_netOf hR hV (show p < 32 by omega), r_netOf hR2 hV (show p < 32 by omega), a72, cl_n (show 72 + p < 2 ^ 31 by omega), hR (72 + p) (by omega), hR2 (72 + p) (by omega), r_touchedNow hR hV, r_touchedNow hR2 hV, hcc, show zo (some c) = nI c from rfl, r_roleOf hR hV hcl (show p < 32 by omega), r_roleOf hR2 hV hcl (show p < 32 by omega)]
theorem faultOf_cg (hR : zRr R r) (hR2 : zRr R2 r) {f : Nat} (hf : f < 10) (x : Int32) : f_X7_faultOf R (nI f) x = f_X7_faultOf R2 (nI f) x := by
  simp only [f_X7_faultOf, f_X7_isFault, hR 2 (by decide), hR2 2 (by decide), a32, a42, a52, a62, cl_n (show 32 + f < 2 ^ 31 by omega), cl_n (show 42 + f < 2 ^ 31 by omega), cl_n (show 52 + f < 2 ^ 31 by omega), cl_n (show 62 + f < 2 ^ 31 by omega), hR (32 + f) (by omega), hR (42 + f) (by omega), hR (52 + f) (by omega), hR (62 + f) (by omega), hR2 (32 + f) (by omega), hR2 (42 + f) (by omega), hR2 (52 + f) (by omega), hR2 (62 + f) (by omega)]
theorem vw60 {s s2 : zs} (hI : zInv s R) (hI2 : zInv s2 R2) (hR : zRr R r) (hR2 : zRr R2 r) (hV : zVr r) {p : Nat} (hp : p < 16) : ∀ (m i k : Nat) (x1 : Int64), i + m = 5 → m < k → ∃ e, f_L_view_60 k s (nI p) x1 (nI i) = some e ∧ f_L_view_60 k s2 (nI p) x1 (nI i) = some e
  | 0, i, k + 1, x1, h, _ => by
    have e1 : (5 : Int32) ≤ nI i := nI_le (a := 5) (by omega) (by omega)
    exact ⟨x1, by unfold f_L_view_60; rw [if_pos e1], by unfold f_L_view_60; rw [if_pos e1]⟩
  | m + 1, i, k + 1, x1, h, hk => by
    have e1 : ¬ (5 : Int32) ≤ nI i := nI_ge (b := 5) (by omega) (by decide)
    obtain ⟨v, a1', a2'⟩ := q_pinOf hI (nI p) (nI i)
    obtain ⟨w, b1, b2⟩ := q_pinOf hI2 (nI p) (nI i)
    rw [pinOf_cg hR hR2 hV hp, b2] at a2'
    obtain rfl : w = v := Option.some.inj a2'
    obtain ⟨e, h1, h2⟩ := vw60 hI hI2 hR hR2 hV hp m (i + 1) k ((31 * x1) + w.toInt64) (by omega) (by omega)
    refine ⟨e, ?_, ?_⟩
    · unfold f_L_view_60
      rw [if_neg e1, a1', Option.bind_some, nI_1]
      exact h1
    · unfold f_L_view_60
      rw [if_neg e1, b1, Option.bind_some, nI_1]
      exact h2
theorem vw104 {s s2 : zs} (hI : zInv s R) (hI2 : zInv s2 R2) (hR : zRr R r) (hR2 : zRr R2 r) {p : Nat} (hp : p < 10) : ∀ (m i k : Nat) (x1 : Int64), i + m = 4 → m < k → ∃ e, f_L_view_104 k s (nI p) x1 (nI i) = some e ∧ f_L_view_104 k s2 (nI p) x1 (nI i) = some e
  | 0, i, k + 1, x1, h, _ => by
    have e1 : (4 : Int32) ≤ nI i := nI_le (a := 4) (by omega) (by omega)
    exact ⟨x1, by unfold f_L_view_104; rw [if_pos e1], by unfold f_L_view_104; rw [if_pos e1]⟩
  | m + 1, i, k + 1, x1, h, hk => by
    have e1 : ¬ (4 : Int32) ≤ nI i := nI_ge (b := 4) (by omega) (by decide)
    obtain ⟨v, a1', a2'⟩ := q_faultOf hI (nI p) (nI i)
    obtain ⟨w, b1, b2⟩ := q_faultOf hI2 (nI p) (nI i)
    rw [faultOf_cg hR hR2 hp, b2] at a2'
    obtain rfl : w = v := Option.some.inj a2'
    obtain ⟨e, h1, h2⟩ := vw104 hI hI2 hR hR2 hp m (i + 1) k ((31 * x1) + w.toInt64) (by omega) (by omega)
    refine ⟨e, ?_, ?_⟩
    · unfold f_L_view_104
      rw [if_neg e1, a1', Option.bind_some, nI_1]
      exact h1
    · unfold f_L_view_104
      rw [if_neg e1, b1, Option.bind_some, nI_1]
      exact h2
theorem vw51 {s s2 : zs} (hI : zInv s R) (hI2 : zInv s2 R2) (hR : zRr R r) (hR2 : zRr R2 r) (hV : zVr r) : ∀ (m i k : Nat) (x1 : Int64), i + m = 16 → m < k → ∃ e, f_L_view_51 k s x1 (nI i) = some e ∧ f_L_view_51 k s2 x1 (nI i) = some e
  | 0, i, k + 1, x1, h, _ => by
    have e1 : (16 : Int32) ≤ nI i := nI_le (a := 16) (by omega) (by omega)
    exact ⟨x1, by unfold f_L_view_51; rw [if_pos e1], by unfold f_L_view_51; rw [if_pos e1]⟩
  | m + 1, i, k + 1, x1, h, hk => by
    have e1 : ¬ (16 : Int32) ≤ nI i := nI_ge (b := 16) (by omega) (by decide)
    obtain ⟨w, b1, b2⟩ := vw60 hI hI2 hR hR2 hV (show i < 16 by omega) 5 0 zFu x1 (by omega) (zfu (by omega))
    obtain ⟨e, h1, h2⟩ := vw51 hI hI2 hR hR2 hV m (i + 1) k w (by omega) (by omega)
    refine ⟨e, ?_, ?_⟩
    · unfold f_L_view_51
      rw [if_neg e1, show f_L_view_60 zFu s (nI i) x1 0 = some w from b1, Option.bind_some, nI_1]
      exact h1
    · unfold f_L_view_51
      rw [if_neg e1, show f_L_view_60 zFu s2 (nI i) x1 0 = some w from b2, Option.bind_some, nI_1]
      exact h2
theorem vw95 {s s2 : zs} (hI : zInv s R) (hI2 : zInv s2 R2) (hR : zRr R r) (hR2 : zRr R2 r) : ∀ (m i k : Nat) (x1 : Int64), i + m = 10 → m < k → ∃ e, f_L_view_95 k s x1 (nI i) = some e ∧ f_L_view_95 k s2 x1 (nI i) = some e
  | 0, i, k + 1, x1, h, _ => by
    have e1 : (10 : Int32) ≤ nI i := nI_le (a := 10) (by omega) (by omega)
    exact ⟨x1, by unfold f_L_view_95; rw [if_pos e1], by unfold f_L_view_95; rw [if_pos e1]⟩
  | m + 1, i, k + 1, x1, h, hk => by
    have e1 : ¬ (10 : Int32) ≤ nI i := nI_ge (b := 10) (by omega) (by decide)
    obtain ⟨w, b1, b2⟩ := vw104 hI hI2 hR hR2 (show i < 10 by omega) 4 0 zFu x1 (by omega) (zfu (by omega))
    obtain ⟨e, h1, h2⟩ := vw95 hI hI2 hR hR2 m (i + 1) k w (by omega) (by omega)
    refine ⟨e, ?_, ?_⟩
    · unfold f_L_view_95
      rw [if_neg e1, show f_L_view_104 zFu s (nI i) x1 0 = some w from b1, Option.bind_some, nI_1]
      exact h1
    · unfold f_L_view_95
      rw [if_neg e1, show f_L_view_104 zFu s2 (nI i) x1 0 = some w from b2, Option.bind_some, nI_1]
      exact h2
theorem vw8 (hR : zRr R r) (hR2 : zRr R2 r) (hV : zVr r) : ∀ (m i k : Nat) (s s2 : zs) (x1 : Int64), zInv s R → zInv s2 R2 → i + m = 16 → m < k → ∃ e t t2, f_L_view_8 k s x1 (nI i) = some (t, e) ∧ f_L_view_8 k s2 x1 (nI i) = some (t2, e) ∧ zInv t R ∧ zInv t2 R2
  | 0, i, k + 1, s, s2, x1, hI, hI2, h, _ => by
    have e1 : (16 : Int32) ≤ nI i := nI_le (a := 16) (by omega) (by omega)
    exact ⟨x1, s, s2, by unfold f_L_view_8; rw [if_pos e1], by unfold f_L_view_8; rw [if_pos e1], hI, hI2⟩
  | m + 1, i, k + 1, s, s2, x1, hI, hI2, h, hk => by
    have e1 : ¬ (16 : Int32) ≤ nI i := nI_ge (b := 16) (by omega) (by decide)
    by_cases g9 : i = 9
    · obtain ⟨e, t, t2, h1, h2, h3, h4⟩ := vw8 hR hR2 hV m (i + 1) k s s2 x1 hI hI2 (by omega) (by omega)
      have eq9 : nI i = 9 := by rw [g9]; rfl
      refine ⟨e, t, t2, ?_, ?_, h3, h4⟩
      · unfold f_L_view_8
        rw [if_neg e1, if_pos eq9, nI_1]
        exact h1
      · unfold f_L_view_8
        rw [if_neg e1, if_pos eq9, nI_1]
        exact h2
    · have n9 : ¬ nI i = 9 := fun q => g9 ((nI_eq (b := 9) (by omega) (by decide)).mp q)
      by_cases g10 : i = 10
      · obtain ⟨e, t, t2, h1, h2, h3, h4⟩ := vw8 hR hR2 hV m (i + 1) k s s2 x1 hI hI2 (by omega) (by omega)
        have eq10 : nI i = 10 := by rw [g10]; rfl
        refine ⟨e, t, t2, ?_, ?_, h3, h4⟩
        · unfold f_L_view_8
          rw [if_neg e1, if_neg n9, if_pos eq10, nI_1]
          exact h1
        · unfold f_L_view_8
          rw [if_neg e1, if_neg n9, if_pos eq10, nI_1]
          exact h2
      · have n10 : ¬ nI i = 10 := fun q => g10 ((nI_eq (b := 10) (by omega) (by decide)).mp q)
        obtain ⟨v, t, a1', a2', a3'⟩ := q_count hI (nI i)
        obtain ⟨w, t2, b1, b2, b3⟩ := q_count hI2 (nI i)
        rw [count_cg hR hR2 hV (by omega) g9 g10, b2] at a2'
        obtain rfl : w = v := Option.some.inj a2'
        obtain ⟨e, u, u2, h1, h2, h3, h4⟩ := vw8 hR hR2 hV m (i + 1) k t t2 ((31 * x1) + w.toInt64) a3' b3 (by omega) (by omega)
        refine ⟨e, u, u2, ?_, ?_, h3, h4⟩
        · unfold f_L_view_8
          rw [if_neg e1, if_neg n9, if_neg n10, a1', Option.bind_some, nI_1]
          exact h1
        · unfold f_L_view_8
          rw [if_neg e1, if_neg n9, if_neg n10, b1, Option.bind_some, nI_1]
          exact h2
theorem vw_ {s s2 : zs} (hI : zInv s R) (hI2 : zInv s2 R2) (hR : zRr R r) (hR2 : zRr R2 r) (hV : zVr r) : ∃ e t t2, f_L_view s = some (e, t) ∧ f_L_view s2 = some (e, t2) ∧ zInv t R ∧ zInv t2 R2 := by
  have es : f_X6_suspects s = f_X6_suspects s2 := by
    rw [q_suspects hI, q_suspects hI2]
    show R 1 7 = R2 1 7
    rw [hR 7 (by decide), hR2 7 (by decide)]
  obtain ⟨e, t, t2, a1', a2', a3', a4'⟩ := vw8 hR hR2 hV 16 0 zFu s s2 ((f_X6_suspects s).toInt64) hI hI2 (by omega) (zfu (by omega))
  obtain ⟨e2, b1, b2⟩ := vw51 a3' a4' hR hR2 hV 16 0 zFu e (by omega) (zfu (by omega))
  obtain ⟨e3, c1, c2⟩ := vw95 a3' a4' hR hR2 10 0 zFu e2 (by omega) (zfu (by omega))
  refine ⟨e3, t, t2, ?_, ?_, a3', a4'⟩
  · unfold f_L_view
    rw [show f_L_view_8 zFu s ((f_X6_suspects s).toInt64) 0 = some (t, e) from a1', Option.bind_some]
    show (Option.bind (f_L_view_51 zFu t e 0) fun e2 => Option.bind (f_L_view_95 zFu t e2 0) fun e3 => some (e3, t)) = _
    rw [show f_L_view_51 zFu t e 0 = some e2 from b1, Option.bind_some, show f_L_view_95 zFu t e2 0 = some e3 from c1, Option.bind_some]
  · unfold f_L_view
    rw [← es, show f_L_view_8 zFu s2 ((f_X6_suspects s).toInt64) 0 = some (t2, e) from a2', Option.bind_some]
    show (Option.bind (f_L_view_51 zFu t2 e 0) fun e2 => Option.bind (f_L_view_95 zFu t2 e2 0) fun e3 => some (e3, t2)) = _
    rw [show f_L_view_51 zFu t2 e 0 = some e2 from b2, Option.bind_some, show f_L_view_95 zFu t2 e2 0 = some e3 from c2, Option.bind_some]
end ZVIEW
