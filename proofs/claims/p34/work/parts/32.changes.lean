/-! changes of the state alone -/
theorem zInv.up {s s' : zs} {R R' : zr} {r' : zrow} (h : zInv s R) (e2 : s'.2 = s.2) (e1 : ∀ a, a < 64 → s'.1 a = s.1 a) (f : ∀ a, a ≠ 1 → R' a = R a) (hc : zCu s' R' r') : zInv s' R' := by
  obtain ⟨-, h2, h3⟩ := h
  refine ⟨⟨r', hc⟩, h2.go e2 (fun a ha => e1 a (by omega)) (by rw [f 0 (by decide)]) (f 2 (by decide)), h3.go (by rw [e1 51 (by decide)]) (e1 62 (by decide)) (by rw [f 0 (by decide)]) (f 6 (by decide))⟩
theorem zRr.up {R : zr} {r : zrow} (h : zRr R r) (k : Nat) (v : Int32) : zRr (zm R 1 k v) (upd r k v) := by
  intro j hj
  by_cases g : j = k
  · rw [g, zm_at, upd_at]
  · rw [zm_nk g, upd_ne g]
    exact h j hj
theorem zVr.cg {r r' : zrow} (h : zVr r) (e : ∀ k, (k < 3 ∨ (9 ≤ k ∧ k < 62)) → r' k = r k) (h4 : (r' 3 = nI (dN r') ∧ dN r' ≤ 10000) ∧ (∀ p, 16 ≤ p → bt (r' 5) p = false) ∧ (r' 6 = -1 ∨ ∃ f, f < cF r ∧ r' 6 = nI f) ∧ ∀ k, bt (r' 7) k = true → k < cF r ∨ k = 10) (h5 : ∀ f, cF r ≤ f → f < 10 → r' (62 + f) = -1) (h6 : ∀ d, d < 5 → ct (cF r) (fun f => decide (r' (62 + f) = nI d)) ≤ 3) : zVr r' := by
  have e0 : cN r' = cN r := by unfold cN; rw [e 0 (by omega)]
  have e1 : cC r' = cC r := by unfold cC; rw [e 1 (by omega)]
  have e2 : cF r' = cF r := by unfold cF; rw [e 2 (by omega)]
  have hn := h.n
  have hc := h.c
  have hf := h.f
  refine ⟨⟨?_, ?_, ?_⟩, ?_, ?_, ?_, ?_, ?_, ?_⟩
  · rw [e 0 (by omega), e0]
    exact hn
  · rw [e 1 (by omega), e1]
    exact hc
  · rw [e 2 (by omega), e2]
    exact hf
  · rw [e0]
    intro i hi
    rw [e (9 + i) (by omega)]
    refine ⟨h.net hi, fun j hj => ?_⟩
    rw [e (9 + j) (by omega)]
    exact (h.2.1 i hi).2 j hj
  · rw [e1]
    intro c hcc
    unfold eN xN
    rw [e (17 + c) (by omega), e (22 + c) (by omega), e (27 + c) (by omega)]
    exact h.chip hcc
  · rw [e2, e0, e1]
    intro f hff
    unfold kN oN tN
    rw [e (32 + f) (by omega), e (42 + f) (by omega), e (52 + f) (by omega)]
    exact h.flt hff
  · rw [e2]
    exact h4
  · rw [e2]
    exact h5
  · rw [e2]
    exact h6
theorem nOf_cg {r r' : zrow} (hn : cN r ≤ 8) (e : ∀ k, (k < 3 ∨ (9 ≤ k ∧ k < 62)) → r' k = r k) (p : Nat) : nOf r' p = nOf r p := by
  have e0 : cN r' = cN r := by unfold cN; rw [e 0 (by omega)]
  unfold nOf
  rw [e0]
  exact fst_cg (fun i hi => by rw [e (9 + i) (by omega)])
theorem chOf_cg {r r' : zrow} (hc : cC r ≤ 5) (e : ∀ k, (k < 3 ∨ (9 ≤ k ∧ k < 62)) → r' k = r k) (p : Nat) : chOf r' p = chOf r p := by
  have e0 : cC r' = cC r := by unfold cC; rw [e 1 (by omega)]
  unfold chOf
  rw [e0]
  exact fst_cg (fun i hi => by unfold hasP eN xN; rw [e (17 + i) (by omega), e (22 + i) (by omega), e (27 + i) (by omega)])
theorem zBr.cgr {s : zs} {b : Nat} {r r' : zrow} (h : zBr s b r) (hn : cN r ≤ 8) (hc : cC r ≤ 5) (e : ∀ k, (k < 3 ∨ (9 ≤ k ∧ k < 62)) → r' k = r k) (e7 : ∀ p, p < 16 → s.1 (b + 9) p = r' (72 + p)) : zBr s b r' := by
  refine ⟨⟨?_, ?_, ?_⟩, fun i hi => ?_, fun p hp => ?_, fun c hcc => ?_, fun f hf => ?_, e7, fun p => ?_, fun p => ?_⟩
  · rw [e 0 (by omega)]
    exact h.n
  · rw [e 1 (by omega)]
    exact h.c
  · rw [e 2 (by omega)]
    exact h.f
  · rw [e (9 + i) (by omega)]
    exact h.net hi
  · rw [nOf_cg hn e]
    exact h.of hp
  · rw [e (17 + c) (by omega), e (22 + c) (by omega), e (27 + c) (by omega)]
    exact ⟨h.e hcc, h.x hcc, h.l hcc⟩
  · rw [e (32 + f) (by omega), e (42 + f) (by omega), e (52 + f) (by omega)]
    exact ⟨h.k hf, h.o hf, h.t hf⟩
  · rw [nOf_cg hn e]
    exact h.pn p
  · rw [chOf_cg hc e]
    exact h.pc p
/-- a change of the state's own fields -/
theorem zCu.st {s s' : zs} {R R' : zr} {r r' : zrow} (h : zCu s R r) (hV' : zVr r') (hR' : zRr R' r') (eb : ∀ a, 64 ≤ a → a ≠ 74 → a ≠ 75 → s'.1 a = s.1 a) (er : ∀ k, (k < 3 ∨ (9 ≤ k ∧ k < 62)) → r' k = r k) (e7 : ∀ p, p < 16 → r' (72 + p) = r (72 + p)) (hD : ∀ f, f < 10 → s'.1 75 f = r' (62 + f)) (f2 : s'.1 74 2 = r' 3 ∧ s'.1 74 3 = f_X7_slotOf (r' 6) ∧ s'.1 74 4 = r' 7) (f5 : s'.1 74 5 = r' 4 ∧ s'.1 74 6 = r' 5 ∧ s'.1 74 7 = r' 8) : zCu s' R' r' := by
  refine ⟨hV', hR', ⟨?_, hD, f2, f5⟩, fun i hi => by rw [eb _ (by omega) (by omega) (by omega)]; exact h.2.2.2 i hi⟩
  show zBr s' 64 r'
  refine (h.B.cg (fun a h1 h2 => eb a h1 (by omega) (by omega))).cgr h.V.n.2 h.V.c.2 er (fun p hp => ?_)
  rw [eb _ (by omega) (by omega) (by omega), e7 p hp]
  exact h.B.bl hp
/-- the parts of zVr that the fields make -/
theorem zVr.p4 {r : zrow} (h : zVr r) : (r 3 = nI (dN r) ∧ dN r ≤ 10000) ∧ (∀ p, 16 ≤ p → bt (r 5) p = false) ∧ (r 6 = -1 ∨ ∃ f, f < cF r ∧ r 6 = nI f) ∧ ∀ k, bt (r 7) k = true → k < cF r ∨ k = 10 := h.2.2.2.2.1
theorem zKm.rfl' (s : zs) : zKm s s := (zKu.rfl' s).m
theorem q_vouchers {s : zs} {R : zr} (h : zInv s R) (x1 : Int32) : zPr (f_X6_vouchers s x1) (f_X7_vouchers R x1) := by
  have h0 := h
  obtain ⟨⟨r, hc⟩, -⟩ := h
  have hV := hc.V
  unfold f_X6_vouchers f_X7_vouchers
  rcases n_cs x1 with hx | ⟨m, hm, rfl⟩
  · rw [if_pos hx, show f_X7_isIn x1 0 20 = false from isIn_neg hx (a := 0) (by decide) 20]
    exact ⟨_, _, _, rfl, rfl, h0⟩
  · have e : f_X7_isIn (nI m) 0 20 = _ := isIn_n (a := 0) (b := 20) hm (by decide) (by decide)
    rw [if_neg (nI_pos hm), e]
    by_cases g : m ≤ 20
    · rw [if_pos (show nI m ≤ 20 from nI_le (b := 20) g (by decide)), decide_eq_true g, decide_eq_true (Nat.zero_le m), if_pos (show (true && true) = true from rfl)]
      obtain ⟨v, T, k1, k2, k3, k4, k5, hv⟩ := q_keep h0
      have hcv : zCu v T r := hc.cgs (fun a ha => k3 a (by omega)) (k4 1 (by decide) (by decide))
      refine ⟨r 4, zc v 74 5 (nI m), zm T 1 4 (nI m), ?_, ?_, hv.up (r' := upd r 4 (nI m)) rfl (fun a ha => zc_ne (by omega)) (fun a ha => zm_ne ha) ?_⟩
      · rw [k1, Option.bind_some]
        show some (v.1 74 5, _) = _
        rw [hcv.f5]
      · rw [k2, Option.bind_some]
        show some (T 1 4, _) = _
        rw [hcv.R 4 (by decide)]
      · refine hcv.st ?_ (hcv.R.up 4 _) (fun a h1 h2 h3 => zc_ne h2) (fun k hk => upd_ne (by omega)) (fun p hp => upd_ne (by omega)) (fun f hf => ?_) ⟨hcv.f2, hcv.f3, hcv.f4⟩ ⟨rfl, hcv.f6, hcv.f7⟩
        · exact hV.cg (fun k hk => upd_ne (by omega)) hV.p4 (fun f h1 h2 => by rw [upd_ne (by omega)]; exact hV.drw f h1 h2) (fun d hd => by
            rw [ct_cg (fun f _ => by rw [upd_ne (by omega)])]
            exact hV.fil d hd)
        · rw [zc_ne (by decide), upd_ne (by omega)]
          exact hcv.D hf
    · rw [if_neg (show ¬ nI m ≤ 20 from nI_ge (a := 20) (by omega) hm), decide_eq_false g, Bool.and_false]
      exact ⟨_, _, _, rfl, rfl, h0⟩
theorem q_vouch {s : zs} {R : zr} (h : zInv s R) (x1 : Int32) : zPr (f_X6_vouch s x1) (f_X7_vouch R x1) := by
  have h0 := h
  obtain ⟨⟨r, hc⟩, -⟩ := h
  have hV := hc.V
  unfold f_X6_vouch f_X7_vouch
  rcases g_pin x1 with ⟨p, hp, rfl, g1, g2⟩ | ⟨g1, g2⟩
  · rw [g1, g2, if_pos rfl, if_pos rfl, c_touchedNow hc, r_touchedNow hc.R hV, Option.bind_some, Option.bind_some, h6 _ (show p < 32 by omega), h7 _ (show p < 32 by omega), hc.f5, hc.R 4 (by decide)]
    cases bt (tN' r) p
    · simp only [Bool.false_eq_true, if_false]
      by_cases gz : r 4 = 0
      · rw [if_pos gz, if_pos gz]
        exact ⟨_, _, _, rfl, rfl, h0⟩
      · rw [if_neg gz, if_neg gz]
        obtain ⟨v, T, k1, k2, k3, k4, k5, hv⟩ := q_keep h0
        have hcv : zCu v T r := hc.cgs (fun a ha => k3 a (by omega)) (k4 1 (by decide) (by decide))
        rw [k1, k2, Option.bind_some, Option.bind_some]
        simp only [zlt]
        have c1 : (zc v 74 6 (v.1 74 6 ||| ((1 : Int32) <<< (nI p &&& 31)))).1 74 5 = r 4 := hcv.f5
        have c2 : (zm T 1 5 (T 1 5 ||| ((1 : Int32) <<< (nI p &&& 31)))) 1 4 = r 4 := hcv.R 4 (by decide)
        rw [c1, c2, hcv.f6, hcv.R 5 (by decide)]
        refine ⟨r 4 - 1, _, _, rfl, rfl, hv.up (r' := upd (upd r 5 (r 5 ||| bi p)) 4 (r 4 - 1)) rfl (fun a ha => ?_) (fun a ha => ?_) ?_⟩
        · rw [zc_ne (by omega), zc_ne (by omega)]
        · rw [zm_ne ha, zm_ne ha]
        · refine hcv.st ?_ ((hcv.R.up 5 _).up 4 _) (fun a h1 h2 h3 => by rw [zc_ne h2, zc_ne h2]) (fun k hk => by rw [upd_ne (by omega), upd_ne (by omega)]) (fun p hp => by rw [upd_ne (by omega), upd_ne (by omega)]) (fun f hf => ?_) ⟨hcv.f2, hcv.f3, hcv.f4⟩ ⟨rfl, rfl, hcv.f7⟩
          · refine hV.cg (fun k hk => by rw [upd_ne (by omega), upd_ne (by omega)]) ⟨hV.p4.1, or_to hV.vch (bi_to hp), hV.p4.2.2⟩ (fun f h1 h2 => by rw [upd_ne (by omega), upd_ne (by omega)]; exact hV.drw f h1 h2) (fun d hd => by
              rw [ct_cg (fun f _ => by rw [upd_ne (by omega), upd_ne (by omega)])]
              exact hV.fil d hd)
          · rw [zc_ne (by decide), zc_ne (by decide), upd_ne (by omega), upd_ne (by omega)]
            exact hcv.D hf
    · exact ⟨_, _, _, rfl, rfl, h0⟩
  · rw [g1, g2]
    exact ⟨_, _, _, rfl, rfl, h0⟩
theorem q_pass {s : zs} {R : zr} (h : zInv s R) (x1 : Int32) : zPr (f_X6_pass s x1) (f_X7_pass R x1) := by
  have h0 := h
  obtain ⟨⟨r, hc⟩, -⟩ := h
  have hV := hc.V
  have hd := hV.day
  unfold f_X6_pass f_X7_pass
  rcases n_cs x1 with hx | ⟨m, hm, rfl⟩
  · rw [if_pos (Int32.lt_trans hx (by decide)), show f_X7_isIn x1 1 60 = false from isIn_neg hx (a := 1) (by decide) 60]
    exact ⟨_, _, _, rfl, rfl, h0⟩
  · have e : f_X7_isIn (nI m) 1 60 = _ := isIn_n (a := 1) (b := 60) hm (by decide) (by decide)
    rw [e]
    by_cases g0 : m < 1
    · rw [if_pos (show nI m < 1 from nI_lt (b := 1) g0 (by decide)), decide_eq_false (show ¬ 1 ≤ m by omega), Bool.false_and]
      exact ⟨_, _, _, rfl, rfl, h0⟩
    · rw [if_neg (show ¬ nI m < 1 from nI_nlt (b := 1) (by omega) hm), decide_eq_true (show 1 ≤ m by omega)]
      by_cases g : m ≤ 60
      · have eD : r 3 + nI m = nI (dN r + m) := by rw [hd.1, nI_add]
        rw [if_pos (show nI m ≤ 60 from nI_le (b := 60) g (by decide)), decide_eq_true g, if_pos (show (true && true) = true from rfl), hc.f2, hc.R 3 (by decide), eD]
        by_cases g9 : dN r + m ≤ 10000
        · rw [if_pos (show nI (dN r + m) ≤ 10000 from nI_le (b := 10000) g9 (by decide)), if_pos (show nI (dN r + m) ≤ 10000 from nI_le (b := 10000) g9 (by decide))]
          obtain ⟨v, T, k1, k2, k3, k4, k5, hv⟩ := q_keep h0
          have hcv : zCu v T r := hc.cgs (fun a ha => k3 a (by omega)) (k4 1 (by decide) (by decide))
          rw [k1, k2, Option.bind_some, Option.bind_some]
          simp only [zlt]
          rw [hcv.f2, hcv.R 3 (by decide), eD]
          have hdn : dN (upd (upd r 3 (nI (dN r + m))) 5 0) = dN r + m := nI_clamp (by omega)
          refine ⟨nI ((dN r + m) % 7), zc (zc v 74 2 (nI (dN r + m))) 74 6 0, zm (zm T 1 3 (nI (dN r + m))) 1 5 0, ?_, ?_, hv.up (r' := upd (upd r 3 (nI (dN r + m))) 5 0) rfl (fun a ha => ?_) (fun a ha => ?_) ?_⟩
          · congr 2
            exact wd_n (n := dN r + m) rfl (by omega)
          · congr 2
            exact wd_n (n := dN r + m) rfl (by omega)
          · rw [zc_ne (by omega), zc_ne (by omega)]
          · rw [zm_ne ha, zm_ne ha]
          · refine hcv.st ?_ ((hcv.R.up 3 _).up 5 _) (fun a h1 h2 h3 => by rw [zc_ne h2, zc_ne h2]) (fun k hk => by rw [upd_ne (by omega), upd_ne (by omega)]) (fun p hp => by rw [upd_ne (by omega), upd_ne (by omega)]) (fun f hf => ?_) ⟨rfl, hcv.f3, hcv.f4⟩ ⟨hcv.f5, rfl, hcv.f7⟩
            · refine hV.cg (fun k hk => by rw [upd_ne (by omega), upd_ne (by omega)]) ⟨⟨?_, ?_⟩, fun p _ => b_0 p, hV.p4.2.2⟩ (fun f h1 h2 => by rw [upd_ne (by omega), upd_ne (by omega)]; exact hV.drw f h1 h2) (fun d hd => by
                rw [ct_cg (fun f _ => by rw [upd_ne (by omega), upd_ne (by omega)])]
                exact hV.fil d hd)
              · rw [hdn]
                rfl
              · rw [hdn]
                exact g9
            · rw [zc_ne (by decide), zc_ne (by decide), upd_ne (by omega), upd_ne (by omega)]
              exact hcv.D hf
        · rw [if_neg (show ¬ nI (dN r + m) ≤ 10000 from nI_ge (a := 10000) (by omega) (by omega)), if_neg (show ¬ nI (dN r + m) ≤ 10000 from nI_ge (a := 10000) (by omega) (by omega))]
          exact ⟨_, _, _, rfl, rfl, h0⟩
      · rw [if_neg (show ¬ nI m ≤ 60 from nI_ge (a := 60) (by omega) hm), decide_eq_false g, Bool.and_false]
        exact ⟨_, _, _, rfl, rfl, h0⟩
theorem aS_to {r : zrow} (hV : zVr r) : zTo (aS r) := by
  intro p hp
  have hf := hV.f.2
  rcases Nat.lt_or_ge p 32 with h | h
  · rw [bt_aS hV h]
    unfold isB
    rw [decide_eq_false (by omega), decide_eq_false (by omega)]
    rfl
  · exact b_big h
theorem q_plant {s : zs} {R : zr} (h : zInv s R) (x1 : Int32) : zPr (f_X6_plant s x1) (f_X7_plant R x1) := by
  have h0 := h
  obtain ⟨⟨r, hc⟩, -⟩ := h
  have hV := hc.V
  have hf := hV.f
  unfold f_X6_plant f_X7_plant
  rcases g_faultN hc x1 with ⟨i, hi, rfl, g1, g2, g5⟩ | ⟨g1, g2⟩
  · obtain ⟨v, T, k1, k2, k3, k4, k5, hv⟩ := q_keep h0
    have hcv : zCu v T r := hc.cgs (fun a ha => k3 a (by omega)) (k4 1 (by decide) (by decide))
    rw [g1, g2, if_pos rfl, if_pos rfl, k1, k2, Option.bind_some, Option.bind_some, g5]
    simp only [zlt]
    have ea : f_X0_allSuspects (zc v 74 3 (nI i)) (sB 74) = aS r := c_allSuspects (hcv.B.cg (fun a h1 h2 => zc_ne (by omega))) hV
    have er : (((1 : Int32) <<< (((zm T 1 6 (sI i)) 1 2) &&& 31)) - 1) ||| 1024 = aS r := by
      rw [show (zm T 1 6 (sI i)) 1 2 = nI (cF r) from (hcv.R 2 (by decide)).trans hf.1, or_cm]
      rfl
    rw [ea, er]
    have c1 : (zc (zc v 74 3 (nI i)) 74 4 (aS r)).1 74 4 = aS r := zc_at
    have c2 : (zm (zm T 1 6 (sI i)) 1 7 (aS r)) 1 7 = aS r := zm_at
    rw [c1, c2, bc_ct (aS_to hV), r_ones, Option.bind_some]
    refine ⟨_, _, _, rfl, rfl, hv.up (r' := upd (upd r 6 (sI i)) 7 (aS r)) rfl (fun a ha => ?_) (fun a ha => ?_) ?_⟩
    · rw [zc_ne (by omega), zc_ne (by omega)]
    · rw [zm_ne ha, zm_ne ha]
    · refine hcv.st ?_ ((hcv.R.up 6 _).up 7 _) (fun a h1 h2 h3 => by rw [zc_ne h2, zc_ne h2]) (fun k hk => by rw [upd_ne (by omega), upd_ne (by omega)]) (fun p hp => by rw [upd_ne (by omega), upd_ne (by omega)]) (fun f hf => ?_) ⟨hcv.f2, (slotOf_s (hi.le hV)).symm, rfl⟩ ⟨hcv.f5, hcv.f6, hcv.f7⟩
      · refine hV.cg (fun k hk => by rw [upd_ne (by omega), upd_ne (by omega)]) ⟨hV.p4.1, hV.p4.2.1, ?_, fun k hk => ?_⟩ (fun f h1 h2 => by rw [upd_ne (by omega), upd_ne (by omega)]; exact hV.drw f h1 h2) (fun d hd => by
          rw [ct_cg (fun f _ => by rw [upd_ne (by omega), upd_ne (by omega)])]
          exact hV.fil d hd)
        · show sI i = -1 ∨ ∃ f, f < cF r ∧ sI i = nI f
          by_cases h10 : i = 10
          · exact Or.inl (if_pos h10)
          · rcases hi with h9 | h9
            · exact Or.inr ⟨i, h9, if_neg h10⟩
            · exact absurd h9 h10
        · have hk' : bt (aS r) k = true := hk
          rcases Nat.lt_or_ge k 32 with h | h
          · rw [bt_aS hV h] at hk'
            exact isB_iff.mp hk'
          · rw [b_big h] at hk'
            cases hk'
      · rw [zc_ne (by decide), zc_ne (by decide), upd_ne (by omega), upd_ne (by omega)]
        exact hcv.D hf
  · rw [g1, g2]
    exact ⟨_, _, _, rfl, rfl, h0⟩
theorem c_leftBy {s : zs} {r : zrow} (hI : zIs s r) (hV : zVr r) {t : Int32} (ht : zTo t) {i : Nat} (hi : sOk r i) {S : Int32} (hS : ∀ k, bt S k = true → k < cF r ∨ k = 10) : ∃ s', f_X2_leftBy s t (nI i) S = some (S &&& lS r t i, s') ∧ zKu s s' := by
  have hi10 := hi.le hV
  have hf := hV.f.2
  obtain ⟨y, y1, y2, y3⟩ := c_supposeAll hI hV (S ||| bi i)
  obtain ⟨z, z1, z2, z3⟩ := c_probeAll (hI.go y2) hV y3 t
  have hPi : zPs z i r t := z3 i hi10 (by unfold bi; rw [b_or, b_bit (by omega) (by omega), decide_eq_true rfl, Bool.or_true])
  have hPj : ∀ j, j ≤ 10 → bt S j = true → zPs z j r t := fun j hj hb => z3 j hj (by rw [b_or, hb, Bool.true_or])
  have h := zlp (fun k j => f_X2_probedLike_5 k z (nI i) S (mk j (fun j => bt S j && lk r t i j)) (nI j)) 11 (some (S &&& lS r t i)) (fun k j hj => by
    show f_X2_probedLike_5 (k + 1) z (nI i) S (mk j (fun j => bt S j && lk r t i j)) (nI j) = f_X2_probedLike_5 k z (nI i) S (mk (j + 1) (fun j => bt S j && lk r t i j)) (nI (j + 1))
    have e1 : ¬ (11 : Int32) ≤ nI j := nI_ge hj (by decide)
    simp only [f_X2_probedLike_5, e1, if_false, h6 _ (show j < 32 by omega), zin_n (show i < 11 by omega) (by decide), zin_n (show j < 11 by omega) (by decide), if_true, cl_n (show i < 2 ^ 31 by omega), cl_n (show j < 2 ^ 31 by omega), zlt, a1]
    cases hb : bt S j
    · rw [if_neg (by decide), mk_F (p := fun j => bt S j && lk r t i j) (by show (bt S j && _) = false; rw [hb, Bool.false_and])]
    · rw [if_pos rfl, c_sameOutcome hV ht hPi (hPj j (by omega) hb), Option.bind_some]
      cases hl : lk r t i j
      · rw [if_neg (by decide), mk_F (p := fun j => bt S j && lk r t i j) (by show (_ && lk r t i j) = false; rw [hl, Bool.and_false])]
      · rw [if_pos rfl, mk_T (p := fun j => bt S j && lk r t i j) (by show (bt S j && lk r t i j) = true; rw [hb, hl]; rfl)]) (fun k => by
    show f_X2_probedLike_5 (k + 1) z (nI i) S _ (nI 11) = _
    simp only [f_X2_probedLike_5, show (11 : Int32) ≤ nI 11 from nI_le (Nat.le_refl 11) (by decide), if_true]
    congr 1
    apply b_ext
    intro k hk
    rw [bt_mk (by decide), b_and, bt_lS]
    cases hb : bt S k
    · rw [Bool.false_and, Bool.and_false, Bool.false_and]
    · rw [isB_iff.mpr (hS k hb), Bool.true_and, Bool.true_and]) 11 0 zFu (by omega) (zfu (by omega))
  refine ⟨z, ?_, y2.tr z2⟩
  unfold f_X2_leftBy f_X2_probedLike
  rw [show f_X2_supposeAll s (S ||| ((1 : Int32) <<< (nI i &&& 31))) = some y from y1, Option.bind_some, show f_X2_probeAll y (S ||| ((1 : Int32) <<< (nI i &&& 31))) t = some z from z1, Option.bind_some, show f_X2_probedLike_5 zFu z (nI i) S 0 0 = _ from h]
  rfl
theorem pl_i {r : zrow} (hV : zVr r) : ∃ i, sOk r i ∧ f_X7_slotOf (r 6) = nI i := by
  have hf := hV.f.2
  rcases hV.pl with h | ⟨f, h1, h2⟩
  · exact ⟨10, Or.inr rfl, by rw [h]; rfl⟩
  · refine ⟨f, Or.inl h1, ?_⟩
    rw [h2]
    unfold f_X7_slotOf
    rw [if_neg (m1_ne (by omega))]
theorem q_test {s : zs} {R : zr} (h : zInv s R) : zPr (f_X6_test s) (f_X7_test R) := by
  have h0 := h
  obtain ⟨⟨r, hc⟩, -⟩ := h
  have hV := hc.V
  have hf := hV.f
  unfold f_X6_test f_X7_test
  obtain ⟨v, T, k1, k2, k3, k4, k5, hv⟩ := q_keep h0
  have hcv : zCu v T r := hc.cgs (fun a ha => k3 a (by omega)) (k4 1 (by decide) (by decide))
  obtain ⟨i, hi, hpl⟩ := pl_i hV
  rw [k1, k2, Option.bind_some, Option.bind_some]
  simp only [zlt]
  -- the reference
  obtain ⟨z, z1, z2, z3⟩ := r_measures hcv.R hV (tN_to hV)
  have hz : zKr T z := fun a h4 _ => z2 a h4
  have hRz := hcv.R.go hz
  have hvz : zInv v z := hv.go (zKm.rfl' v) hz
  have hcz : zCu v z r := hcv.go (zKm.rfl' v) hz
  -- the class
  have hc2 : zCu (zc v 74 7 (v.1 74 7 + 1)) (zm z 1 8 (r 8 + 1)) (upd r 8 (r 8 + 1)) := by
    refine hcz.st ?_ (hRz.up 8 _) (fun a h1 h2 h3 => zc_ne h2) (fun k hk => upd_ne (by omega)) (fun p hp => upd_ne (by omega)) (fun f hf => ?_) ⟨hcv.f2, hcv.f3, hcv.f4⟩ ⟨hcv.f5, hcv.f6, ?_⟩
    · exact hV.cg (fun k hk => upd_ne (by omega)) hV.p4 (fun f h1 h2 => by rw [upd_ne (by omega)]; exact hV.drw f h1 h2) (fun d hd => by
        rw [ct_cg (fun f _ => by rw [upd_ne (by omega)])]
        exact hV.fil d hd)
    · rw [zc_ne (by decide), upd_ne (by omega)]
      exact hcv.D hf
    · show v.1 74 7 + 1 = r 8 + 1
      rw [hcv.f7]
  have hI2 : zIs (zc v 74 7 (v.1 74 7 + 1)) r := ⟨hcv.B.cg (fun a h1 h2 => zc_ne (by omega)), fun i hi => by rw [zc_ne (by omega)]; exact hcv.2.2.2 i hi⟩
  have et : f_X4_touchedNow (zc v 74 7 (v.1 74 7 + 1)) 74 = some (tN' r) := by
    have hd := hV.day
    have e : f_X4_weekday (zc v 74 7 (v.1 74 7 + 1)) 74 = nI (dN r % 7) := wd_n (hcv.f2.trans hd.1) (by omega)
    unfold f_X4_touchedNow
    rw [e, show sB 74 = 64 from rfl, c_blessedOn hI2.1 (show dN r % 7 < 32 by omega), Option.bind_some]
    show some (tO r (dN r % 7) ||| v.1 74 6) = _
    rw [hcv.f6]
    rfl
  obtain ⟨y, y1, y2⟩ := c_leftBy hI2 hV (tN_to hV) hi hV.sus
  have ep : (zc v 74 7 (v.1 74 7 + 1)).1 74 3 = nI i := hcv.f3.trans hpl
  have es : (zc v 74 7 (v.1 74 7 + 1)).1 74 4 = r 7 := hcv.f4
  rw [et, Option.bind_some, ep, es, y1, Option.bind_some]
  rw [r_touchedNow hcv.R hV, Option.bind_some, z1, Option.bind_some, show z 1 6 = r 6 from hRz 6 (by decide), hpl, r_likeSet hRz hV z3 hi, Option.bind_some, show z 1 7 = r 7 from hRz 7 (by decide)]
  have c1 : (zc y 74 4 (r 7 &&& lS r (tN' r) i)).1 74 4 = r 7 &&& lS r (tN' r) i := zc_at
  have c2 : (zm z 1 7 (r 7 &&& lS r (tN' r) i)) 1 8 = r 8 := hRz 8 (by decide)
  have c3 : (zm (zm z 1 7 (r 7 &&& lS r (tN' r) i)) 1 8 (r 8 + 1)) 1 7 = r 7 &&& lS r (tN' r) i := by
    rw [zm_nk (by decide), zm_at]
  have hto : zTo (r 7 &&& lS r (tN' r) i) := by
    intro p hp
    rw [b_and, bt_lS, decide_eq_false (by omega), Bool.false_and, Bool.and_false]
  rw [c2, c3, r_ones, Option.bind_some]
  rw [c1, bc_ct hto]
  have hcy := hc2.go y2.m (zKr.rfl' _)
  refine ⟨_, _, _, rfl, rfl, hvz.up (r' := upd (upd r 7 (r 7 &&& lS r (tN' r) i)) 8 (r 8 + 1)) y2.1 (fun a ha => ?_) (fun a ha => ?_) ?_⟩
  · rw [zc_ne (by omega), y2.m.2.1 a (by omega), zc_ne (by omega)]
  · rw [zm_ne ha, zm_ne ha]
  · refine hcy.st ?_ ((hRz.up 7 _).up 8 _) (fun a h1 h2 h3 => zc_ne h2) (fun k hk => by rw [upd_ne (by omega), upd_ne (by omega), upd_ne (by omega)]) (fun p hp => by rw [upd_ne (by omega), upd_ne (by omega), upd_ne (by omega)]) (fun f hf => ?_) ⟨hcy.f2, hcy.f3, rfl⟩ ⟨hcy.f5, hcy.f6, hcy.f7⟩
    · refine hV.cg (fun k hk => by rw [upd_ne (by omega), upd_ne (by omega)]) ⟨hV.p4.1, hV.p4.2.1, hV.p4.2.2.1, fun k hk => ?_⟩ (fun f h1 h2 => by rw [upd_ne (by omega), upd_ne (by omega)]; exact hV.drw f h1 h2) (fun d hd => by
        rw [ct_cg (fun f _ => by rw [upd_ne (by omega), upd_ne (by omega)])]
        exact hV.fil d hd)
      have hk' : bt (r 7 &&& lS r (tN' r) i) k = true := hk
      rw [b_and, Bool.and_eq_true] at hk'
      exact hV.sus k hk'.1
    · rw [zc_ne (by decide), upd_ne (by omega), upd_ne (by omega), hcy.D hf, upd_ne (by omega)]
theorem ct_set {n i : Nat} {q q' : Nat → Bool} (hi : i < n) (h0 : q i = false) (h1 : q' i = true) (h : ∀ j, j ≠ i → q' j = q j) : ct n q' = ct n q + 1 := by
  induction n with
  | zero => omega
  | succ n ih =>
    unfold ct
    by_cases g : i = n
    · subst g
      rw [ct_cg (fun j hj => h j (by omega)), if_pos h1, if_neg (by rw [h0]; decide)]
    · rw [ih (by omega), h n (fun q => g q.symm)]
      omega
theorem q_file {s : zs} {R : zr} (h : zInv s R) (x1 x2 : Int32) : zPr (f_X6_file s x1 x2) (f_X7_file R x1 x2) := by
  have h0 := h
  obtain ⟨⟨r, hc⟩, -⟩ := h
  have hV := hc.V
  have hf := hV.f
  have hB := hc.B
  unfold f_X6_file f_X7_file
  rw [show sB 74 = 64 from rfl, show sD 74 = 75 from rfl]
  rcases g_fault hc x1 with ⟨i, hi, rfl, g1, g2⟩ | ⟨g1, g2⟩
  · rw [g1, g2, if_pos rfl, if_pos rfl]
    rcases n_cs x2 with hx | ⟨m, hm, rfl⟩
    · rw [if_pos hx, show f_X7_isIn x2 0 4 = false from isIn_neg hx (a := 0) (by decide) 4]
      exact ⟨_, _, _, rfl, rfl, h0⟩
    · have e : f_X7_isIn (nI m) 0 4 = _ := isIn_n (a := 0) (b := 4) hm (by decide) (by decide)
      rw [if_neg (nI_pos hm), e]
      by_cases g : m < 5
      · rw [if_pos (show nI m < 5 from nI_lt (b := 5) g (by decide)), decide_eq_true (show m ≤ 4 by omega), decide_eq_true (Nat.zero_le m), if_pos (show (true && true) = true from rfl)]
        simp only [zin_n (show i < 10 by omega) (by decide), if_true, cl_n (show i < 2 ^ 31 by omega), hc.D (show i < 10 by omega), hB.k (show i < 10 by omega), a62, a32, zin_n (show 62 + i < 88 by omega) (by decide), zin_n (show 32 + i < 88 by omega) (by decide), cl_n (show 62 + i < 2 ^ 31 by omega), cl_n (show 32 + i < 2 ^ 31 by omega), hc.R (62 + i) (by omega), hc.R (32 + i) (by omega)]
        by_cases ga : r (62 + i) = -1
        · rw [if_pos ga, if_pos ga]
          by_cases gb : r (32 + i) = nI m
          · rw [if_pos gb, if_pos gb, c_filedIn hV hB (fun f hf => hc.D hf), r_inDrawer hc.R hV, Option.bind_some, Option.bind_some]
            have hle := hV.fil m g
            have hid : iD r (nI m) ≤ 3 := hle
            by_cases g3 : iD r (nI m) = 3
            · rw [if_neg (show ¬ nI (iD r (nI m)) < 3 from nI_nlt (b := 3) (by omega) (by omega)), if_pos (show nI (iD r (nI m)) = 3 by rw [g3]; rfl)]
              exact ⟨_, _, _, rfl, rfl, h0⟩
            · rw [if_pos (show nI (iD r (nI m)) < 3 from nI_lt (b := 3) (by omega) (by omega)), if_neg (show ¬ nI (iD r (nI m)) = 3 from fun q => g3 ((nI_eq (b := 3) (by omega) (by omega)).mp q))]
              obtain ⟨v, T, k1, k2, k3, k4, k5, hv⟩ := q_keep h0
              have hcv : zCu v T r := hc.cgs (fun a ha => k3 a (by omega)) (k4 1 (by decide) (by decide))
              rw [k1, k2, Option.bind_some, Option.bind_some]
              simp only [zlt]
              have hne : ¬ nI m = -1 := m1_ne (by omega)
              have hct : ∀ d, d < 5 → ct (cF r) (fun f => decide (upd r (62 + i) (nI m) (62 + f) = nI d)) ≤ 3 := by
                intro d hd
                by_cases hdm : d = m
                · subst hdm
                  rw [ct_set (q := fun f => decide (r (62 + f) = nI d)) hi (decide_eq_false (by rw [ga]; exact fun q => hne q.symm)) (decide_eq_true upd_at) (fun j hj => by rw [upd_ne (by omega)])]
                  have : iD r (nI d) = ct (cF r) (fun f => decide (r (62 + f) = nI d)) := rfl
                  omega
                · refine Nat.le_trans (ct_mono (fun f _ hq => ?_)) (hV.fil d hd)
                  by_cases hfi : f = i
                  · rw [hfi, upd_at] at hq
                    have := (nI_eq (by omega) (by omega)).mp (of_decide_eq_true hq)
                    omega
                  · rw [upd_ne (by omega)] at hq
                    exact hq
              have hV' : zVr (upd r (62 + i) (nI m)) := by
                refine hV.cg (fun k hk => upd_ne (by omega)) ?_ (fun f h1 h2 => by rw [upd_ne (by omega)]; exact hV.drw f h1 h2) hct
                unfold dN
                rw [upd_ne (show 3 ≠ 62 + i by omega), upd_ne (show 5 ≠ 62 + i by omega), upd_ne (show 6 ≠ 62 + i by omega), upd_ne (show 7 ≠ 62 + i by omega)]
                exact hV.p4
              have hc' : zCu (zc v 75 i (nI m)) (zm T 1 (62 + i) (nI m)) (upd r (62 + i) (nI m)) := by
                refine hcv.st hV' (hcv.R.up _ _) (fun a h1 h2 h3 => zc_ne h3) (fun k hk => upd_ne (by omega)) (fun p hp => upd_ne (by omega)) (fun f hf => ?_) ⟨?_, ?_, ?_⟩ ⟨?_, ?_, ?_⟩
                · by_cases hfi : f = i
                  · rw [hfi, zc_at, upd_at]
                  · rw [zc_nk hfi, upd_ne (by omega)]
                    exact hcv.D hf
                · rw [zc_ne (by decide), upd_ne (by omega)]
                  exact hcv.f2
                · rw [zc_ne (by decide), upd_ne (by omega)]
                  exact hcv.f3
                · rw [zc_ne (by decide), upd_ne (by omega)]
                  exact hcv.f4
                · rw [zc_ne (by decide), upd_ne (by omega)]
                  exact hcv.f5
                · rw [zc_ne (by decide), upd_ne (by omega)]
                  exact hcv.f6
                · rw [zc_ne (by decide), upd_ne (by omega)]
                  exact hcv.f7
              rw [c_filedIn hV' hc'.B (fun f hf => hc'.D hf), r_inDrawer hc'.R hV']
              exact ⟨_, _, _, rfl, rfl, hv.up rfl (fun a ha => zc_ne (by omega)) (fun a ha => zm_ne ha) hc'⟩
          · rw [if_neg gb, if_neg gb]
            exact ⟨_, _, _, rfl, rfl, h0⟩
        · rw [if_neg ga, if_neg ga]
          exact ⟨_, _, _, rfl, rfl, h0⟩
      · rw [if_neg (show ¬ nI m < 5 from nI_nlt (b := 5) (by omega) hm), decide_eq_false (show ¬ m ≤ 4 by omega), Bool.and_false]
        exact ⟨_, _, _, rfl, rfl, h0⟩
  · rw [g1, g2]
    exact ⟨_, _, _, rfl, rfl, h0⟩
theorem q_suspects {s : zs} {R : zr} (h : zInv s R) : f_X6_suspects s = f_X7_suspects R := by
  obtain ⟨⟨r, hc⟩, -⟩ := h
  exact hc.f4.trans (hc.R 7 (by decide)).symm
