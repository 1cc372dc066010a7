/-! chips and faults -/
theorem bi_b {n : Nat} (hn : n < 32) (p : Nat) : bt (bi n) p = decide (p = n) := by
  rcases Nat.lt_or_ge p 32 with h | h
  · exact b_bit hn h
  · rw [b_big h, decide_eq_false (by omega)]
def chS (e x : Nat) (l : Int32) : Int32 := (bi e ||| bi x) ||| l
theorem chS_to {e x : Nat} (he : e < 16) (hx : x < 16) {l : Int32} (hl : zTo l) : zTo (chS e x l) := or_to (or_to (bi_to he) (bi_to hx)) hl
theorem b_checkChip {s : zs} {b : Nat} {R : zr} {r : zrow} (hB : zBr s b r) (hR : zRr R r) (hV : zVr r) (x1 x2 x3 : Int32) : f_X7_checksChip R x1 x2 x3 = some (f_X0_refusalOfChip s b x1 x2 x3) ∧ (f_X0_refusalOfChip s b x1 x2 x3 = 0 → ∃ e x, e < 16 ∧ x < 16 ∧ x1 = nI e ∧ x2 = nI x ∧ zTo x3 ∧ (∀ p, bt (chS e x x3) p = true → chOf r p = none) ∧ cC r < 5) := by
  have hn := hV.c
  have e0 : R 1 1 = nI (cC r) := (hR 1 (by decide)).trans hn.1
  unfold f_X7_checksChip f_X0_refusalOfChip
  rcases g_pin x1 with ⟨e, he, rfl, g1, g2⟩ | ⟨g1, g2⟩
  · rcases g_pin x2 with ⟨x, hx, rfl, g3, g4⟩ | ⟨g3, g4⟩
    · rw [g1, g2, g3, g4, if_pos rfl, if_pos rfl, if_pos rfl, if_pos rfl]
      by_cases gex : nI e = nI x
      · rw [if_pos gex, if_pos gex]
        exact ⟨rfl, fun q => absurd q (by decide)⟩
      · rw [if_neg gex, if_neg gex]
        rcases g_set16 x3 with ⟨hl, g5, g6⟩ | ⟨g5, g6⟩
        · have hct := ct_le 16 (bt x3)
          rw [if_pos g5, g6, if_pos rfl, bc_ct hl, r_ones, Option.bind_some]
          by_cases h5 : (5 : Int32) < nI (ct 16 (bt x3))
          · rw [if_pos h5, if_pos h5]
            exact ⟨rfl, fun q => absurd q (by decide)⟩
          · rw [if_neg h5, if_neg h5, h6 _ (show e < 32 by omega), h6 _ (show x < 32 by omega), h7 _ (show e < 32 by omega), h7 _ (show x < 32 by omega)]
            cases bt x3 e
            · cases bt x3 x
              · simp only [Bool.false_eq_true, if_false, zlt]
                have ey : (x3 ||| ((1 : Int32) <<< (nI e &&& 31))) ||| ((1 : Int32) <<< (nI x &&& 31)) = chS e x x3 := by
                  show (x3 ||| bi e) ||| bi x = (bi e ||| bi x) ||| x3
                  rw [or_as, or_cm]
                have ey2 : (((1 : Int32) <<< (nI e &&& 31)) ||| ((1 : Int32) <<< (nI x &&& 31))) ||| x3 = chS e x x3 := rfl
                rw [ey, ey2]
                have h := zlq (fun k p => f_X7_checksChip_79 k R (chS e x x3) (nI p)) (fun p => bt (chS e x x3) p && (chOf r p).isSome) (fun _ => some (Sum.inr (-1000002))) (some (Sum.inl ())) 16 (fun k p hp _ hq => by
                  show f_X7_checksChip_79 (k + 1) R (chS e x x3) (nI p) = _
                  have e1 : ¬ (16 : Int32) ≤ nI p := nI_ge hp (by decide)
                  simp only [f_X7_checksChip_79, e1, if_false, h7 _ (show p < 32 by omega), r_chipOf hR hV (show p < 32 by omega), Option.bind_some, a1]
                  cases hb : bt (chS e x x3) p
                  · rw [if_neg (by decide)]
                  · rw [hb, Bool.true_and] at hq
                    cases hno : chOf r p with
                    | none => rfl
                    | some m =>
                      rw [hno] at hq
                      cases hq) (fun k p hp _ hq => by
                  show f_X7_checksChip_79 (k + 1) R (chS e x x3) (nI p) = _
                  have e1 : ¬ (16 : Int32) ≤ nI p := nI_ge hp (by decide)
                  rw [Bool.and_eq_true] at hq
                  simp only [f_X7_checksChip_79, e1, if_false, h7 _ (show p < 32 by omega), r_chipOf hR hV (show p < 32 by omega), Option.bind_some, hq.1, if_true]
                  cases hno : chOf r p with
                  | none =>
                    rw [hno] at hq
                    exact absurd hq.2 (by decide)
                  | some m =>
                    have := fst_lt hno
                    show (if nI m = -1 then _ else _) = _
                    rw [if_neg (m1_ne (by omega))]) (fun k => by
                  show f_X7_checksChip_79 (k + 1) R (chS e x x3) (nI 16) = _
                  simp only [f_X7_checksChip_79, show (16 : Int32) ≤ nI 16 from nI_le (Nat.le_refl 16) (by decide), if_true]) 16 0 zFu (by omega) (zfu (by omega)) (fun j hj => absurd hj (Nat.not_lt_zero j))
                have hto := chS_to he hx hl
                have ha := and_none hto hB.pc
                rw [show f_X7_checksChip_79 zFu R (chS e x x3) 0 = _ from h, hB.c, hn.1, e0]
                cases hf : fst 16 (fun p => bt (chS e x x3) p && (chOf r p).isSome) with
                | none =>
                  rw [if_pos (ha.mpr hf)]
                  simp only [Option.bind_some]
                  by_cases h8 : cC r = 5
                  · rw [if_pos (show nI (cC r) = 5 by rw [h8]; rfl), if_neg (show ¬ nI (cC r) < 5 from nI_nlt (b := 5) (by omega) (by omega))]
                    exact ⟨rfl, fun q => absurd q (by decide)⟩
                  · rw [if_neg (show ¬ nI (cC r) = 5 from fun q => h8 ((nI_eq (b := 5) (by omega) (by omega)).mp q)), if_pos (show nI (cC r) < 5 from nI_lt (b := 5) (by omega) (by omega))]
                    refine ⟨rfl, fun _ => ⟨e, x, he, hx, rfl, rfl, hl, fun p hq => ?_, by omega⟩⟩
                    have hp : p < 16 := by
                      rcases Nat.lt_or_ge p 16 with h9 | h9
                      · exact h9
                      · rw [hto p h9] at hq
                        cases hq
                    have h9 := fst_none.mp hf p hp
                    rw [hq, Bool.true_and] at h9
                    cases hno : chOf r p with
                    | none => rfl
                    | some m =>
                      rw [hno] at h9
                      cases h9
                | some p =>
                  rw [if_neg (show ¬ chS e x x3 &&& s.1 b 13 = 0 from fun q => by rw [ha.mp q] at hf; cases hf)]
                  exact ⟨rfl, fun q => absurd q (by decide)⟩
              · exact ⟨rfl, fun q => absurd (show (-1000001 : Int32) = 0 from q) (by decide)⟩
            · exact ⟨rfl, fun q => absurd (show (-1000001 : Int32) = 0 from q) (by decide)⟩
        · rw [if_neg g5, g6, if_neg (by decide)]
          exact ⟨rfl, fun q => absurd q (by decide)⟩
    · rw [g1, g2, g3, g4]
      exact ⟨rfl, fun q => absurd (show (-1000001 : Int32) = 0 from q) (by decide)⟩
  · rw [g1, g2]
    exact ⟨rfl, fun q => absurd (show (-1000001 : Int32) = 0 from q) (by decide)⟩
def rChip (r : zrow) (e x : Nat) (l : Int32) : zrow := upd (upd (upd (upd r (17 + cC r) (nI e)) (22 + cC r) (nI x)) (27 + cC r) l) 1 (nI (cC r + 1))
theorem rChip_k {r : zrow} {e x : Nat} {l : Int32} {k : Nat} (h0 : k ≠ 1) (h1 : k ≠ 17 + cC r) (h2 : k ≠ 22 + cC r) (h3 : k ≠ 27 + cC r) : rChip r e x l k = r k := by
  unfold rChip
  rw [upd_ne h0, upd_ne h3, upd_ne h2, upd_ne h1]
theorem rChip_n {r : zrow} {e x : Nat} {l : Int32} (h : cC r < 5) : cC (rChip r e x l) = cC r + 1 := nI_clamp (n := cC r + 1) (by omega)
theorem rChip_e {r : zrow} {e x : Nat} {l : Int32} : rChip r e x l (17 + cC r) = nI e := by
  unfold rChip
  rw [upd_ne (by omega), upd_ne (by omega), upd_ne (by omega), upd_at]
theorem rChip_x {r : zrow} {e x : Nat} {l : Int32} : rChip r e x l (22 + cC r) = nI x := by
  unfold rChip
  rw [upd_ne (by omega), upd_ne (by omega), upd_at]
theorem rChip_l {r : zrow} {e x : Nat} {l : Int32} : rChip r e x l (27 + cC r) = l := by
  unfold rChip
  rw [upd_ne (by omega), upd_at]
theorem rChip_V {r : zrow} {e x : Nat} {l : Int32} (hV : zVr r) (he : e < 16) (hx : x < 16) (hl : zTo l) (h8 : cC r < 5) : zVr (rChip r e x l) := by
  have hn := hV.n
  have hc := hV.c
  have hf := hV.f
  have k0 := rChip_n (r := r) (e := e) (x := x) (l := l) h8
  have ek : ∀ k, k ≠ 1 → k ≠ 17 + cC r → k ≠ 22 + cC r → k ≠ 27 + cC r → rChip r e x l k = r k := fun k h0 h1 h2 h3 => rChip_k h0 h1 h2 h3
  have k1 : cN (rChip r e x l) = cN r := by unfold cN; rw [ek 0 (by omega) (by omega) (by omega) (by omega)]
  have k2 : cF (rChip r e x l) = cF r := by unfold cF; rw [ek 2 (by omega) (by omega) (by omega) (by omega)]
  refine ⟨⟨?_, ⟨?_, ?_⟩, ?_⟩, ?_, ?_, ?_, ?_, ?_, ?_⟩
  · rw [k1, ek 0 (by omega) (by omega) (by omega) (by omega)]
    exact hn
  · rw [k0]
    rfl
  · omega
  · rw [k2, ek 2 (by omega) (by omega) (by omega) (by omega)]
    exact hf
  · rw [k1]
    intro i hi
    rw [ek (9 + i) (by omega) (by omega) (by omega) (by omega)]
    refine ⟨hV.net hi, fun j hj => ?_⟩
    rw [ek (9 + j) (by omega) (by omega) (by omega) (by omega)]
    exact (hV.2.1 i hi).2 j hj
  · rw [k0]
    intro c hcc
    unfold eN xN
    by_cases g : c = cC r
    · rw [g, rChip_e, rChip_x, rChip_l, cl_n (show e < 2 ^ 31 by omega), cl_n (show x < 2 ^ 31 by omega)]
      exact ⟨⟨rfl, he⟩, ⟨rfl, hx⟩, hl⟩
    · rw [ek (17 + c) (by omega) (by omega) (by omega) (by omega), ek (22 + c) (by omega) (by omega) (by omega) (by omega), ek (27 + c) (by omega) (by omega) (by omega) (by omega)]
      exact hV.chip (by omega)
  · rw [k0, k1, k2]
    intro f hff
    unfold kN oN tN
    rw [ek (32 + f) (by omega) (by omega) (by omega) (by omega), ek (42 + f) (by omega) (by omega) (by omega) (by omega), ek (52 + f) (by omega) (by omega) (by omega) (by omega)]
    obtain ⟨a1, a2, a3, a4, a5, a6⟩ := hV.flt hff
    exact ⟨a1, a2, a3, fun g => Nat.lt_succ_of_lt (a4 g), a5, a6⟩
  · rw [k2]
    unfold dN
    rw [ek 3 (by omega) (by omega) (by omega) (by omega), ek 5 (by omega) (by omega) (by omega) (by omega), ek 6 (by omega) (by omega) (by omega) (by omega), ek 7 (by omega) (by omega) (by omega) (by omega)]
    exact hV.p4
  · rw [k2]
    intro f h1 h2
    rw [ek (62 + f) (by omega) (by omega) (by omega) (by omega)]
    exact hV.drw f h1 h2
  · rw [k2]
    intro d hd
    rw [ct_cg (fun f hff => by rw [ek (62 + f) (by omega) (by omega) (by omega) (by omega)])]
    exact hV.fil d hd
theorem rChip_nOf {r : zrow} {e x : Nat} {l : Int32} (hn : cN r ≤ 8) (h8 : cC r < 5) (p : Nat) : nOf (rChip r e x l) p = nOf r p := by
  unfold nOf
  have k1 : cN (rChip r e x l) = cN r := by unfold cN; rw [rChip_k (by omega) (by omega) (by omega) (by omega)]
  rw [k1]
  exact fst_cg (fun i hi => by rw [rChip_k (by omega) (by omega) (by omega) (by omega)])
theorem rChip_chOf {r : zrow} {e x : Nat} {l : Int32} (he : e < 16) (hx : x < 16) (hd : ∀ p, bt (chS e x l) p = true → chOf r p = none) (h8 : cC r < 5) (p : Nat) : chOf (rChip r e x l) p = if bt (chS e x l) p = true then some (cC r) else chOf r p := by
  unfold chOf
  rw [rChip_n h8]
  have e1 : fst (cC r) (fun c => hasP (rChip r e x l) c p) = fst (cC r) (fun c => hasP r c p) := fst_cg (fun i hi => by unfold hasP eN xN; rw [rChip_k (by omega) (by omega) (by omega) (by omega), rChip_k (by omega) (by omega) (by omega) (by omega), rChip_k (by omega) (by omega) (by omega) (by omega)])
  have en : hasP (rChip r e x l) (cC r) p = bt (chS e x l) p := by
    unfold hasP eN xN chS
    rw [rChip_e, rChip_x, rChip_l, cl_n (show e < 2 ^ 31 by omega), cl_n (show x < 2 ^ 31 by omega), b_or, b_or, bi_b (by omega), bi_b (by omega)]
    congr 1
    congr 1
    · rw [Bool.eq_iff_iff, decide_eq_true_eq, decide_eq_true_eq]
      exact eq_comm
    · rw [Bool.eq_iff_iff, decide_eq_true_eq, decide_eq_true_eq]
      exact eq_comm
  cases hb : bt (chS e x l) p
  · rw [fst_F (by rw [en]; exact hb), e1, if_neg (by decide)]
  · rw [fst_T (by rw [e1]; exact hd p hb) (by rw [en]; exact hb), if_pos rfl]
theorem b_addChip {s : zs} {b : Nat} {R : zr} {r : zrow} (hB : zBr s b r) (hR : zRr R r) (hV : zVr r) {e x : Nat} {l : Int32} (he : e < 16) (hx : x < 16) (hl : zTo l) (hd : ∀ p, bt (chS e x l) p = true → chOf r p = none) (h8 : cC r < 5) : ∃ s' R', f_X0_addChip s b (nI e) (nI x) l = some (nI (cC r), s') ∧ f_X7_addsChip R (nI e) (nI x) l = some (nI (cC r), R') ∧ zStp s s' b R R' r (rChip r e x l) := by
  have hn := hV.c
  have e0 : R 1 1 = nI (cC r) := (hR 1 (by decide)).trans hn.1
  have es : s.1 b 10 = nI (cC r) := hB.c.trans hn.1
  have ep : nI (cC r + 1) - 1 = nI (cC r) := nI_pred _
  have hno := rChip_nOf (r := r) (e := e) (x := x) (l := l) hV.n.2 h8
  have hch := rChip_chOf (r := r) (l := l) he hx hd h8
  have c1 : (zc s (b + 3) (cC r) (nI e)).1 b 10 = nI (cC r) := by rw [zc_ne (by omega)]; exact es
  have c2 : (zc (zc s (b + 3) (cC r) (nI e)) (b + 4) (cC r) (nI x)).1 b 10 = nI (cC r) := by rw [zc_ne (by omega)]; exact c1
  have c3 : (zc (zc (zc s (b + 3) (cC r) (nI e)) (b + 4) (cC r) (nI x)) (b + 5) (cC r) l).1 b 13 = s.1 b 13 := by rw [zc_ne (by omega), zc_ne (by omega), zc_ne (by omega)]
  have c4 : (zc (zc (zc (zc s (b + 3) (cC r) (nI e)) (b + 4) (cC r) (nI x)) (b + 5) (cC r) l) b 13 (s.1 b 13 ||| chS e x l)).1 b 10 = nI (cC r) := by rw [zc_nk (by decide), zc_ne (by omega)]; exact c2
  have c5 : (zc (zc (zc (zc (zc s (b + 3) (cC r) (nI e)) (b + 4) (cC r) (nI x)) (b + 5) (cC r) l) b 13 (s.1 b 13 ||| chS e x l)) b 10 (nI (cC r + 1))).1 b 10 = nI (cC r + 1) := zc_at
  have ey2 : (((1 : Int32) <<< (nI e &&& 31)) ||| ((1 : Int32) <<< (nI x &&& 31))) ||| l = chS e x l := rfl
  have r4 : (zm (zm (zm R 1 (17 + cC r) (nI e)) 1 (22 + cC r) (nI x)) 1 (27 + cC r) l) 1 1 = nI (cC r) := by rw [zm_nk (by omega), zm_nk (by omega), zm_nk (by omega)]; exact e0
  refine ⟨zc (zc (zc (zc (zc s (b + 3) (cC r) (nI e)) (b + 4) (cC r) (nI x)) (b + 5) (cC r) l) b 13 (s.1 b 13 ||| chS e x l)) b 10 (nI (cC r + 1)), zm (zm (zm (zm R 1 (17 + cC r) (nI e)) 1 (22 + cC r) (nI x)) 1 (27 + cC r) l) 1 1 (nI (cC r + 1)), ?_, ?_, ⟨rfl, fun a ha => ?_, fun a ha => ?_⟩, ⟨?_, (((hR.up _ _).up _ _).up _ _).up _ _, rChip_V hV he hx hl h8⟩, fun k hk => rChip_k (by omega) (by omega) (by omega) (by omega)⟩
  · simp only [f_X0_addChip, es, zin_n h8 (by decide), if_true, cl_n (show cC r < 2 ^ 31 by omega), zlt, c1, c2, c3, ey2, c4, a1, c5, ep]
  · simp only [f_X7_addsChip, e0, zlt, a17, a22, a27, zin_n (show 17 + cC r < 88 by omega) (by decide), zin_n (show 22 + cC r < 88 by omega) (by decide), zin_n (show 27 + cC r < 88 by omega) (by decide), if_true, cl_n (show 17 + cC r < 2 ^ 31 by omega), cl_n (show 22 + cC r < 2 ^ 31 by omega), cl_n (show 27 + cC r < 2 ^ 31 by omega), r4, a1]
  · simp (disch := omega) only [zc_ne]
  · rw [zm_ne ha, zm_ne ha, zm_ne ha, zm_ne ha]
  · refine ⟨⟨?_, ?_, ?_⟩, fun i hi => ?_, fun p hp => ?_, fun c hc => ?_, fun f hf => ?_, fun p hp => ?_, fun p => ?_, fun p => ?_⟩
    · simp (disch := omega) only [zc_ne, zc_nk]
      rw [rChip_k (by omega) (by omega) (by omega) (by omega)]
      exact hB.n
    · rw [c5]
      rfl
    · simp (disch := omega) only [zc_ne, zc_nk]
      rw [rChip_k (by omega) (by omega) (by omega) (by omega)]
      exact hB.f
    · simp (disch := omega) only [zc_ne]
      rw [rChip_k (by omega) (by omega) (by omega) (by omega)]
      exact hB.net hi
    · simp (disch := omega) only [zc_ne]
      rw [hno]
      exact hB.of hp
    · simp (disch := omega) only [zc_ne]
      by_cases g : c = cC r
      · rw [g, rChip_e, rChip_x, rChip_l]
        exact ⟨zc_at, zc_at, zc_at⟩
      · rw [zc_nk g, zc_nk g, zc_nk g, rChip_k (by omega) (by omega) (by omega) (by omega), rChip_k (by omega) (by omega) (by omega) (by omega), rChip_k (by omega) (by omega) (by omega) (by omega)]
        simp (disch := omega) only [zc_ne]
        exact ⟨hB.e hc, hB.x hc, hB.l hc⟩
    · simp (disch := omega) only [zc_ne]
      rw [rChip_k (by omega) (by omega) (by omega) (by omega), rChip_k (by omega) (by omega) (by omega) (by omega), rChip_k (by omega) (by omega) (by omega) (by omega)]
      exact ⟨hB.k hf, hB.o hf, hB.t hf⟩
    · simp (disch := omega) only [zc_ne]
      rw [rChip_k (by omega) (by omega) (by omega) (by omega)]
      exact hB.bl hp
    · simp (disch := omega) only [zc_ne, zc_nk]
      rw [hno]
      exact hB.pn p
    · rw [zc_nk (by decide), zc_at, b_or, hB.pc p, hch p]
      cases bt (chS e x l) p
      · rw [Bool.or_false, if_neg (by decide)]
      · rw [Bool.or_true, if_pos rfl]
        rfl
theorem q_chip {s : zs} {R : zr} (h : zInv s R) (x1 x2 x3 : Int32) : zPr (f_X6_chip s x1 x2 x3) (f_X7_chip R x1 x2 x3) := by
  have h0 := h
  obtain ⟨⟨r, hc⟩, -⟩ := h
  have hV := hc.V
  unfold f_X6_chip f_X7_chip
  rw [show sB 74 = 64 from rfl]
  obtain ⟨g1, g2⟩ := b_checkChip hc.B hc.R hV x1 x2 x3
  rw [g1, Option.bind_some]
  simp only [zlt]
  by_cases g : f_X0_refusalOfChip s 64 x1 x2 x3 = 0
  · obtain ⟨e, x, d1, d2, rfl, rfl, d3, d4, d5⟩ := g2 g
    obtain ⟨v, T, k1, k2, k3, k4, k5, hv⟩ := q_keep h0
    have hcv : zCu v T r := hc.cgs (fun a ha => k3 a (by omega)) (k4 1 (by decide) (by decide))
    obtain ⟨s', R', e1, e2, e3⟩ := b_addChip hcv.B hcv.R hV d1 d2 d3 d4 d5
    rw [if_pos g, if_pos g, k1, k2, Option.bind_some, Option.bind_some, e1, e2]
    exact ⟨_, _, _, rfl, rfl, hv.step hcv e3⟩
  · rw [if_neg g, if_neg g]
    exact ⟨_, _, _, rfl, rfl, h0⟩
/-! faults -/
theorem isIn_pred {x : Int32} {M : Nat} (hM : M < 100) : (∃ m, m < M ∧ x = nI m ∧ f_X7_isIn x 0 (nI M - 1) = true ∧ ¬ x < 0 ∧ x < nI M) ∨ (f_X7_isIn x 0 (nI M - 1) = false ∧ (x < 0 ∨ ¬ x < nI M)) := by
  rcases n_cs x with hx | ⟨m, hm, rfl⟩
  · exact Or.inr ⟨isIn_neg hx (a := 0) (by decide) _, Or.inl hx⟩
  · have hq : f_X7_isIn (nI m) 0 (nI M - 1) = decide (m < M) := by
      by_cases h0 : M = 0
      · rw [h0]
        unfold f_X7_isIn
        rw [if_neg (nI_pos hm), if_pos (show nI 0 - 1 < nI m from Int32.lt_of_lt_of_le (by decide) (nI_pos' hm)), decide_eq_false (by omega)]
      · rw [show nI M - 1 = nI (M - 1) from pk_sub (b := 1) (by omega)]
        have e : f_X7_isIn (nI m) 0 (nI (M - 1)) = _ := isIn_n (a := 0) hm (by decide) (by omega)
        rw [e, decide_eq_true (Nat.zero_le m), Bool.true_and, Bool.eq_iff_iff, decide_eq_true_eq, decide_eq_true_eq]
        omega
    rw [hq]
    by_cases h : m < M
    · exact Or.inl ⟨m, h, rfl, decide_eq_true h, nI_pos hm, nI_lt h (by omega)⟩
    · exact Or.inr ⟨decide_eq_false h, Or.inr (nI_nlt (by omega) hm)⟩
theorem isIn_pred2 {x : Int32} {o M : Nat} (ho : o < 100) (hM : M < 100) : (∃ m, o < m ∧ m < M ∧ x = nI m ∧ f_X7_isIn x (nI o + 1) (nI M - 1) = true ∧ ¬ x ≤ nI o ∧ ¬ nI M ≤ x) ∨ (f_X7_isIn x (nI o + 1) (nI M - 1) = false ∧ (x ≤ nI o ∨ nI M ≤ x)) := by
  rw [nI_1]
  rcases n_cs x with hx | ⟨m, hm, rfl⟩
  · exact Or.inr ⟨isIn_neg hx (by omega) _, Or.inl (Int32.le_of_lt (Int32.lt_of_lt_of_le hx (nI_pos' (by omega))))⟩
  · have hq : f_X7_isIn (nI m) (nI (o + 1)) (nI M - 1) = decide (o < m ∧ m < M) := by
      by_cases h0 : M = 0
      · rw [h0]
        unfold f_X7_isIn
        rw [decide_eq_false (show ¬ (o < m ∧ m < 0) by omega)]
        split
        · rfl
        · rw [if_pos (show nI 0 - 1 < nI m from Int32.lt_of_lt_of_le (by decide) (nI_pos' hm))]
      · rw [show nI M - 1 = nI (M - 1) from pk_sub (b := 1) (by omega), isIn_n hm (by omega) (by omega), Bool.eq_iff_iff, Bool.and_eq_true, decide_eq_true_eq, decide_eq_true_eq, decide_eq_true_eq]
        omega
    rw [hq]
    by_cases h : o < m ∧ m < M
    · exact Or.inl ⟨m, h.1, h.2, rfl, decide_eq_true h, nI_ge h.1 hm, nI_ge h.2 (by omega)⟩
    · refine Or.inr ⟨decide_eq_false h, ?_⟩
      by_cases h1 : m ≤ o
      · exact Or.inl (nI_le h1 (by omega))
      · exact Or.inr (nI_le (by omega) hm)
/-- how many places a kind has -/
def plN (r : zrow) (k : Nat) : Nat := if k = 0 then 16 else if k = 4 then cC r else cN r
def sameF (r : zrow) (x1 x2 x3 : Int32) (f : Nat) : Bool := decide (r (32 + f) = x1 ∧ r (42 + f) = x2 ∧ r (52 + f) = x3)
theorem b_checkFault {s : zs} {b : Nat} {R : zr} {r : zrow} (hB : zBr s b r) (hR : zRr R r) (hV : zVr r) (x1 x2 x3 : Int32) : ∃ v, f_X7_checksFault R x1 x2 x3 = some v ∧ f_X0_refusalOfFault s b x1 x2 x3 = some v ∧ (v = 0 ∨ v < 0) ∧ (v = 0 → ∃ k o t, k < 5 ∧ o < plN r k ∧ x1 = nI k ∧ x2 = nI o ∧ x3 = nI t ∧ t < 16 ∧ (k = 1 → o < t ∧ t < cN r) ∧ cF r < 10) := by
  have hn := hV.n
  have hc := hV.c
  have hf := hV.f
  have e0 : R 1 2 = nI (cF r) := (hR 2 (by decide)).trans hf.1
  have es : s.1 b 11 = nI (cF r) := hB.f.trans hf.1
  -- the loops
  have lc : f_X0_refusalOfFault_73 zFu s b x1 x2 x3 0 = (match fst (cF r) (sameF r x1 x2 x3) with | some _ => some (Sum.inr (-1000002)) | none => some (Sum.inl ())) := by
    have h := zlq (fun k f => f_X0_refusalOfFault_73 k s b x1 x2 x3 (nI f)) (sameF r x1 x2 x3) (fun _ => some (Sum.inr (-1000002))) (some (Sum.inl ())) (cF r) (fun k f hff _ hq => by
      show f_X0_refusalOfFault_73 (k + 1) s b x1 x2 x3 (nI f) = _
      have e1 : ¬ nI (cF r) ≤ nI f := nI_ge hff (by omega)
      have hq' := of_decide_eq_false hq
      simp only [f_X0_refusalOfFault_73, es, e1, if_false, zin_n (show f < 10 by omega) (by decide), if_true, cl_n (show f < 2 ^ 31 by omega), hB.k (show f < 10 by omega), hB.o (show f < 10 by omega), hB.t (show f < 10 by omega), a1]
      by_cases g1 : r (32 + f) = x1
      · rw [if_pos g1]
        by_cases g2 : r (42 + f) = x2
        · rw [if_pos g2, if_neg (fun g3 => hq' ⟨g1, g2, g3⟩)]
        · rw [if_neg g2]
      · rw [if_neg g1]) (fun k f hff _ hq => by
      show f_X0_refusalOfFault_73 (k + 1) s b x1 x2 x3 (nI f) = _
      have e1 : ¬ nI (cF r) ≤ nI f := nI_ge hff (by omega)
      obtain ⟨g1, g2, g3⟩ := of_decide_eq_true hq
      simp only [f_X0_refusalOfFault_73, es, e1, if_false, zin_n (show f < 10 by omega) (by decide), if_true, cl_n (show f < 2 ^ 31 by omega), hB.k (show f < 10 by omega), hB.o (show f < 10 by omega), hB.t (show f < 10 by omega), g1, g2, g3]) (fun k => by
      show f_X0_refusalOfFault_73 (k + 1) s b x1 x2 x3 (nI (cF r)) = _
      simp only [f_X0_refusalOfFault_73, es, nI_le (Nat.le_refl (cF r)) (show cF r < 2 ^ 31 by omega), if_true]) (cF r) 0 zFu (by omega) (zfu (by omega)) (fun j hj => absurd hj (Nat.not_lt_zero j))
    exact h
  have lr : f_X7_checksFault_63 zFu R x1 x2 x3 0 = (match fst (cF r) (sameF r x1 x2 x3) with | some _ => some (Sum.inr (-1000002)) | none => some (Sum.inl ())) := by
    have h := zlq (fun k f => f_X7_checksFault_63 k R x1 x2 x3 (nI f)) (sameF r x1 x2 x3) (fun _ => some (Sum.inr (-1000002))) (some (Sum.inl ())) (cF r) (fun k f hff _ hq => by
      show f_X7_checksFault_63 (k + 1) R x1 x2 x3 (nI f) = _
      have e1 : ¬ nI (cF r) ≤ nI f := nI_ge hff (by omega)
      have hq' := of_decide_eq_false hq
      simp only [f_X7_checksFault_63, e0, e1, if_false, a32, a42, a52, zin_n (show 32 + f < 88 by omega) (by decide), zin_n (show 42 + f < 88 by omega) (by decide), zin_n (show 52 + f < 88 by omega) (by decide), if_true, cl_n (show 32 + f < 2 ^ 31 by omega), cl_n (show 42 + f < 2 ^ 31 by omega), cl_n (show 52 + f < 2 ^ 31 by omega), hR (32 + f) (by omega), hR (42 + f) (by omega), hR (52 + f) (by omega), a1]
      by_cases g1 : r (32 + f) = x1
      · rw [if_pos g1]
        by_cases g2 : r (42 + f) = x2
        · rw [if_pos g2, if_neg (fun g3 => hq' ⟨g1, g2, g3⟩)]
        · rw [if_neg g2]
      · rw [if_neg g1]) (fun k f hff _ hq => by
      show f_X7_checksFault_63 (k + 1) R x1 x2 x3 (nI f) = _
      have e1 : ¬ nI (cF r) ≤ nI f := nI_ge hff (by omega)
      obtain ⟨g1, g2, g3⟩ := of_decide_eq_true hq
      simp only [f_X7_checksFault_63, e0, e1, if_false, a32, a42, a52, zin_n (show 32 + f < 88 by omega) (by decide), zin_n (show 42 + f < 88 by omega) (by decide), zin_n (show 52 + f < 88 by omega) (by decide), if_true, cl_n (show 32 + f < 2 ^ 31 by omega), cl_n (show 42 + f < 2 ^ 31 by omega), cl_n (show 52 + f < 2 ^ 31 by omega), hR (32 + f) (by omega), hR (42 + f) (by omega), hR (52 + f) (by omega), g1, g2, g3]) (fun k => by
      show f_X7_checksFault_63 (k + 1) R x1 x2 x3 (nI (cF r)) = _
      simp only [f_X7_checksFault_63, e0, nI_le (Nat.le_refl (cF r)) (show cF r < 2 ^ 31 by omega), if_true]) (cF r) 0 zFu (by omega) (zfu (by omega)) (fun j hj => absurd hj (Nat.not_lt_zero j))
    exact h
  have neg1 : ((-1000001 : Int32) = 0 ∨ (-1000001 : Int32) < 0) := Or.inr (by decide)
  have neg2 : ((-1000002 : Int32) = 0 ∨ (-1000002 : Int32) < 0) := Or.inr (by decide)
  have neg3 : ((-1000003 : Int32) = 0 ∨ (-1000003 : Int32) < 0) := Or.inr (by decide)
  have bad : ∃ v, (some (-1000001) : Option Int32) = some v ∧ (some (-1000001) : Option Int32) = some v ∧ (v = 0 ∨ v < 0) ∧ (v = 0 → ∃ k o t, k < 5 ∧ o < plN r k ∧ x1 = nI k ∧ x2 = nI o ∧ x3 = nI t ∧ t < 16 ∧ (k = 1 → o < t ∧ t < cN r) ∧ cF r < 10) := ⟨_, rfl, rfl, neg1, fun q => absurd q (by decide)⟩
  -- the end
  have fin : (∃ k o t, k < 5 ∧ o < plN r k ∧ x1 = nI k ∧ x2 = nI o ∧ x3 = nI t ∧ t < 16 ∧ (k = 1 → o < t ∧ t < cN r)) → ∃ v, (Option.bind (f_X7_checksFault_63 zFu R x1 x2 x3 0) fun e5 => match e5 with | Sum.inr r7 => some r7 | Sum.inl _ => if (R 1 2) = 10 then some (-1000003) else some 0) = some v ∧ (Option.bind (f_X0_refusalOfFault_73 zFu s b x1 x2 x3 0) fun e8 => match e8 with | Sum.inr r10 => some r10 | Sum.inl _ => if (s.1 b 11) < 10 then some 0 else some (-1000003)) = some v ∧ (v = 0 ∨ v < 0) ∧ (v = 0 → ∃ k o t, k < 5 ∧ o < plN r k ∧ x1 = nI k ∧ x2 = nI o ∧ x3 = nI t ∧ t < 16 ∧ (k = 1 → o < t ∧ t < cN r) ∧ cF r < 10) := by
    rintro ⟨k, o, t, w1, w2, w3, w4, w5, w6, w7⟩
    rw [lr, lc, e0, es]
    cases fst (cF r) (sameF r x1 x2 x3) with
    | some f => exact ⟨-1000002, rfl, rfl, neg2, fun q => absurd q (by decide)⟩
    | none =>
      simp only [Option.bind_some]
      by_cases h8 : cF r = 10
      · rw [if_pos (show nI (cF r) = 10 by rw [h8]; rfl), if_neg (show ¬ nI (cF r) < 10 from nI_nlt (b := 10) (by omega) (by omega))]
        exact ⟨-1000003, rfl, rfl, neg3, fun q => absurd q (by decide)⟩
      · rw [if_neg (show ¬ nI (cF r) = 10 from fun q => h8 ((nI_eq (b := 10) (by omega) (by omega)).mp q)), if_pos (show nI (cF r) < 10 from nI_lt (b := 10) (by omega) (by omega))]
        exact ⟨0, rfl, rfl, Or.inl rfl, fun _ => ⟨k, o, t, w1, w2, w3, w4, w5, w6, w7, by omega⟩⟩
  unfold f_X7_checksFault f_X0_refusalOfFault
  rcases n_cs x1 with hx | ⟨k, hk, rfl⟩
  · rw [if_pos hx, show f_X7_isIn x1 0 4 = false from isIn_neg hx (a := 0) (by decide) 4, if_neg (by decide)]
    exact bad
  · have e : f_X7_isIn (nI k) 0 4 = _ := isIn_n (a := 0) (b := 4) hk (by decide) (by decide)
    rw [if_neg (nI_pos hk), e]
    by_cases h5 : k < 5
    · rw [if_neg (show ¬ (5 : Int32) ≤ nI k from nI_ge (b := 5) h5 (by decide)), decide_eq_true (show k ≤ 4 by omega), decide_eq_true (Nat.zero_le k), if_pos (show (true && true) = true from rfl)]
      have q0 : (nI k = (0 : Int32)) = (k = 0) := propext (nI_eq (b := 0) hk (by omega))
      have q1 : (nI k = (1 : Int32)) = (k = 1) := propext (nI_eq (b := 1) hk (by omega))
      have q4 : (nI k = (4 : Int32)) = (k = 4) := propext (nI_eq (b := 4) hk (by omega))
      have ep : f_X0_placesFor s b (nI k) = nI (plN r k) := by
        unfold f_X0_placesFor plN
        simp only [q0, q4, hB.n, hB.c, hn.1, hc.1]
        split
        · rfl
        · split <;> rfl
      have em : f_X7_manyOf R (nI k) = nI (plN r k) := by
        unfold f_X7_manyOf plN
        simp only [q0, q4, hR 0 (by decide), hR 1 (by decide), hn.1, hc.1]
        split
        · rfl
        · split <;> rfl
      have hpl : plN r k ≤ 16 := by
        unfold plN
        split
        · omega
        · split <;> omega
      rw [ep, em]
      rcases isIn_pred (x := x2) (M := plN r k) (by omega) with ⟨o, ho, rfl, g1, g2, g3⟩ | ⟨g1, g2⟩
      · rw [g1, if_pos rfl, if_neg g2, if_pos g3]
        simp only [q1, hB.n, hn.1, hR 0 (by decide)]
        by_cases hk1 : k = 1
        · rw [if_pos hk1, if_pos hk1]
          have hpl1 : plN r k = cN r := by
            unfold plN
            rw [if_neg (by omega), if_neg (by omega)]
          rcases isIn_pred2 (x := x3) (o := o) (M := cN r) (by omega) (by omega) with ⟨t, ht1, ht2, rfl, g4, g5, g6⟩ | ⟨g4, g5⟩
          · rw [g4, if_pos rfl, if_neg g5, if_neg g6]
            exact fin ⟨k, o, t, h5, ho, rfl, rfl, rfl, by omega, fun _ => ⟨ht1, ht2⟩⟩
          · rw [g4, if_neg (by decide)]
            by_cases g6 : x3 ≤ nI o
            · rw [if_pos g6]
              exact bad
            · rw [if_neg g6]
              rcases g5 with g7 | g7
              · exact absurd g7 g6
              · rw [if_pos g7]
                exact bad
        · rw [if_neg hk1, if_neg hk1]
          by_cases g4 : x3 = 0
          · rw [if_pos g4, if_pos g4]
            exact fin ⟨k, o, 0, h5, ho, rfl, rfl, g4, by omega, fun g => absurd g hk1⟩
          · rw [if_neg g4, if_neg g4]
            exact bad
      · rw [g1, if_neg (by decide)]
        by_cases g3 : x2 < 0
        · rw [if_pos g3]
          exact bad
        · rw [if_neg g3]
          rcases g2 with g4 | g4
          · exact absurd g4 g3
          · rw [if_neg g4]
            exact bad
    · rw [if_pos (show (5 : Int32) ≤ nI k from nI_le (a := 5) (by omega) hk), decide_eq_false (show ¬ k ≤ 4 by omega), Bool.and_false, if_neg (by decide)]
      exact bad
def rFlt (r : zrow) (k o t : Nat) : zrow := upd (upd (upd (upd (upd r (32 + cF r) (nI k)) (42 + cF r) (nI o)) (52 + cF r) (nI t)) (62 + cF r) (-1)) 2 (nI (cF r + 1))
theorem rFlt_k {r : zrow} {k o t : Nat} {j : Nat} (h0 : j ≠ 2) (h1 : j ≠ 32 + cF r) (h2 : j ≠ 42 + cF r) (h3 : j ≠ 52 + cF r) (h4 : j ≠ 62 + cF r) : rFlt r k o t j = r j := by
  unfold rFlt
  rw [upd_ne h0, upd_ne h4, upd_ne h3, upd_ne h2, upd_ne h1]
theorem rFlt_n {r : zrow} {k o t : Nat} (h : cF r < 10) : cF (rFlt r k o t) = cF r + 1 := nI_clamp (n := cF r + 1) (by omega)
theorem rFlt_1 {r : zrow} {k o t : Nat} : rFlt r k o t (32 + cF r) = nI k := by
  unfold rFlt
  rw [upd_ne (by omega), upd_ne (by omega), upd_ne (by omega), upd_ne (by omega), upd_at]
theorem rFlt_2 {r : zrow} {k o t : Nat} : rFlt r k o t (42 + cF r) = nI o := by
  unfold rFlt
  rw [upd_ne (by omega), upd_ne (by omega), upd_ne (by omega), upd_at]
theorem rFlt_3 {r : zrow} {k o t : Nat} : rFlt r k o t (52 + cF r) = nI t := by
  unfold rFlt
  rw [upd_ne (by omega), upd_ne (by omega), upd_at]
theorem rFlt_4 {r : zrow} {k o t : Nat} : rFlt r k o t (62 + cF r) = -1 := by
  unfold rFlt
  rw [upd_ne (by omega), upd_at]
theorem rFlt_d {r : zrow} (hV : zVr r) {k o t : Nat} (h8 : cF r < 10) {f : Nat} (hf : f < 10) : rFlt r k o t (62 + f) = r (62 + f) := by
  by_cases g : f = cF r
  · rw [g, rFlt_4]
    exact (hV.drw _ (Nat.le_refl _) h8).symm
  · exact rFlt_k (by omega) (by omega) (by omega) (by omega) (by omega)
theorem rFlt_V {r : zrow} {k o t : Nat} (hV : zVr r) (hk : k < 5) (ho : o < plN r k) (ht : t < 16) (h1 : k = 1 → o < t ∧ t < cN r) (h8 : cF r < 10) : zVr (rFlt r k o t) := by
  have hn := hV.n
  have hc := hV.c
  have hf := hV.f
  have k0 := rFlt_n (r := r) (k := k) (o := o) (t := t) h8
  have ek : ∀ j, j ≠ 2 → j ≠ 32 + cF r → j ≠ 42 + cF r → j ≠ 52 + cF r → j ≠ 62 + cF r → rFlt r k o t j = r j := fun j h0 h1 h2 h3 h4 => rFlt_k h0 h1 h2 h3 h4
  have k1 : cN (rFlt r k o t) = cN r := by unfold cN; rw [ek 0 (by omega) (by omega) (by omega) (by omega) (by omega)]
  have k2 : cC (rFlt r k o t) = cC r := by unfold cC; rw [ek 1 (by omega) (by omega) (by omega) (by omega) (by omega)]
  have ho16 : o < 16 := by
    unfold plN at ho
    split at ho
    · exact ho
    · split at ho <;> omega
  refine ⟨⟨?_, ?_, ⟨?_, ?_⟩⟩, ?_, ?_, ?_, ?_, ?_, ?_⟩
  · rw [k1, ek 0 (by omega) (by omega) (by omega) (by omega) (by omega)]
    exact hn
  · rw [k2, ek 1 (by omega) (by omega) (by omega) (by omega) (by omega)]
    exact hc
  · rw [k0]
    rfl
  · omega
  · rw [k1]
    intro i hi
    rw [ek (9 + i) (by omega) (by omega) (by omega) (by omega) (by omega)]
    refine ⟨hV.net hi, fun j hj => ?_⟩
    rw [ek (9 + j) (by omega) (by omega) (by omega) (by omega) (by omega)]
    exact (hV.2.1 i hi).2 j hj
  · rw [k2]
    intro c hcc
    unfold eN xN
    rw [ek (17 + c) (by omega) (by omega) (by omega) (by omega) (by omega), ek (22 + c) (by omega) (by omega) (by omega) (by omega) (by omega), ek (27 + c) (by omega) (by omega) (by omega) (by omega) (by omega)]
    exact hV.chip hcc
  · rw [k0, k1, k2]
    intro f hff
    unfold kN oN tN
    by_cases g : f = cF r
    · rw [g, rFlt_1, rFlt_2, rFlt_3, cl_n (show k < 2 ^ 31 by omega), cl_n (show o < 2 ^ 31 by omega), cl_n (show t < 2 ^ 31 by omega)]
      unfold plN at ho
      refine ⟨⟨rfl, hk⟩, ⟨rfl, ho16⟩, fun g1 g2 => ?_, fun g1 => ?_, ⟨rfl, ht⟩, h1⟩
      · rw [if_neg g1, if_neg g2] at ho
        exact ho
      · rw [if_neg (by omega), if_pos g1] at ho
        exact ho
    · rw [ek (32 + f) (by omega) (by omega) (by omega) (by omega) (by omega), ek (42 + f) (by omega) (by omega) (by omega) (by omega) (by omega), ek (52 + f) (by omega) (by omega) (by omega) (by omega) (by omega)]
      exact hV.flt (by omega)
  · rw [k0]
    unfold dN
    rw [ek 3 (by omega) (by omega) (by omega) (by omega) (by omega), ek 5 (by omega) (by omega) (by omega) (by omega) (by omega), ek 6 (by omega) (by omega) (by omega) (by omega) (by omega), ek 7 (by omega) (by omega) (by omega) (by omega) (by omega)]
    obtain ⟨a1, a2, a3, a4⟩ := hV.p4
    refine ⟨a1, a2, ?_, fun j hj => ?_⟩
    · rcases a3 with a3 | ⟨f, f1, f2⟩
      · exact Or.inl a3
      · exact Or.inr ⟨f, by omega, f2⟩
    · rcases a4 j hj with h9 | h9
      · exact Or.inl (by omega)
      · exact Or.inr h9
  · rw [k0]
    intro f h1 h2
    rw [rFlt_d hV h8 h2]
    exact hV.drw f (by omega) h2
  · rw [k0]
    intro d hd
    show ct (cF r) _ + (if decide (rFlt r k o t (62 + cF r) = nI d) = true then 1 else 0) ≤ 3
    rw [ct_cg (fun f hff => by rw [rFlt_d hV h8 (show f < 10 by omega)]), rFlt_4, if_neg (fun q => m1_ne (show d < 2 ^ 31 by omega) (of_decide_eq_true q).symm)]
    exact hV.fil d hd
theorem rFlt_cg {r : zrow} {k o t : Nat} (hn : cN r ≤ 8) (hc : cC r ≤ 5) (p : Nat) : nOf (rFlt r k o t) p = nOf r p ∧ chOf (rFlt r k o t) p = chOf r p := by
  have k1 : cN (rFlt r k o t) = cN r := by unfold cN; rw [rFlt_k (by omega) (by omega) (by omega) (by omega) (by omega)]
  have k2 : cC (rFlt r k o t) = cC r := by unfold cC; rw [rFlt_k (by omega) (by omega) (by omega) (by omega) (by omega)]
  unfold nOf chOf
  rw [k1, k2]
  exact ⟨fst_cg (fun i hi => by rw [rFlt_k (by omega) (by omega) (by omega) (by omega) (by omega)]), fst_cg (fun i hi => by unfold hasP eN xN; rw [rFlt_k (by omega) (by omega) (by omega) (by omega) (by omega), rFlt_k (by omega) (by omega) (by omega) (by omega) (by omega), rFlt_k (by omega) (by omega) (by omega) (by omega) (by omega)])⟩
theorem b_addFault {s : zs} {b : Nat} {R : zr} {r : zrow} (hB : zBr s b r) (hR : zRr R r) (hV : zVr r) {k o t : Nat} (hk : k < 5) (ho : o < plN r k) (ht : t < 16) (h1 : k = 1 → o < t ∧ t < cN r) (h8 : cF r < 10) : ∃ s' R', f_X0_addFault s b (nI k) (nI o) (nI t) = some (nI (cF r), s') ∧ f_X7_addsFault R (nI k) (nI o) (nI t) = some (nI (cF r), R') ∧ zStp s s' b R R' r (rFlt r k o t) := by
  have hn := hV.f
  have e0 : R 1 2 = nI (cF r) := (hR 2 (by decide)).trans hn.1
  have es : s.1 b 11 = nI (cF r) := hB.f.trans hn.1
  have ep : nI (cF r + 1) - 1 = nI (cF r) := nI_pred _
  have hcg := rFlt_cg (r := r) (k := k) (o := o) (t := t) hV.n.2 hV.c.2
  have c1 : (zc s (b + 6) (cF r) (nI k)).1 b 11 = nI (cF r) := by rw [zc_ne (by omega)]; exact es
  have c2 : (zc (zc s (b + 6) (cF r) (nI k)) (b + 7) (cF r) (nI o)).1 b 11 = nI (cF r) := by rw [zc_ne (by omega)]; exact c1
  have c3 : (zc (zc (zc s (b + 6) (cF r) (nI k)) (b + 7) (cF r) (nI o)) (b + 8) (cF r) (nI t)).1 b 11 = nI (cF r) := by rw [zc_ne (by omega)]; exact c2
  have c5 : (zc (zc (zc (zc s (b + 6) (cF r) (nI k)) (b + 7) (cF r) (nI o)) (b + 8) (cF r) (nI t)) b 11 (nI (cF r + 1))).1 b 11 = nI (cF r + 1) := zc_at
  have r4 : (zm (zm (zm (zm R 1 (32 + cF r) (nI k)) 1 (42 + cF r) (nI o)) 1 (52 + cF r) (nI t)) 1 (62 + cF r) (-1)) 1 2 = nI (cF r) := by rw [zm_nk (by omega), zm_nk (by omega), zm_nk (by omega), zm_nk (by omega)]; exact e0
  refine ⟨zc (zc (zc (zc s (b + 6) (cF r) (nI k)) (b + 7) (cF r) (nI o)) (b + 8) (cF r) (nI t)) b 11 (nI (cF r + 1)), zm (zm (zm (zm (zm R 1 (32 + cF r) (nI k)) 1 (42 + cF r) (nI o)) 1 (52 + cF r) (nI t)) 1 (62 + cF r) (-1)) 1 2 (nI (cF r + 1)), ?_, ?_, ⟨rfl, fun a ha => ?_, fun a ha => ?_⟩, ⟨?_, ((((hR.up _ _).up _ _).up _ _).up _ _).up _ _, rFlt_V hV hk ho ht h1 h8⟩, fun j hj => ?_⟩
  · simp only [f_X0_addFault, es, zin_n h8 (by decide), if_true, cl_n (show cF r < 2 ^ 31 by omega), zlt, c1, c2, c3, a1, c5, ep]
  · simp only [f_X7_addsFault, e0, zlt, a32, a42, a52, a62, zin_n (show 32 + cF r < 88 by omega) (by decide), zin_n (show 42 + cF r < 88 by omega) (by decide), zin_n (show 52 + cF r < 88 by omega) (by decide), zin_n (show 62 + cF r < 88 by omega) (by decide), if_true, cl_n (show 32 + cF r < 2 ^ 31 by omega), cl_n (show 42 + cF r < 2 ^ 31 by omega), cl_n (show 52 + cF r < 2 ^ 31 by omega), cl_n (show 62 + cF r < 2 ^ 31 by omega), r4, a1]
  · simp (disch := omega) only [zc_ne]
  · rw [zm_ne ha, zm_ne ha, zm_ne ha, zm_ne ha, zm_ne ha]
  · refine ⟨⟨?_, ?_, ?_⟩, fun i hi => ?_, fun p hp => ?_, fun c hc => ?_, fun f hf => ?_, fun p hp => ?_, fun p => ?_, fun p => ?_⟩
    · simp (disch := omega) only [zc_ne, zc_nk]
      rw [rFlt_k (by omega) (by omega) (by omega) (by omega) (by omega)]
      exact hB.n
    · simp (disch := omega) only [zc_ne, zc_nk]
      rw [rFlt_k (by omega) (by omega) (by omega) (by omega) (by omega)]
      exact hB.c
    · rw [c5]
      rfl
    · simp (disch := omega) only [zc_ne]
      rw [rFlt_k (by omega) (by omega) (by omega) (by omega) (by omega)]
      exact hB.net hi
    · simp (disch := omega) only [zc_ne]
      rw [(hcg p).1]
      exact hB.of hp
    · simp (disch := omega) only [zc_ne]
      rw [rFlt_k (by omega) (by omega) (by omega) (by omega) (by omega), rFlt_k (by omega) (by omega) (by omega) (by omega) (by omega), rFlt_k (by omega) (by omega) (by omega) (by omega) (by omega)]
      exact ⟨hB.e hc, hB.x hc, hB.l hc⟩
    · simp (disch := omega) only [zc_ne]
      by_cases g : f = cF r
      · rw [g, rFlt_1, rFlt_2, rFlt_3]
        exact ⟨zc_at, zc_at, zc_at⟩
      · rw [zc_nk g, zc_nk g, zc_nk g, rFlt_k (by omega) (by omega) (by omega) (by omega) (by omega), rFlt_k (by omega) (by omega) (by omega) (by omega) (by omega), rFlt_k (by omega) (by omega) (by omega) (by omega) (by omega)]
        simp (disch := omega) only [zc_ne]
        exact ⟨hB.k hf, hB.o hf, hB.t hf⟩
    · simp (disch := omega) only [zc_ne]
      rw [rFlt_k (by omega) (by omega) (by omega) (by omega) (by omega)]
      exact hB.bl hp
    · simp (disch := omega) only [zc_ne, zc_nk]
      rw [(hcg p).1]
      exact hB.pn p
    · simp (disch := omega) only [zc_ne, zc_nk]
      rw [(hcg p).2]
      exact hB.pc p
  · rcases hj with hj | hj
    · exact rFlt_k (by omega) (by omega) (by omega) (by omega) (by omega)
    · obtain ⟨f, hf, rfl⟩ : ∃ f, f < 10 ∧ j = 62 + f := ⟨j - 62, by omega, by omega⟩
      exact rFlt_d hV h8 hf
theorem q_fault {s : zs} {R : zr} (h : zInv s R) (x1 x2 x3 : Int32) : zPr (f_X6_fault s x1 x2 x3) (f_X7_fault R x1 x2 x3) := by
  have h0 := h
  obtain ⟨⟨r, hc⟩, -⟩ := h
  have hV := hc.V
  unfold f_X6_fault f_X7_fault
  rw [show sB 74 = 64 from rfl]
  obtain ⟨w, g1, g2, -, g3⟩ := b_checkFault hc.B hc.R hV x1 x2 x3
  rw [g1, g2, Option.bind_some, Option.bind_some]
  by_cases g : w = 0
  · obtain ⟨k, o, t, d1, d2, rfl, rfl, rfl, d3, d4, d5⟩ := g3 g
    obtain ⟨v, T, k1, k2, k3, k4, k5, hv⟩ := q_keep h0
    have hcv : zCu v T r := hc.cgs (fun a ha => k3 a (by omega)) (k4 1 (by decide) (by decide))
    obtain ⟨s', R', e1, e2, e3⟩ := b_addFault hcv.B hcv.R hV d1 d2 d3 d4 d5
    rw [if_pos g, if_pos g, k1, k2, Option.bind_some, Option.bind_some, e1, e2]
    exact ⟨_, _, _, rfl, rfl, hv.step hcv e3⟩
  · rw [if_neg g, if_neg g]
    exact ⟨_, _, _, rfl, rfl, h0⟩
