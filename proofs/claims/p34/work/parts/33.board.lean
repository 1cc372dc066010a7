/-! the board grows: nets, chips, faults, blessings, on any board -/
/-- a step of a board, on both sides -/
def zStp (s s' : zs) (b : Nat) (R R' : zr) (r r' : zrow) : Prop :=
  (s'.2 = s.2 ∧ (∀ a, (a < b ∨ b + 10 ≤ a) → s'.1 a = s.1 a) ∧ ∀ a, a ≠ 1 → R' a = R a) ∧ (zBr s' b r' ∧ zRr R' r' ∧ zVr r') ∧ ∀ k, (3 ≤ k ∧ k < 9 ∨ 62 ≤ k ∧ k < 72) → r' k = r k
theorem zInv.step {s s' : zs} {R R' : zr} {r r' : zrow} (h : zInv s R) (hc : zCu s R r) (hp : zStp s s' 64 R R' r r') : zInv s' R' := by
  obtain ⟨⟨e2, e1, f⟩, ⟨hB, hR, hV⟩, er⟩ := hp
  refine h.up (r' := r') e2 (fun a ha => e1 a (by omega)) f ⟨hV, hR, ⟨hB, fun f hf => ?_, ⟨?_, ?_, ?_⟩, ?_, ?_, ?_⟩, fun i hi => ?_⟩
  · show s'.1 75 f = _
    rw [e1 75 (by omega), hc.D hf, er (62 + f) (by omega)]
  · rw [e1 74 (by omega), hc.f2, er 3 (by omega)]
  · rw [e1 74 (by omega), hc.f3, er 6 (by omega)]
  · rw [e1 74 (by omega), hc.f4, er 7 (by omega)]
  · rw [e1 74 (by omega), hc.f5, er 4 (by omega)]
  · rw [e1 74 (by omega), hc.f6, er 5 (by omega)]
  · rw [e1 74 (by omega), hc.f7, er 8 (by omega)]
  · rw [e1 _ (by omega)]
    exact hc.2.2.2 i hi
theorem neg_bt {x : Int32} (h : x < 0) : bt x 31 = true := by
  unfold bt
  rw [Int32.lt_iff_toInt_lt] at h
  have h0 : (0 : Int32).toInt = 0 := by decide
  rw [h0] at h
  have h1 : x.toBitVec.msb = true := by
    rw [BitVec.msb_eq_toInt]
    exact decide_eq_true h
  rw [BitVec.msb_eq_getLsbD_last] at h1
  exact h1
theorem small_iff {x : Int32} {k : Nat} (hk : k ≤ 31) : (∀ i, k ≤ i → bt x i = false) ↔ ∃ m, m < 2 ^ k ∧ x = nI m := by
  constructor
  · intro h
    rcases n_cs x with hx | ⟨m, hm, rfl⟩
    · have := h 31 hk
      rw [neg_bt hx] at this
      cases this
    · refine ⟨m, ?_, rfl⟩
      apply Nat.lt_pow_two_of_testBit
      intro i hi
      rcases Nat.lt_or_ge i 32 with h32 | h32
      · rw [← bt_nI h32]
        exact h i hi
      · exact Nat.testBit_lt_two_pow (Nat.lt_of_lt_of_le hm (Nat.pow_le_pow_right (by decide) (by omega)))
  · rintro ⟨m, hm, rfl⟩ i hi
    rcases Nat.lt_or_ge i 32 with h | h
    · rw [bt_nI h]
      exact Nat.testBit_lt_two_pow (Nat.lt_of_lt_of_le hm (Nat.pow_le_pow_right (by decide) hi))
    · exact b_big h
theorem mask128 (x : Int32) : x &&& (-128) = 0 ↔ ∀ i, 7 ≤ i → bt x i = false := by
  have hb : ∀ i, i < 32 → bt (-128) i = decide (7 ≤ i) := by decide +kernel
  constructor
  · intro h i hi
    rcases Nat.lt_or_ge i 32 with h3 | h3
    · have h2 : bt (x &&& (-128)) i = false := by rw [h]; exact b_0 i
      rw [b_and, hb i h3, decide_eq_true hi, Bool.and_true] at h2
      exact h2
    · exact b_big h3
  · intro h
    apply b_ext
    intro i hi
    rw [b_and, b_0, hb i hi]
    rcases Nat.lt_or_ge i 7 with h3 | h3
    · simp [show ¬ 7 ≤ i by omega]
    · simp [h i h3]
/-- a set of pins, as both sides test it -/
theorem g_set16 (x : Int32) : (zTo x ∧ x &&& (-65536) = 0 ∧ f_X7_isIn x 0 65535 = true) ∨ (¬ x &&& (-65536) = 0 ∧ f_X7_isIn x 0 65535 = false) := by
  by_cases h : zTo x
  · obtain ⟨m, hm, rfl⟩ := (small_iff (k := 16) (by decide)).mp h
    refine Or.inl ⟨h, (hi_mask _).mpr h, ?_⟩
    have e : f_X7_isIn (nI m) 0 65535 = _ := isIn_n (a := 0) (b := 65535) (by omega) (by decide) (by decide)
    rw [e, decide_eq_true (Nat.zero_le m), decide_eq_true (show m ≤ 65535 by omega)]
    rfl
  · refine Or.inr ⟨fun q => h ((hi_mask _).mp q), ?_⟩
    rcases n_cs x with hx | ⟨m, hm, rfl⟩
    · exact isIn_neg hx (a := 0) (by decide) 65535
    · have e : f_X7_isIn (nI m) 0 65535 = _ := isIn_n (a := 0) (b := 65535) hm (by decide) (by decide)
      rw [e, decide_eq_false (show ¬ m ≤ 65535 from fun g => h ((small_iff (k := 16) (by decide)).mpr ⟨m, by omega, rfl⟩)), Bool.and_false]
theorem g_set7 (x : Int32) : (x &&& (-128) = 0 ∧ f_X7_isIn x 0 127 = true) ∨ (¬ x &&& (-128) = 0 ∧ f_X7_isIn x 0 127 = false) := by
  by_cases h : ∀ i, 7 ≤ i → bt x i = false
  · obtain ⟨m, hm, rfl⟩ := (small_iff (k := 7) (by decide)).mp h
    refine Or.inl ⟨(mask128 _).mpr h, ?_⟩
    have e : f_X7_isIn (nI m) 0 127 = _ := isIn_n (a := 0) (b := 127) (by omega) (by decide) (by decide)
    rw [e, decide_eq_true (Nat.zero_le m), decide_eq_true (show m ≤ 127 by omega)]
    rfl
  · refine Or.inr ⟨fun q => h ((mask128 _).mp q), ?_⟩
    rcases n_cs x with hx | ⟨m, hm, rfl⟩
    · exact isIn_neg hx (a := 0) (by decide) 127
    · have e : f_X7_isIn (nI m) 0 127 = _ := isIn_n (a := 0) (b := 127) hm (by decide) (by decide)
      rw [e, decide_eq_false (show ¬ m ≤ 127 from fun g => h ((small_iff (k := 7) (by decide)).mpr ⟨m, by omega, rfl⟩)), Bool.and_false]
/-! blessings -/
theorem b_bless {s : zs} {b : Nat} {R : zr} {r : zrow} (hB : zBr s b r) (hR : zRr R r) (hV : zVr r) {p : Nat} (hp : p < 16) (x : Int32) : ∃ s', f_X0_setBlessing s b (nI p) x = some (r (72 + p), s') ∧ zStp s s' b R (zm R 1 (72 + p) x) r (upd r (72 + p) x) := by
  refine ⟨zc s (b + 9) p x, ?_, ⟨rfl, fun a ha => zc_ne (by omega), fun a ha => zm_ne ha⟩, ⟨?_, hR.up _ _, ?_⟩, fun k hk => upd_ne (by omega)⟩
  · simp only [f_X0_setBlessing, zin_n hp (by decide), if_true, zlt, cl_n (show p < 2 ^ 31 by omega), hB.bl hp]
  · obtain ⟨c1, c2, c3, c4, c5, c6, c7, c8⟩ := hB
    have hB' : zBr (zc s (b + 9) p x) b r ∨ True := Or.inr trivial
    have e : ∀ a, a ≠ b + 9 → (zc s (b + 9) p x).1 a = s.1 a := fun a ha => zc_ne ha
    refine ⟨?_, ?_, ?_, ?_, ?_, ?_, ?_, ?_⟩
    · rw [e b (by omega), upd_ne (show 0 ≠ 72 + p by omega), upd_ne (show 1 ≠ 72 + p by omega), upd_ne (show 2 ≠ 72 + p by omega)]
      exact c1
    · intro i hi
      rw [e _ (by omega), upd_ne (by omega)]
      exact c2 i hi
    · intro q hq
      rw [e _ (by omega), nOf_cg hV.n.2 (fun k hk => upd_ne (by omega))]
      exact c3 q hq
    · intro c hc
      rw [e _ (by omega), e _ (by omega), e _ (by omega), upd_ne (by omega), upd_ne (by omega), upd_ne (by omega)]
      exact c4 c hc
    · intro f hf
      rw [e _ (by omega), e _ (by omega), e _ (by omega), upd_ne (by omega), upd_ne (by omega), upd_ne (by omega)]
      exact c5 f hf
    · intro q hq
      by_cases g : q = p
      · rw [g, zc_at, upd_at]
      · rw [zc_nk g, upd_ne (by omega)]
        exact c6 q hq
    · intro q
      rw [e b (by omega), nOf_cg hV.n.2 (fun k hk => upd_ne (by omega))]
      exact c7 q
    · intro q
      rw [e b (by omega), chOf_cg hV.c.2 (fun k hk => upd_ne (by omega))]
      exact c8 q
  · refine hV.cg (fun k hk => upd_ne (by omega)) ?_ (fun f h1 h2 => by rw [upd_ne (by omega)]; exact hV.drw f h1 h2) (fun d hd => ?_)
    · unfold dN
      rw [upd_ne (show 3 ≠ 72 + p by omega), upd_ne (show 5 ≠ 72 + p by omega), upd_ne (show 6 ≠ 72 + p by omega), upd_ne (show 7 ≠ 72 + p by omega)]
      exact hV.p4
    · have hf := hV.f.2
      rw [ct_cg (fun f hf => by rw [upd_ne (by omega)])]
      exact hV.fil d hd
theorem q_bless {s : zs} {R : zr} (h : zInv s R) (x1 x2 : Int32) : zPr (f_X6_bless s x1 x2) (f_X7_bless R x1 x2) := by
  have h0 := h
  obtain ⟨⟨r, hc⟩, -⟩ := h
  have hV := hc.V
  unfold f_X6_bless f_X7_bless
  rw [show sB 74 = 64 from rfl]
  rcases g_pin x1 with ⟨p, hp, rfl, g1, g2⟩ | ⟨g1, g2⟩
  · rcases g_set7 x2 with ⟨g3, g4⟩ | ⟨g3, g4⟩
    · obtain ⟨v, T, k1, k2, k3, k4, k5, hv⟩ := q_keep h0
      have hcv : zCu v T r := hc.cgs (fun a ha => k3 a (by omega)) (k4 1 (by decide) (by decide))
      obtain ⟨s', e1, e2⟩ := b_bless hcv.B hcv.R hV hp x2
      refine ⟨r (72 + p), s', zm T 1 (72 + p) x2, ?_, ?_, hv.step hcv e2⟩
      · rw [g1, if_pos rfl, if_pos g3, k1, Option.bind_some, e1]
        rfl
      · rw [g2, g4, if_pos rfl, if_pos rfl, k2, Option.bind_some]
        simp only [a72, zin_n (show 72 + p < 88 by omega) (by decide), if_true, cl_n (show 72 + p < 2 ^ 31 by omega), zlt, hcv.R (72 + p) (by omega)]
    · rw [g1, g2, g4, if_pos rfl, if_neg g3]
      exact ⟨_, _, _, rfl, rfl, h0⟩
  · rw [g1, g2]
    exact ⟨_, _, _, rfl, rfl, h0⟩
/-! nets -/
theorem and_none {x y : Int32} {q : Nat → Bool} (hx : zTo x) (hy : ∀ p, bt y p = q p) : x &&& y = 0 ↔ fst 16 (fun p => bt x p && q p) = none := by
  rw [fst_none]
  constructor
  · intro h p hp
    have h2 : bt (x &&& y) p = false := by rw [h]; exact b_0 p
    rw [b_and, hy p] at h2
    exact h2
  · intro h
    apply b_ext
    intro p _
    rw [b_and, hy p, b_0]
    rcases Nat.lt_or_ge p 16 with g | g
    · exact h p g
    · rw [hx p g, Bool.false_and]
theorem b_checkNet {s : zs} {b : Nat} {R : zr} {r : zrow} (hB : zBr s b r) (hR : zRr R r) (hV : zVr r) (x : Int32) : f_X7_checksNet R x = some (f_X0_refusalOfNet s b x) ∧ (f_X0_refusalOfNet s b x = 0 → zTo x ∧ (∀ p, bt x p = true → nOf r p = none) ∧ cN r < 8) := by
  have hn := hV.n
  have e0 : R 1 0 = nI (cN r) := (hR 0 (by decide)).trans hn.1
  unfold f_X7_checksNet f_X0_refusalOfNet
  simp only [zlt]
  rcases g_set16 x with ⟨hx, g1, g2⟩ | ⟨g1, g2⟩
  · have hct := ct_le 16 (bt x)
    have eii : f_X7_isIn (nI (ct 16 (bt x))) 2 5 = _ := isIn_n (a := 2) (b := 5) (by omega) (by decide) (by decide)
    rw [if_pos g1, g2, if_pos rfl, bc_ct hx, r_ones, Option.bind_some, eii]
    generalize ct 16 (bt x) = C at hct
    by_cases h2 : C < 2
    · rw [if_pos (show nI C < 2 from nI_lt (b := 2) h2 (by decide)), decide_eq_false (show ¬ 2 ≤ C by omega), Bool.false_and, if_neg (by decide)]
      exact ⟨rfl, fun q => absurd q (by decide)⟩
    · rw [if_neg (show ¬ nI C < 2 from nI_nlt (b := 2) (by omega) (by omega)), decide_eq_true (show 2 ≤ C by omega)]
      by_cases h5 : C ≤ 5
      · rw [if_pos (show nI C ≤ 5 from nI_le (b := 5) h5 (by decide)), decide_eq_true h5, if_pos (show (true && true) = true from rfl)]
        have h := zlq (fun k p => f_X7_checksNet_27 k R x (nI p)) (fun p => bt x p && (nOf r p).isSome) (fun _ => some (Sum.inr (-1000002))) (some (Sum.inl ())) 16 (fun k p hp _ hq => by
          show f_X7_checksNet_27 (k + 1) R x (nI p) = _
          have e1 : ¬ (16 : Int32) ≤ nI p := nI_ge hp (by decide)
          simp only [f_X7_checksNet_27, e1, if_false, h7 _ (show p < 32 by omega), r_netOf hR hV (show p < 32 by omega), Option.bind_some, a1]
          cases hb : bt x p
          · rw [if_neg (by decide)]
          · rw [hb, Bool.true_and] at hq
            cases hno : nOf r p with
            | none => rfl
            | some m =>
              rw [hno] at hq
              cases hq) (fun k p hp _ hq => by
          show f_X7_checksNet_27 (k + 1) R x (nI p) = _
          have e1 : ¬ (16 : Int32) ≤ nI p := nI_ge hp (by decide)
          rw [Bool.and_eq_true] at hq
          simp only [f_X7_checksNet_27, e1, if_false, h7 _ (show p < 32 by omega), r_netOf hR hV (show p < 32 by omega), Option.bind_some, hq.1, if_true]
          cases hno : nOf r p with
          | none =>
            rw [hno] at hq
            exact absurd hq.2 (by decide)
          | some m =>
            have := nOf_lt hno
            show (if nI m = -1 then _ else _) = _
            rw [if_neg (m1_ne (by omega))]) (fun k => by
          show f_X7_checksNet_27 (k + 1) R x (nI 16) = _
          simp only [f_X7_checksNet_27, show (16 : Int32) ≤ nI 16 from nI_le (Nat.le_refl 16) (by decide), if_true]) 16 0 zFu (by omega) (zfu (by omega)) (fun j hj => absurd hj (Nat.not_lt_zero j))
        have ha := and_none hx hB.pn
        rw [show f_X7_checksNet_27 zFu R x 0 = _ from h, hB.n, hn.1, e0]
        cases hf : fst 16 (fun p => bt x p && (nOf r p).isSome) with
        | none =>
          rw [if_pos (ha.mpr hf)]
          simp only [Option.bind_some]
          by_cases h8 : cN r = 8
          · rw [if_pos (show nI (cN r) = 8 by rw [h8]; rfl), if_neg (show ¬ nI (cN r) < 8 from nI_nlt (b := 8) (by omega) (by omega))]
            exact ⟨rfl, fun q => absurd q (by decide)⟩
          · rw [if_neg (show ¬ nI (cN r) = 8 from fun q => h8 ((nI_eq (b := 8) (by omega) (by omega)).mp q)), if_pos (show nI (cN r) < 8 from nI_lt (b := 8) (by omega) (by omega))]
            refine ⟨rfl, fun _ => ⟨hx, fun p hq => ?_, by omega⟩⟩
            have hp : p < 16 := by
              rcases Nat.lt_or_ge p 16 with h9 | h9
              · exact h9
              · rw [hx p h9] at hq
                cases hq
            have h9 := fst_none.mp hf p hp
            rw [hq, Bool.true_and] at h9
            cases hno : nOf r p with
            | none => rfl
            | some m =>
              rw [hno] at h9
              cases h9
        | some p =>
          rw [if_neg (show ¬ x &&& s.1 b 12 = 0 from fun q => by rw [ha.mp q] at hf; cases hf)]
          exact ⟨rfl, fun q => absurd q (by decide)⟩
      · rw [if_neg (show ¬ nI C ≤ 5 from nI_ge (a := 5) (by omega) (by omega)), decide_eq_false h5, Bool.and_false, if_neg (by decide)]
        exact ⟨rfl, fun q => absurd q (by decide)⟩
  · rw [if_neg g1, g2, if_neg (by decide)]
    exact ⟨rfl, fun q => absurd q (by decide)⟩
theorem fst_F {n : Nat} {p : Nat → Bool} (h : p n = false) : fst (n + 1) p = fst n p := by
  show (match fst n p with | some j => some j | none => if p n = true then some n else none) = _
  rw [h]
  cases fst n p <;> rfl
theorem fst_T {n : Nat} {p : Nat → Bool} (h0 : fst n p = none) (h : p n = true) : fst (n + 1) p = some n := by
  show (match fst n p with | some j => some j | none => if p n = true then some n else none) = _
  rw [h0, h]
  rfl
def rNet (r : zrow) (x : Int32) : zrow := upd (upd r (9 + cN r) x) 0 (nI (cN r + 1))
theorem rNet_k {r : zrow} {x : Int32} {k : Nat} (h0 : k ≠ 0) (h : k ≠ 9 + cN r) : rNet r x k = r k := by
  unfold rNet
  rw [upd_ne h0, upd_ne h]
theorem rNet_n {r : zrow} {x : Int32} (h : cN r < 8) : cN (rNet r x) = cN r + 1 := nI_clamp (n := cN r + 1) (by omega)
theorem rNet_V {r : zrow} {x : Int32} (hV : zVr r) (hx : zTo x) (hd : ∀ p, bt x p = true → nOf r p = none) (h8 : cN r < 8) : zVr (rNet r x) := by
  have hn := hV.n
  have hc := hV.c
  have hf := hV.f
  have k0 := rNet_n (r := r) (x := x) h8
  have ek : ∀ k, k ≠ 0 → k ≠ 9 + cN r → rNet r x k = r k := fun k h0 h1 => rNet_k h0 h1
  have k1 : cC (rNet r x) = cC r := by unfold cC; rw [ek 1 (by omega) (by omega)]
  have k2 : cF (rNet r x) = cF r := by unfold cF; rw [ek 2 (by omega) (by omega)]
  have en : rNet r x (9 + cN r) = x := by
    unfold rNet
    rw [upd_ne (by omega), upd_at]
  refine ⟨⟨⟨?_, ?_⟩, ?_, ?_⟩, ?_, ?_, ?_, ?_, ?_, ?_⟩
  · rw [k0]
    rfl
  · omega
  · rw [k1, ek 1 (by omega) (by omega)]
    exact hc
  · rw [k2, ek 2 (by omega) (by omega)]
    exact hf
  · rw [k0]
    intro i hi
    by_cases hin : i = cN r
    · rw [hin, en]
      refine ⟨hx, fun j hj p hp => ?_⟩
      rw [ek (9 + j) (by omega) (by omega)]
      have h9 := hd p hp
      rw [nb hV hj, h9]
      exact decide_eq_false (fun q => by cases q)
    · rw [ek (9 + i) (by omega) (by omega)]
      refine ⟨hV.net (by omega), fun j hj => ?_⟩
      rw [ek (9 + j) (by omega) (by omega)]
      exact (hV.2.1 i (by omega)).2 j hj
  · rw [k1]
    intro c hcc
    unfold eN xN
    rw [ek (17 + c) (by omega) (by omega), ek (22 + c) (by omega) (by omega), ek (27 + c) (by omega) (by omega)]
    exact hV.chip hcc
  · rw [k0, k1, k2]
    intro f hff
    unfold kN oN tN
    rw [ek (32 + f) (by omega) (by omega), ek (42 + f) (by omega) (by omega), ek (52 + f) (by omega) (by omega)]
    obtain ⟨a1, a2, a3, a4, a5, a6⟩ := hV.flt hff
    exact ⟨a1, a2, fun g1 g2 => Nat.lt_succ_of_lt (a3 g1 g2), a4, a5, fun g => ⟨(a6 g).1, Nat.lt_succ_of_lt (a6 g).2⟩⟩
  · rw [k2]
    unfold dN
    rw [ek 3 (by omega) (by omega), ek 5 (by omega) (by omega), ek 6 (by omega) (by omega), ek 7 (by omega) (by omega)]
    exact hV.p4
  · rw [k2]
    intro f h1 h2
    rw [ek (62 + f) (by omega) (by omega)]
    exact hV.drw f h1 h2
  · rw [k2]
    intro d hd
    rw [ct_cg (fun f hff => by rw [ek (62 + f) (by omega) (by omega)])]
    exact hV.fil d hd
theorem rNet_nOf {r : zrow} {x : Int32} (hd : ∀ p, bt x p = true → nOf r p = none) (h8 : cN r < 8) (p : Nat) : nOf (rNet r x) p = if bt x p = true then some (cN r) else nOf r p := by
  unfold nOf
  rw [rNet_n h8]
  have e : fst (cN r) (fun n => bt (rNet r x (9 + n)) p) = fst (cN r) (fun n => bt (r (9 + n)) p) := fst_cg (fun i hi => by rw [rNet_k (by omega) (by omega)])
  have en : bt (rNet r x (9 + cN r)) p = bt x p := by
    unfold rNet
    rw [upd_ne (by omega), upd_at]
  cases hb : bt x p
  · rw [fst_F (by rw [en]; exact hb), e, if_neg (by decide)]
  · rw [fst_T (by rw [e]; exact hd p hb) (by rw [en]; exact hb), if_pos rfl]
theorem rNet_chOf {r : zrow} {x : Int32} (hc : cC r ≤ 5) (h8 : cN r < 8) (p : Nat) : chOf (rNet r x) p = chOf r p := by
  unfold chOf
  have k1 : cC (rNet r x) = cC r := by unfold cC; rw [rNet_k (by omega) (by omega)]
  rw [k1]
  exact fst_cg (fun i hi => by unfold hasP eN xN; rw [rNet_k (by omega) (by omega), rNet_k (by omega) (by omega), rNet_k (by omega) (by omega)])
theorem b_addNet {s : zs} {b : Nat} {R : zr} {r : zrow} (hB : zBr s b r) (hR : zRr R r) (hV : zVr r) {x : Int32} (hx : zTo x) (hd : ∀ p, bt x p = true → nOf r p = none) (h8 : cN r < 8) : ∃ s' R', f_X0_addNet s b x = some (nI (cN r), s') ∧ f_X7_addsNet R x = some (nI (cN r), R') ∧ zStp s s' b R R' r (rNet r x) := by
  have hn := hV.n
  have e0 : R 1 0 = nI (cN r) := (hR 0 (by decide)).trans hn.1
  have es : s.1 b 9 = nI (cN r) := hB.n.trans hn.1
  have es2 : (zc s (b + 1) (cN r) x).1 b 12 = s.1 b 12 := by rw [zc_ne (by omega)]
  -- the class
  have h := zli (fun k j y => f_X0_addNet_22 k y b x (nI j)) (fun j y => y.2 = s.2 ∧ (∀ a, a ≠ b + 2 → y.1 a = (zc (zc s (b + 1) (cN r) x) b 12 (s.1 b 12 ||| x)).1 a) ∧ ∀ p, y.1 (b + 2) p = if p < j ∧ bt x p = true then nI (cN r) else s.1 (b + 2) p) (fun o => ∃ y, o = some y ∧ y.2 = s.2 ∧ (∀ a, a ≠ b + 2 → y.1 a = (zc (zc s (b + 1) (cN r) x) b 12 (s.1 b 12 ||| x)).1 a) ∧ ∀ p, p < 16 → y.1 (b + 2) p = if bt x p = true then nI (cN r) else s.1 (b + 2) p) 16 (fun k j y hj ⟨y1, y2, y3⟩ => by
    have e1 : ¬ (16 : Int32) ≤ nI j := nI_ge hj (by decide)
    have e9 : y.1 b 9 = nI (cN r) := by rw [y2 b (by omega), zc_nk (by decide), zc_ne (by omega)]; exact es
    refine Or.inl ?_
    cases hb : bt x j
    · refine ⟨y, ⟨y1, y2, fun p => ?_⟩, ?_⟩
      · rw [y3 p]
        by_cases hp : p = j
        · rw [hp, hb, if_neg (by simp), if_neg (by simp)]
        · by_cases h9 : p < j
          · have : p < j + 1 := by omega
            simp only [h9, this, true_and]
          · have : ¬ p < j + 1 := by omega
            simp only [h9, this, false_and]
      · show f_X0_addNet_22 (k + 1) y b x (nI j) = _
        simp only [f_X0_addNet_22, e1, if_false, h6 _ (show j < 32 by omega), hb, Bool.false_eq_true, a1]
    · refine ⟨zc y (b + 2) j (nI (cN r)), ⟨y1, fun a ha => ?_, fun p => ?_⟩, ?_⟩
      · rw [zc_ne ha]
        exact y2 a ha
      · by_cases hp : p = j
        · rw [hp, zc_at, if_pos ⟨Nat.lt_succ_self j, hb⟩]
        · rw [zc_nk hp, y3 p]
          by_cases h9 : p < j
          · have : p < j + 1 := by omega
            simp only [h9, this, true_and]
          · have : ¬ p < j + 1 := by omega
            simp only [h9, this, false_and]
      · show f_X0_addNet_22 (k + 1) y b x (nI j) = _
        simp only [f_X0_addNet_22, e1, if_false, h6 _ (show j < 32 by omega), hb, if_true, zin_n hj (by decide), cl_n (show j < 2 ^ 31 by omega), e9, zlt, a1]) (fun k y ⟨y1, y2, y3⟩ => by
    refine ⟨y, ?_, y1, y2, fun p hp => ?_⟩
    · show f_X0_addNet_22 (k + 1) y b x (nI 16) = _
      simp only [f_X0_addNet_22, show (16 : Int32) ≤ nI 16 from nI_le (Nat.le_refl 16) (by decide), if_true]
    · rw [y3 p]
      simp only [hp, true_and]) 16 0 zFu (zc (zc s (b + 1) (cN r) x) b 12 (s.1 b 12 ||| x)) (by omega) (zfu (by omega)) ⟨rfl, fun _ _ => rfl, fun p => by
      rw [if_neg (fun q => absurd q.1 (Nat.not_lt_zero p)), zc_ne (by omega), zc_ne (by omega)]⟩
  obtain ⟨y, y0, y1, y2, y3⟩ := h
  have e9 : y.1 b 9 = nI (cN r) := by rw [y2 b (by omega), zc_nk (by decide), zc_ne (by omega)]; exact es
  have e10 : (zc y b 9 (nI (cN r + 1))).1 b 9 = nI (cN r + 1) := zc_at
  have ep : nI (cN r + 1) - 1 = nI (cN r) := nI_pred _
  have r0 : (zm R 1 (9 + cN r) x) 1 0 = nI (cN r) := by rw [zm_nk (by omega)]; exact e0
  have r1 : (zm (zm R 1 (9 + cN r) x) 1 0 (nI (cN r + 1))) 1 0 = nI (cN r + 1) := zm_at
  have hno := rNet_nOf (r := r) (x := x) hd h8
  have hch := rNet_chOf (r := r) (x := x) hV.c.2 h8
  refine ⟨zc y b 9 (nI (cN r + 1)), zm (zm R 1 (9 + cN r) x) 1 0 (nI (cN r + 1)), ?_, ?_, ⟨y1, fun a ha => ?_, fun a ha => ?_⟩, ⟨?_, (hR.up _ _).up _ _, rNet_V hV hx hd h8⟩, fun k hk => rNet_k (by omega) (by omega)⟩
  · simp only [f_X0_addNet, es, zin_n h8 (by decide), if_true, cl_n (show cN r < 2 ^ 31 by omega), zlt, es2]
    rw [show f_X0_addNet_22 zFu (zc (zc s (b + 1) (cN r) x) b 12 (s.1 b 12 ||| x)) b x 0 = some y from y0, Option.bind_some, e9, a1, e10, ep]
  · simp only [f_X7_addsNet, e0, a9, zin_n (show 9 + cN r < 88 by omega) (by decide), if_true, cl_n (show 9 + cN r < 2 ^ 31 by omega), zlt, r0, a1, r1, ep]
  · rw [zc_ne (by omega), y2 a (by omega), zc_ne (by omega), zc_ne (by omega)]
  · rw [zm_ne ha, zm_ne ha]
  · have yb : ∀ a, a ≠ b → a ≠ b + 1 → a ≠ b + 2 → (zc y b 9 (nI (cN r + 1))).1 a = s.1 a := fun a h1 h2 h3 => by rw [zc_ne h1, y2 a h3, zc_ne h1, zc_ne h2]
    have y0b : ∀ k, k ≠ 9 → k ≠ 12 → (zc y b 9 (nI (cN r + 1))).1 b k = s.1 b k := fun k h1 h2 => by rw [zc_nk h1, y2 b (by omega), zc_nk h2, zc_ne (by omega)]
    refine ⟨⟨?_, ?_, ?_⟩, fun i hi => ?_, fun p hp => ?_, fun c hc => ?_, fun f hf => ?_, fun p hp => ?_, fun p => ?_, fun p => ?_⟩
    · rw [e10]
      rfl
    · rw [y0b 10 (by decide) (by decide), rNet_k (by omega) (by omega)]
      exact hB.c
    · rw [y0b 11 (by decide) (by decide), rNet_k (by omega) (by omega)]
      exact hB.f
    · rw [zc_ne (by omega), y2 _ (by omega), zc_ne (by omega)]
      by_cases g : i = cN r
      · rw [g, zc_at]
        unfold rNet
        rw [upd_ne (by omega), upd_at]
      · rw [zc_nk g, rNet_k (by omega) (by omega)]
        exact hB.net hi
    · rw [zc_ne (by omega), y3 p hp, hno p]
      cases bt x p
      · exact hB.of hp
      · rfl
    · rw [yb _ (by omega) (by omega) (by omega), yb _ (by omega) (by omega) (by omega), yb _ (by omega) (by omega) (by omega), rNet_k (by omega) (by omega), rNet_k (by omega) (by omega), rNet_k (by omega) (by omega)]
      exact ⟨hB.e hc, hB.x hc, hB.l hc⟩
    · rw [yb _ (by omega) (by omega) (by omega), yb _ (by omega) (by omega) (by omega), yb _ (by omega) (by omega) (by omega), rNet_k (by omega) (by omega), rNet_k (by omega) (by omega), rNet_k (by omega) (by omega)]
      exact ⟨hB.k hf, hB.o hf, hB.t hf⟩
    · rw [yb _ (by omega) (by omega) (by omega), rNet_k (by omega) (by omega)]
      exact hB.bl hp
    · rw [zc_nk (by decide), y2 b (by omega), zc_at, b_or, hB.pn p, hno p]
      cases bt x p
      · rw [Bool.or_false, if_neg (by decide)]
      · rw [Bool.or_true, if_pos rfl]
        rfl
    · rw [y0b 13 (by decide) (by decide), hch p]
      exact hB.pc p
theorem q_net {s : zs} {R : zr} (h : zInv s R) (x1 : Int32) : zPr (f_X6_net s x1) (f_X7_net R x1) := by
  have h0 := h
  obtain ⟨⟨r, hc⟩, -⟩ := h
  have hV := hc.V
  unfold f_X6_net f_X7_net
  rw [show sB 74 = 64 from rfl]
  obtain ⟨g1, g2⟩ := b_checkNet hc.B hc.R hV x1
  rw [g1, Option.bind_some]
  simp only [zlt]
  by_cases g : f_X0_refusalOfNet s 64 x1 = 0
  · obtain ⟨d1, d2, d3⟩ := g2 g
    obtain ⟨v, T, k1, k2, k3, k4, k5, hv⟩ := q_keep h0
    have hcv : zCu v T r := hc.cgs (fun a ha => k3 a (by omega)) (k4 1 (by decide) (by decide))
    obtain ⟨s', R', e1, e2, e3⟩ := b_addNet hcv.B hcv.R hV d1 d2 d3
    rw [if_pos g, if_pos g, k1, k2, Option.bind_some, Option.bind_some, e1, e2]
    exact ⟨_, _, _, rfl, rfl, hv.step hcv e3⟩
  · rw [if_neg g, if_neg g]
    exact ⟨_, _, _, rfl, rfl, h0⟩
