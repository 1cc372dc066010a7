/-! the invariant between both sides, and the calls that ask -/
/-- a state of the class is the row's -/
def zSx (s : zs) (x : Nat) (r : zrow) : Prop := zBr s (sB x) r ∧ (∀ f, f < 10 → s.1 (sD x) f = r (62 + f)) ∧ (s.1 x 2 = r 3 ∧ s.1 x 3 = f_X7_slotOf (r 6) ∧ s.1 x 4 = r 7) ∧ s.1 x 5 = r 4 ∧ s.1 x 6 = r 5 ∧ s.1 x 7 = r 8
def zCu (s : zs) (R : zr) (r : zrow) : Prop := zVr r ∧ zRr R r ∧ zSx s 74 r ∧ ∀ i, i ≤ 10 → s.1 (87 + 3 * i) 1 = nI i
theorem zCu.V {s : zs} {R : zr} {r : zrow} (h : zCu s R r) : zVr r := h.1
theorem zCu.R {s : zs} {R : zr} {r : zrow} (h : zCu s R r) : zRr R r := h.2.1
theorem zCu.B {s : zs} {R : zr} {r : zrow} (h : zCu s R r) : zBr s 64 r := h.2.2.1.1
theorem zCu.I {s : zs} {R : zr} {r : zrow} (h : zCu s R r) : zIs s r := ⟨h.B, h.2.2.2⟩
theorem zCu.D {s : zs} {R : zr} {r : zrow} (h : zCu s R r) {f : Nat} (hf : f < 10) : s.1 75 f = r (62 + f) := h.2.2.1.2.1 f hf
theorem zCu.f2 {s : zs} {R : zr} {r : zrow} (h : zCu s R r) : s.1 74 2 = r 3 := h.2.2.1.2.2.1.1
theorem zCu.f3 {s : zs} {R : zr} {r : zrow} (h : zCu s R r) : s.1 74 3 = f_X7_slotOf (r 6) := h.2.2.1.2.2.1.2.1
theorem zCu.f4 {s : zs} {R : zr} {r : zrow} (h : zCu s R r) : s.1 74 4 = r 7 := h.2.2.1.2.2.1.2.2
theorem zCu.f5 {s : zs} {R : zr} {r : zrow} (h : zCu s R r) : s.1 74 5 = r 4 := h.2.2.1.2.2.2.1
theorem zCu.f6 {s : zs} {R : zr} {r : zrow} (h : zCu s R r) : s.1 74 6 = r 5 := h.2.2.1.2.2.2.2.1
theorem zCu.f7 {s : zs} {R : zr} {r : zrow} (h : zCu s R r) : s.1 74 7 = r 8 := h.2.2.1.2.2.2.2.2
def zPm (s : zs) : Prop := ∀ i, i < 4 → (s.2 i = 3 ∨ s.2 i = 15 ∨ s.2 i = 27 ∨ s.2 i = 39) ∧ ∀ j, j < i → s.2 j ≠ s.2 i
def zHi (s : zs) (R : zr) : Prop := zPm s ∧ ∃ n, n ≤ 4 ∧ s.1 1 1 = nI n ∧ R 0 3 = nI n ∧ ∀ i, i < n → ∃ r, zVr r ∧ zSx s (s.2 i) r ∧ ∀ k, k < 88 → R 2 (88 * i + k) = r k
def zTx (s : zs) (R : zr) : Prop := ∃ n, n ≤ 100 ∧ s.1 51 3 = nI n ∧ R 0 7 = nI n ∧ ∀ j, j < n → ∃ c, 32 ≤ c ∧ c ≤ 126 ∧ s.1 62 j = nI c ∧ R 6 j = nI c
def zInv (s : zs) (R : zr) : Prop := (∃ r, zCu s R r) ∧ zHi s R ∧ zTx s R
/-- what measuring changes touches nothing of it -/
def zKm (s s' : zs) : Prop := s'.2 = s.2 ∧ (∀ a, a < 76 → s'.1 a = s.1 a) ∧ ∀ i, i ≤ 10 → s'.1 (87 + 3 * i) 1 = s.1 (87 + 3 * i) 1
theorem zKw.m {s s' : zs} (h : zKw s s') : zKm s s' := ⟨h.1, fun a ha => h.2.1 a (by omega), h.2.2.2⟩
theorem zKu.m {s s' : zs} (h : zKu s s') : zKm s s' := h.w.m
theorem zKm.tr {s t u : zs} (h : zKm s t) (h2 : zKm t u) : zKm s u := ⟨h2.1.trans h.1, fun a ha => (h2.2.1 a ha).trans (h.2.1 a ha), fun i hi => (h2.2.2 i hi).trans (h.2.2 i hi)⟩
theorem zIs.gom {s s' : zs} {r : zrow} (h : zIs s r) (k : zKm s s') : zIs s' r := ⟨h.1.cg (fun a h1 h2 => k.2.1 a (by omega)), fun i hi => (k.2.2 i hi).trans (h.2 i hi)⟩
/-- the state x reads cells from x on -/
theorem zSx.cg {s s' : zs} {x : Nat} {r : zrow} (h : zSx s x r) (hx : x = 74 ∨ x = 3 ∨ x = 15 ∨ x = 27 ∨ x = 39) (e : ∀ a, sB x ≤ a → a < sB x + 10 → s'.1 a = s.1 a) (e1 : s'.1 (sD x) = s.1 (sD x)) (e2 : s'.1 x = s.1 x) : zSx s' x r := by
  obtain ⟨a, b, c⟩ := h
  refine ⟨a.cg e, fun f hf => by rw [e1]; exact b f hf, ?_⟩
  rw [e2]
  exact c
theorem zCu.go {s s' : zs} {R R' : zr} {r : zrow} (h : zCu s R r) (k : zKm s s') (k2 : zKr R R') : zCu s' R' r := by
  obtain ⟨a, b, c, d⟩ := h
  refine ⟨a, b.go k2, c.cg (Or.inl rfl) (fun q h1 h2 => k.2.1 q ?_) (k.2.1 _ (by decide)) (k.2.1 _ (by decide)), fun i hi => (k.2.2 i hi).trans (d i hi)⟩
  have : sB 74 = 64 := rfl
  omega
theorem sB_lt {x : Nat} (hx : x = 3 ∨ x = 15 ∨ x = 27 ∨ x = 39) : sB x + 10 ≤ 51 := by
  rcases hx with h | h | h | h <;> rw [h] <;> decide
theorem zInv.go {s s' : zs} {R R' : zr} (h : zInv s R) (k : zKm s s') (k2 : zKr R R') : zInv s' R' := by
  obtain ⟨⟨r, hr⟩, ⟨hp, n, hn, h1, h2, h3⟩, m, hm, t1, t2, t3⟩ := h
  refine ⟨⟨r, hr.go k k2⟩, ⟨?_, n, hn, ?_, ?_, ?_⟩, m, hm, ?_, ?_, ?_⟩
  · unfold zPm
    rw [k.1]
    exact hp
  · rw [k.2.1 1 (by decide)]
    exact h1
  · rw [k2 0 (by decide) (by decide)]
    exact h2
  · intro i hi
    obtain ⟨q, q1, q2, q3⟩ := h3 i hi
    have hx := (hp i (by omega)).1
    refine ⟨q, q1, ?_, fun k hk => ?_⟩
    · rw [k.1]
      refine q2.cg (Or.inr hx) (fun a h1 h2 => k.2.1 a ?_) (k.2.1 _ ?_) (k.2.1 _ ?_)
      · have := sB_lt hx
        omega
      · rcases hx with h | h | h | h <;> rw [h] <;> decide
      · rcases hx with h | h | h | h <;> rw [h] <;> decide
    · rw [k2 2 (by decide) (by decide)]
      exact q3 k hk
  · rw [k.2.1 51 (by decide)]
    exact t1
  · rw [k2 0 (by decide) (by decide)]
    exact t2
  · intro j hj
    rw [k.2.1 62 (by decide), k2 6 (by decide) (by decide)]
    exact t3 j hj
/-- both sides answer alike, and go on alike -/
def zPr (a : Option (Int32 × zs)) (b : Option (Int32 × zr)) : Prop := ∃ v s' R', a = some (v, s') ∧ b = some (v, R') ∧ zInv s' R'
/-! arguments -/
theorem g_pin (x : Int32) : (∃ p, p < 16 ∧ x = nI p ∧ f_X6_isPin x = true ∧ f_X7_isIn x 0 15 = true) ∨ (f_X6_isPin x = false ∧ f_X7_isIn x 0 15 = false) := by
  unfold f_X6_isPin
  rcases n_cs x with h | ⟨m, hm, rfl⟩
  · exact Or.inr ⟨if_pos h, isIn_neg h (a := 0) (by decide) 15⟩
  · have e : f_X7_isIn (nI m) 0 15 = _ := isIn_n (a := 0) (b := 15) hm (by decide) (by decide)
    rw [if_neg (nI_pos hm), e]
    by_cases h : m < 16
    · exact Or.inl ⟨m, h, rfl, if_neg (nI_ge h (by decide)), by rw [decide_eq_true (Nat.zero_le m), decide_eq_true (show m ≤ 15 by omega)]; rfl⟩
    · exact Or.inr ⟨if_pos (nI_le (a := 16) (by omega) hm), by rw [decide_eq_false (show ¬ m ≤ 15 by omega), Bool.and_false]⟩
theorem g_fault {s : zs} {R : zr} {r : zrow} (h : zCu s R r) (x : Int32) : (∃ i, i < cF r ∧ x = nI i ∧ f_X0_isFault s 64 x = true ∧ f_X7_isFault R x = true) ∨ (f_X0_isFault s 64 x = false ∧ f_X7_isFault R x = false) := by
  have hf := h.V.f
  have e0 : R 1 2 = nI (cF r) := (h.R 2 (by omega)).trans hf.1
  rcases n_cs x with hx | ⟨m, hm, rfl⟩
  · refine Or.inr ⟨if_pos hx, isIn_neg hx (a := 0) (by decide) _⟩
  · rw [c_isFault h.B h.V hm]
    unfold f_X7_isFault
    rw [e0]
    have hq : f_X7_isIn (nI m) 0 (nI (cF r) - 1) = decide (m < cF r) := by
      by_cases h0 : cF r = 0
      · rw [h0]
        unfold f_X7_isIn
        rw [if_neg (nI_pos hm), if_pos (show nI 0 - 1 < nI m from Int32.lt_of_lt_of_le (by decide) (nI_pos' hm)), decide_eq_false (by omega)]
      · rw [show nI (cF r) - 1 = nI (cF r - 1) from pk_sub (b := 1) (by omega)]
        have e : f_X7_isIn (nI m) 0 (nI (cF r - 1)) = _ := isIn_n (a := 0) hm (by decide) (by omega)
        rw [e, decide_eq_true (Nat.zero_le m), Bool.true_and, Bool.eq_iff_iff, decide_eq_true_eq, decide_eq_true_eq]
        omega
    rw [hq]
    by_cases hl : m < cF r
    · exact Or.inl ⟨m, hl, rfl, decide_eq_true hl, decide_eq_true hl⟩
    · exact Or.inr ⟨decide_eq_false hl, decide_eq_false hl⟩
theorem g_faultN {s : zs} {R : zr} {r : zrow} (h : zCu s R r) (x : Int32) : (∃ i, sOk r i ∧ x = sI i ∧ f_X6_isFaultOrNone s x = true ∧ f_X7_isFaultOrNone R x = true ∧ f_X6_suspectFor x = nI i) ∨ (f_X6_isFaultOrNone s x = false ∧ f_X7_isFaultOrNone R x = false) := by
  have hf := h.V.f
  have e0 : R 1 2 = nI (cF r) := (h.R 2 (by omega)).trans hf.1
  unfold f_X6_isFaultOrNone f_X7_isFaultOrNone f_X6_suspectFor
  rw [e0]
  by_cases h1 : x = -1
  · subst h1
    refine Or.inl ⟨10, Or.inr rfl, rfl, if_pos rfl, ?_, if_pos rfl⟩
    unfold f_X7_isIn
    rw [if_neg (by decide)]
    have : ∀ n, n < 11 → ¬ nI n - 1 < -1 := by decide +kernel
    rw [if_neg (this _ (by omega))]
  · rw [if_neg h1, if_neg h1]
    have hb := g_fault h x
    unfold f_X7_isFault at hb
    rw [e0] at hb
    have hm : f_X7_isIn x (-1) (nI (cF r) - 1) = f_X7_isIn x 0 (nI (cF r) - 1) := by
      unfold f_X7_isIn
      rcases n_cs x with hx | ⟨m, hm, rfl⟩
      · have h2 : x < -1 := by
          rw [Int32.lt_iff_toInt_lt] at hx ⊢
          have h3 : x.toInt ≠ (-1 : Int32).toInt := fun q => h1 (Int32.toInt_inj.mp q)
          have h4 : (0 : Int32).toInt = 0 := by decide
          have h5 : (-1 : Int32).toInt = -1 := by decide
          omega
        rw [if_pos h2, if_pos hx]
      · have h2 : ¬ nI m < -1 := fun q => nI_pos hm (Int32.lt_trans q (by decide))
        rw [if_neg h2, if_neg (nI_pos hm)]
    rw [hm]
    show _ ∨ ((if f_X0_isFault s 64 x = true then true else false) = false ∧ _)
    rcases hb with ⟨i, hi, rfl, b1, b2⟩ | ⟨b1, b2⟩
    · refine Or.inl ⟨i, Or.inl hi, (sI_n (by omega)).symm, ?_, b2, rfl⟩
      show (if f_X0_isFault s 64 (nI i) = true then true else false) = true
      rw [b1]
      rfl
    · exact Or.inr ⟨by rw [b1]; rfl, b2⟩
/-! the queries -/
theorem f2_eq (x : Int32) : f_X6_foundOrNot x = f_X7_orMissing x := rfl
theorem wd_n {x : Int32} {n : Nat} (hx : x = nI n) (hn : n < 2 ^ 31) : x - x / 7 * 7 = nI (n % 7) := by
  rw [hx]
  exact pk_rem hn (d := 7) (by decide) (by decide)
/-- what can be touched now -/
def tN' (r : zrow) : Int32 := tO r (dN r % 7) ||| r 5
theorem tN_to {r : zrow} (hV : zVr r) : zTo (tN' r) := or_to (tO_to _ _) hV.vch
theorem c_touchedNow {s : zs} {R : zr} {r : zrow} (h : zCu s R r) : f_X4_touchedNow s 74 = some (tN' r) := by
  have hd := h.V.day
  have e : f_X4_weekday s 74 = nI (dN r % 7) := wd_n (h.f2.trans hd.1) (by omega)
  unfold f_X4_touchedNow
  rw [e, show sB 74 = 64 from rfl, c_blessedOn h.B (show dN r % 7 < 32 by omega), Option.bind_some, h.f6]
  rfl
theorem r_touchedNow {R : zr} {r : zrow} (hR : zRr R r) (hV : zVr r) : f_X7_touchedNow R = some (tN' r) := by
  have hd := hV.day
  have e : f_X7_weekday R = nI (dN r % 7) := wd_n ((hR 3 (by decide)).trans hd.1) (by omega)
  unfold f_X7_touchedNow
  rw [e, r_touchedOn hR (show dN r % 7 < 32 by omega), Option.bind_some, hR 5 (by decide)]
  rfl
theorem q_pinOf {s : zs} {R : zr} (h : zInv s R) (x1 x2 : Int32) : ∃ v, f_X6_pinOf s x1 x2 = some v ∧ f_X7_pinOf R x1 x2 = some v := by
  obtain ⟨⟨r, hc⟩, -⟩ := h
  have hV := hc.V
  rcases g_pin x1 with ⟨p, hp, rfl, g1, g2⟩ | ⟨g1, g2⟩
  · have hB : zBr s (sB 74) r := hc.B
    have hch : zo (chOf r p) = -1 ↔ chOf r p = none := zo_m1 (fun j hj => by have := fst_lt hj; have := hV.c.2; omega)
    simp only [f_X6_pinOf, f_X7_pinOf, g1, g2, if_true, r_chipOf hc.R hV (show p < 32 by omega), Option.bind_some, r_netOf hc.R hV (show p < 32 by omega), zin_n hp (by decide), cl_n (show p < 2 ^ 31 by omega), hB.of hp, c_chipWith hB hV (show p < 32 by omega), c_roleOf hB hV (show p < 32 by omega), hB.bl hp, a72, zin_n (show 72 + p < 88 by omega) (by decide), cl_n (show 72 + p < 2 ^ 31 by omega), hc.R (72 + p) (by omega), c_touchedNow hc, r_touchedNow hc.R hV, h6 _ (show p < 32 by omega), h7 _ (show p < 32 by omega)]
    rcases n_cs x2 with hx | ⟨m, hm, rfl⟩
    · rw [show f_X7_isIn x2 0 4 = false from isIn_neg hx (a := 0) (by decide) 4]
      have hne : ∀ c : Int32, ¬ c < 0 → ¬ x2 = c := fun c hc q => hc (by rw [← q]; exact hx)
      rw [if_neg (hne 0 (by decide)), if_neg (hne 1 (by decide)), if_neg (hne 2 (by decide)), if_neg (hne 3 (by decide)), if_neg (hne 4 (by decide)), if_neg (by decide)]
      exact ⟨_, rfl, rfl⟩
    · have e : f_X7_isIn (nI m) 0 4 = _ := isIn_n (a := 0) (b := 4) hm (by decide) (by decide)
      rw [e]
      by_cases h5 : m ≤ 4
      · rw [decide_eq_true h5, decide_eq_true (Nat.zero_le m), if_pos (show (true && true) = true from rfl)]
        rcases (show m = 0 ∨ m = 1 ∨ m = 2 ∨ m = 3 ∨ m = 4 by omega) with rfl | rfl | rfl | rfl | rfl
        · exact ⟨_, rfl, rfl⟩
        · exact ⟨_, rfl, rfl⟩
        · show ∃ v, some (f_X6_foundOrNot (match chOf r p with | none => -1 | some c => zo (role r c p))) = some v ∧ (if zo (chOf r p) = -1 then some (-1000004) else Option.bind (f_X7_roleOf R (zo (chOf r p)) (nI p)) fun v10 => some v10) = some v
          cases hcc : chOf r p with
          | none => exact ⟨_, rfl, rfl⟩
          | some c =>
            have hcl : c < cC r := fst_lt hcc
            have hq : hasP r c p = true := (fst_some.mp hcc).2.1
            have h5c := hV.c.2
            rw [show zo (some c) = nI c from rfl, if_neg (m1_ne (by omega)), r_roleOf hc.R hV hcl (show p < 32 by omega)]
            refine ⟨_, rfl, ?_⟩
            cases hr : role r c p with
            | none =>
              have := role_some (r := r) (c := c) (p := p)
              rw [hr, hq] at this
              cases this
            | some j =>
              have := role_lt hr
              show some (nI j) = some (f_X6_foundOrNot (zo (role r c p)))
              rw [hr]
              show some (nI j) = some (if nI j = -1 then _ else nI j)
              rw [if_neg (m1_ne (by omega))]
        · exact ⟨_, rfl, rfl⟩
        · show ∃ v, (if bt (tN' r) p = true then some 1 else some 0) = some v ∧ (if bt (tN' r) p = true then some 1 else some 0) = some v
          cases bt (tN' r) p <;> exact ⟨_, rfl, rfl⟩
      · rw [decide_eq_false h5, Bool.and_false, if_neg (by decide : ¬ false = true)]
        have hne : ∀ c, c ≤ 4 → ¬ nI m = nI c := fun c hc q => by have := (nI_eq hm (by omega)).mp q; omega
        rw [if_neg (show ¬ nI m = 0 from hne 0 (by decide)), if_neg (show ¬ nI m = 1 from hne 1 (by decide)), if_neg (show ¬ nI m = 2 from hne 2 (by decide)), if_neg (show ¬ nI m = 3 from hne 3 (by decide)), if_neg (show ¬ nI m = 4 from hne 4 (by decide))]
        exact ⟨_, rfl, rfl⟩
  · unfold f_X6_pinOf f_X7_pinOf
    rw [g1, g2]
    exact ⟨_, rfl, rfl⟩
theorem q_faultOf {s : zs} {R : zr} (h : zInv s R) (x1 x2 : Int32) : ∃ v, f_X6_faultOf s x1 x2 = some v ∧ f_X7_faultOf R x1 x2 = some v := by
  obtain ⟨⟨r, hc⟩, -⟩ := h
  have hV := hc.V
  have hf := hV.f.2
  unfold f_X6_faultOf f_X7_faultOf
  rw [show sB 74 = 64 from rfl, show sD 74 = 75 from rfl]
  rcases g_fault hc x1 with ⟨i, hi, rfl, g1, g2⟩ | ⟨g1, g2⟩
  · have hB := hc.B
    obtain ⟨hk1, ho1, -, -, ht1, -⟩ := hV.flt hi
    simp only [g1, g2, if_true, zin_n (show i < 10 by omega) (by decide), cl_n (show i < 2 ^ 31 by omega), hB.k (show i < 10 by omega), hB.o (show i < 10 by omega), hB.t (show i < 10 by omega), hc.D (show i < 10 by omega), a32, a42, a52, a62, zin_n (show 32 + i < 88 by omega) (by decide), zin_n (show 42 + i < 88 by omega) (by decide), zin_n (show 52 + i < 88 by omega) (by decide), zin_n (show 62 + i < 88 by omega) (by decide), cl_n (show 32 + i < 2 ^ 31 by omega), cl_n (show 42 + i < 2 ^ 31 by omega), cl_n (show 52 + i < 2 ^ 31 by omega), cl_n (show 62 + i < 2 ^ 31 by omega), hc.R (32 + i) (by omega), hc.R (42 + i) (by omega), hc.R (52 + i) (by omega), hc.R (62 + i) (by omega)]
    rcases n_cs x2 with hx | ⟨m, hm, rfl⟩
    · rw [show f_X7_isIn x2 0 3 = false from isIn_neg hx (a := 0) (by decide) 3]
      have hne : ∀ c : Int32, ¬ c < 0 → ¬ x2 = c := fun c hc q => hc (by rw [← q]; exact hx)
      rw [if_neg (hne 0 (by decide)), if_neg (hne 1 (by decide)), if_neg (hne 2 (by decide)), if_neg (hne 3 (by decide)), if_neg (by decide)]
      exact ⟨_, rfl, rfl⟩
    · have e : f_X7_isIn (nI m) 0 3 = _ := isIn_n (a := 0) (b := 3) hm (by decide) (by decide)
      rw [e]
      by_cases h5 : m ≤ 3
      · rw [decide_eq_true h5, decide_eq_true (Nat.zero_le m), if_pos (show (true && true) = true from rfl)]
        rcases (show m = 0 ∨ m = 1 ∨ m = 2 ∨ m = 3 by omega) with rfl | rfl | rfl | rfl
        · exact ⟨_, rfl, rfl⟩
        · exact ⟨_, rfl, rfl⟩
        · show ∃ v, (if r (32 + i) = 1 then some (r (52 + i)) else some (-1000004)) = some v ∧ (if r (32 + i) = 1 then some (r (52 + i)) else some (-1000004)) = some v
          by_cases h1 : r (32 + i) = 1
          · rw [if_pos h1]
            exact ⟨_, rfl, rfl⟩
          · rw [if_neg h1]
            exact ⟨_, rfl, rfl⟩
        · exact ⟨_, rfl, rfl⟩
      · rw [decide_eq_false h5, Bool.and_false, if_neg (by decide : ¬ false = true)]
        have hne : ∀ c, c ≤ 3 → ¬ nI m = nI c := fun c hc q => by have := (nI_eq hm (by omega)).mp q; omega
        rw [if_neg (show ¬ nI m = 0 from hne 0 (by decide)), if_neg (show ¬ nI m = 1 from hne 1 (by decide)), if_neg (show ¬ nI m = 2 from hne 2 (by decide)), if_neg (show ¬ nI m = 3 from hne 3 (by decide))]
        exact ⟨_, rfl, rfl⟩
  · rw [g1, g2]
    exact ⟨_, rfl, rfl⟩
theorem b_127 : ∀ k, k < 32 → bt 127 k = decide (k < 7) := by decide +kernel
theorem dA_bt (r : zrow) (i j k : Nat) : bt (dA r i j) k = (decide (k < 7) && lk r (tO r k) i j) := bt_mk (by decide) _ _
theorem not_127 {x : Int32} (h : ∀ k, 7 ≤ k → bt x k = false) : (127 : Int32) &&& (x ^^^ (-1)) = 127 - x := by
  have : ∃ m, m < 128 ∧ x = nI m := by
    have h2 : x = x &&& 127 := by
      apply b_ext
      intro i hi
      rw [b_and, b_127 i hi]
      rcases Nat.lt_or_ge i 7 with h3 | h3
      · simp [h3]
      · simp [h i h3]
    obtain ⟨j, hj, e⟩ := pk_andE x (m := 127) 7 (by decide)
    exact ⟨j, hj, h2.trans e⟩
  obtain ⟨m, hm, rfl⟩ := this
  exact (by decide +kernel : ∀ m, m < 128 → (127 : Int32) &&& (nI m ^^^ (-1)) = 127 - nI m) m hm
theorem sB74 : sB 74 = 64 := rfl
/-- the twin, as a number -/
def twq (r : zrow) (i j : Nat) : Bool := !decide (j = i) && decide (dA r i j = 127)
