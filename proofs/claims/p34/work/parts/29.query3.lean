/-! wanted, share, bestDay, count -/
/-- a fault is told by what is touched -/
def tl (r : zrow) (i : Nat) (t : Int32) : Bool := !(lk r t i 10)
/-- both boards are set up -/
def zTw (s : zs) (r : zrow) (i : Nat) : Prop := zIs s r ∧ zUs s i r ∧ zUs s 10 r
def bi (n : Nat) : Int32 := (1 : Int32) <<< (nI n &&& 31)
theorem bi_to {n : Nat} (hn : n < 16) : zTo (bi n) := bit_to hn
/-- what one more pin, or two more, tell -/
def wq1 (r : zrow) (i : Nat) (t : Int32) (p : Nat) : Bool := tl r i (t ||| bi p)
def wq2 (r : zrow) (i : Nat) (t : Int32) (h p : Nat) : Bool := tl r i ((t ||| bi h) ||| bi p)
def wq3 (r : zrow) (i : Nat) (t : Int32) (h : Nat) : Bool := (fst h (wq2 r i t h)).isSome
def wS (r : zrow) (i : Nat) (t : Int32) : Int32 := if tl r i t = true then 0 else match fst 16 (wq1 r i t) with
  | some p => bi p
  | none => match fst 16 (wq3 r i t) with
    | none => -1
    | some h => match fst h (wq2 r i t h) with
      | none => -1
      | some p => bi h ||| bi p
theorem wS_to (r : zrow) (i : Nat) (t : Int32) : wS r i t = -1 ∨ zTo (wS r i t) := by
  unfold wS
  split
  · exact Or.inr (fun p _ => b_0 p)
  · split
    · next p hp => exact Or.inr (bi_to (fst_some.mp hp).1)
    · split
      · exact Or.inl rfl
      · next h hh =>
        have h16 := (fst_some.mp hh).1
        split
        · exact Or.inl rfl
        · next p hp => exact Or.inr (or_to (bi_to h16) (bi_to (by have := (fst_some.mp hp).1; omega)))
def wP (r : zrow) (i : Nat) (t : Int32) : Option Int32 := match fst 16 (wq3 r i t) with
  | none => none
  | some h => match fst h (wq2 r i t h) with
    | none => none
    | some p => some (bi h ||| bi p)
theorem wS_eq (r : zrow) (i : Nat) (t : Int32) : wS r i t = if tl r i t = true then 0 else match fst 16 (wq1 r i t) with
  | some p => bi p
  | none => match wP r i t with
    | none => -1
    | some v => v := by
  unfold wS wP
  cases fst 16 (wq1 r i t) with
  | some p => rfl
  | none =>
    cases fst 16 (wq3 r i t) with
    | none => rfl
    | some h =>
      show (if tl r i t = true then 0 else match fst h (wq2 r i t h) with | none => -1 | some p => bi h ||| bi p) = if tl r i t = true then 0 else match (match fst h (wq2 r i t h) with | none => none | some p => some (bi h ||| bi p)) with | none => -1 | some v => v
      cases fst h (wq2 r i t h) <;> rfl
/-! the same in the reference -/
theorem or_bi {t : Int32} {p : Nat} (hp : p < 32) (h : bt t p = true) : t ||| bi p = t := or_bit hp h
theorem or_as (x y z : Int32) : (x ||| y) ||| z = x ||| (y ||| z) := b_ext fun i _ => by rw [b_or, b_or, b_or, b_or, Bool.or_assoc]
theorem or_cm (x y : Int32) : x ||| y = y ||| x := b_ext fun i _ => by rw [b_or, b_or, Bool.or_comm]
theorem and_bi2 {t : Int32} {h p : Nat} (hh : h < 16) (hp : p < 16) : t &&& (bi h ||| bi p) = 0 ↔ bt t h = false ∧ bt t p = false := by
  constructor
  · intro q
    have h1 : ∀ k, bt (t &&& (bi h ||| bi p)) k = false := fun k => by rw [q]; exact b_0 k
    have a := h1 h
    have b := h1 p
    unfold bi at a b
    rw [b_and, b_or, b_bit (by omega) (by omega), decide_eq_true rfl, Bool.true_or, Bool.and_true] at a
    rw [b_and, b_or, b_bit (by omega : p < 32) (by omega : p < 32), decide_eq_true rfl, Bool.or_true, Bool.and_true] at b
    exact ⟨a, b⟩
  · rintro ⟨a, b⟩
    apply b_ext
    intro k hk
    unfold bi
    rw [b_and, b_or, b_bit (by omega) hk, b_bit (by omega) hk, b_0]
    by_cases h1 : k = h
    · rw [h1, a, Bool.false_and]
    · by_cases h2 : k = p
      · rw [h2, b, Bool.false_and]
      · rw [decide_eq_false h1, decide_eq_false h2]
        exact Bool.and_false _
theorem r_ws13 {R : zr} {r : zrow} (hR : zRr R r) (hV : zVr r) {i : Nat} (hi : i < cF r) {t : Int32} (ht : zTo t) (h0 : tl r i t = false) : ∃ R', zKr R R' ∧ f_X7_wantedSet_13 zFu R (nI i) t 0 = some (match fst 16 (wq1 r i t) with | some p => Sum.inr (bi p, R') | none => Sum.inl R') := by
  have h := zli (fun k p x => f_X7_wantedSet_13 k x (nI i) t (nI p)) (fun p x => zKr R x ∧ ∀ l, l < p → wq1 r i t l = false) (fun o => ∃ R', zKr R R' ∧ o = some (match fst 16 (wq1 r i t) with | some p => Sum.inr (bi p, R') | none => Sum.inl R')) 16 (fun k p x hp ⟨x1, x3⟩ => by
    have e1 : ¬ (16 : Int32) ≤ nI p := nI_ge hp (by decide)
    obtain ⟨y, y1, y2⟩ := r_isTold (hR.go x1) hV hi (or_to ht (bi_to hp))
    have y1' : f_X7_isTold x (nI i) (t ||| ((1 : Int32) <<< (nI p &&& 31))) = some (wq1 r i t p, y) := y1
    cases hb : bt t p
    · cases hq : wq1 r i t p
      · refine Or.inl ⟨y, ⟨x1.tr y2, fun l hl => ?_⟩, ?_⟩
        · by_cases h : l = p
          · rw [h]
            exact hq
          · exact x3 l (by omega)
        · show f_X7_wantedSet_13 (k + 1) x (nI i) t (nI p) = _
          simp only [f_X7_wantedSet_13, e1, if_false, h7 _ (show p < 32 by omega), hb, y1', Option.bind_some, hq, Bool.false_eq_true, a1]
      · refine Or.inr ⟨y, x1.tr y2, ?_⟩
        rw [fst_some.mpr ⟨hp, hq, x3⟩]
        show f_X7_wantedSet_13 (k + 1) x (nI i) t (nI p) = _
        simp only [f_X7_wantedSet_13, e1, if_false, h7 _ (show p < 32 by omega), hb, y1', Option.bind_some, hq, Bool.false_eq_true, if_true]
        rfl
    · have hq : wq1 r i t p = false := by
        unfold wq1
        rw [or_bi (by omega) hb]
        exact h0
      refine Or.inl ⟨x, ⟨x1, fun l hl => ?_⟩, ?_⟩
      · by_cases h : l = p
        · rw [h]
          exact hq
        · exact x3 l (by omega)
      · show f_X7_wantedSet_13 (k + 1) x (nI i) t (nI p) = _
        simp only [f_X7_wantedSet_13, e1, if_false, h7 _ (show p < 32 by omega), hb, if_true, a1]) (fun k x ⟨x1, x3⟩ => by
    refine ⟨x, x1, ?_⟩
    rw [fst_none.mpr x3]
    show f_X7_wantedSet_13 (k + 1) x (nI i) t (nI 16) = _
    simp only [f_X7_wantedSet_13, show (16 : Int32) ≤ nI 16 from nI_le (Nat.le_refl 16) (by decide), if_true]) 16 0 zFu R (by omega) (zfu (by omega)) ⟨zKr.rfl' R, fun l hl => absurd hl (Nat.not_lt_zero l)⟩
  exact h
theorem r_ws61 {R : zr} {r : zrow} (hR : zRr R r) (hV : zVr r) {i : Nat} (hi : i < cF r) {t : Int32} (ht : zTo t) (h1 : ∀ p, p < 16 → wq1 r i t p = false) {q : Nat} (hq16 : q < 16) : ∃ R', zKr R R' ∧ f_X7_wantedSet_61 zFu R (nI i) t (nI q) 0 = some (match fst q (wq2 r i t q) with | some p => Sum.inr (bi q ||| bi p, R') | none => Sum.inl R') := by
  have h := zli (fun k p x => f_X7_wantedSet_61 k x (nI i) t (nI q) (nI p)) (fun p x => zKr R x ∧ ∀ l, l < p → wq2 r i t q l = false) (fun o => ∃ R', zKr R R' ∧ o = some (match fst q (wq2 r i t q) with | some p => Sum.inr (bi q ||| bi p, R') | none => Sum.inl R')) q (fun k p x hp ⟨x1, x3⟩ => by
    have e1 : ¬ nI q ≤ nI p := nI_ge hp (by omega)
    obtain ⟨y, y1, y2⟩ := r_isTold (hR.go x1) hV hi (or_to ht (or_to (bi_to hq16) (bi_to (show p < 16 by omega))))
    have y1' : f_X7_isTold x (nI i) (t ||| (((1 : Int32) <<< (nI q &&& 31)) ||| ((1 : Int32) <<< (nI p &&& 31)))) = some (wq2 r i t q p, y) := by
      unfold wq2
      rw [or_as]
      exact y1
    by_cases hb : t &&& (((1 : Int32) <<< (nI q &&& 31)) ||| ((1 : Int32) <<< (nI p &&& 31))) = 0
    · cases hq : wq2 r i t q p
      · refine Or.inl ⟨y, ⟨x1.tr y2, fun l hl => ?_⟩, ?_⟩
        · by_cases h : l = p
          · rw [h]
            exact hq
          · exact x3 l (by omega)
        · show f_X7_wantedSet_61 (k + 1) x (nI i) t (nI q) (nI p) = _
          simp only [f_X7_wantedSet_61, e1, if_false, zlt, hb, if_true, y1', Option.bind_some, hq, Bool.false_eq_true, a1]
      · refine Or.inr ⟨y, x1.tr y2, ?_⟩
        rw [fst_some.mpr ⟨hp, hq, x3⟩]
        show f_X7_wantedSet_61 (k + 1) x (nI i) t (nI q) (nI p) = _
        simp only [f_X7_wantedSet_61, e1, if_false, zlt, hb, if_true, y1', Option.bind_some, hq]
        rfl
    · have hq : wq2 r i t q p = false := by
        have hb2 : ¬ (bt t q = false ∧ bt t p = false) := fun q9 => hb ((and_bi2 hq16 (show p < 16 by omega)).mpr q9)
        unfold wq2
        cases g : bt t q
        · cases g2 : bt t p
          · exact absurd ⟨g, g2⟩ hb2
          · rw [or_as, or_cm (bi q), ← or_as, or_bi (by omega) g2]
            exact h1 q hq16
        · rw [or_bi (by omega) g]
          exact h1 p (by omega)
      refine Or.inl ⟨x, ⟨x1, fun l hl => ?_⟩, ?_⟩
      · by_cases h : l = p
        · rw [h]
          exact hq
        · exact x3 l (by omega)
      · show f_X7_wantedSet_61 (k + 1) x (nI i) t (nI q) (nI p) = _
        simp only [f_X7_wantedSet_61, e1, if_false, zlt, hb, a1]) (fun k x ⟨x1, x3⟩ => by
    refine ⟨x, x1, ?_⟩
    rw [fst_none.mpr x3]
    show f_X7_wantedSet_61 (k + 1) x (nI i) t (nI q) (nI q) = _
    simp only [f_X7_wantedSet_61, nI_le (Nat.le_refl q) (show q < 2 ^ 31 by omega), if_true]) q 0 zFu R (by omega) (zfu (by omega)) ⟨zKr.rfl' R, fun l hl => absurd hl (Nat.not_lt_zero l)⟩
  exact h
theorem r_ws52 {R : zr} {r : zrow} (hR : zRr R r) (hV : zVr r) {i : Nat} (hi : i < cF r) {t : Int32} (ht : zTo t) (h1 : ∀ p, p < 16 → wq1 r i t p = false) : ∃ R', zKr R R' ∧ f_X7_wantedSet_52 zFu R (nI i) t 1 = some (match wP r i t with | some v => Sum.inr (v, R') | none => Sum.inl R') := by
  have h := zli (fun k p x => f_X7_wantedSet_52 k x (nI i) t (nI p)) (fun p x => zKr R x ∧ ∀ l, l < p → wq3 r i t l = false) (fun o => ∃ R', zKr R R' ∧ o = some (match wP r i t with | some v => Sum.inr (v, R') | none => Sum.inl R')) 16 (fun k p x hp ⟨x1, x3⟩ => by
    have e1 : ¬ (16 : Int32) ≤ nI p := nI_ge hp (by decide)
    obtain ⟨y, y2, y1⟩ := r_ws61 (hR.go x1) hV hi ht h1 hp
    cases hq : fst p (wq2 r i t p) with
    | none =>
      rw [hq] at y1
      refine Or.inl ⟨y, ⟨x1.tr y2, fun l hl => ?_⟩, ?_⟩
      · by_cases h : l = p
        · rw [h]
          unfold wq3
          rw [hq]
          rfl
        · exact x3 l (by omega)
      · show f_X7_wantedSet_52 (k + 1) x (nI i) t (nI p) = _
        simp only [f_X7_wantedSet_52, e1, if_false, y1, Option.bind_some, a1]
    | some l =>
      rw [hq] at y1
      refine Or.inr ⟨y, x1.tr y2, ?_⟩
      have e3 : fst 16 (wq3 r i t) = some p := fst_some.mpr ⟨hp, by unfold wq3; rw [hq]; rfl, x3⟩
      have e4 : wP r i t = some (bi p ||| bi l) := by
        unfold wP
        simp only [e3, hq]
      rw [e4]
      show f_X7_wantedSet_52 (k + 1) x (nI i) t (nI p) = _
      simp only [f_X7_wantedSet_52, e1, if_false, y1, Option.bind_some]) (fun k x ⟨x1, x3⟩ => by
    refine ⟨x, x1, ?_⟩
    have e4 : wP r i t = none := by
      unfold wP
      rw [fst_none.mpr x3]
    rw [e4]
    show f_X7_wantedSet_52 (k + 1) x (nI i) t (nI 16) = _
    simp only [f_X7_wantedSet_52, show (16 : Int32) ≤ nI 16 from nI_le (Nat.le_refl 16) (by decide), if_true]) 15 1 zFu R (by omega) (zfu (by omega)) ⟨zKr.rfl' R, fun l hl => by
      obtain rfl : l = 0 := by omega
      rfl⟩
  exact h
theorem r_wantedSet {R : zr} {r : zrow} (hR : zRr R r) (hV : zVr r) {i : Nat} (hi : i < cF r) {t : Int32} (ht : zTo t) : ∃ R', f_X7_wantedSet R (nI i) t = some (wS r i t, R') ∧ zKr R R' := by
  obtain ⟨w, w1, w2⟩ := r_isTold hR hV hi ht
  have w1' : f_X7_isTold R (nI i) t = some (tl r i t, w) := w1
  rw [wS_eq]
  unfold f_X7_wantedSet
  simp only [w1', Option.bind_some]
  cases hq : tl r i t
  · obtain ⟨a, a2, a4⟩ := r_ws13 (hR.go w2) hV hi ht hq
    rw [if_neg (by decide), if_neg (by decide), a4]
    cases hf : fst 16 (wq1 r i t) with
    | some p => exact ⟨a, rfl, w2.tr a2⟩
    | none =>
      obtain ⟨b, b2, b4⟩ := r_ws52 ((hR.go w2).go a2) hV hi ht (fst_none.mp hf)
      simp only [Option.bind_some, b4]
      cases wP r i t with
      | some v => exact ⟨b, rfl, (w2.tr a2).tr b2⟩
      | none => exact ⟨b, rfl, (w2.tr a2).tr b2⟩
  · exact ⟨w, rfl, w2⟩
/-! the best day -/
def wo (r : zrow) (t : Int32) : Nat → Nat
  | 0 => 0
  | k + 1 => if bt (r 7) k = true then (if wo r t k < ct 16 (bt (lS r t k &&& r 7)) then ct 16 (bt (lS r t k &&& r 7)) else wo r t k) else wo r t k
theorem wo_le (r : zrow) (t : Int32) (k : Nat) : wo r t k ≤ 11 := by
  have hc : ∀ k, ct 16 (bt (lS r t k &&& r 7)) ≤ 11 := by
    intro k
    show ct (11 + 5) _ ≤ 11
    rw [ct_add]
    have h1 := ct_le 11 (bt (lS r t k &&& r 7))
    have h2 : ct 5 (fun i => bt (lS r t k &&& r 7) (11 + i)) = ct 5 (fun _ => false) := ct_cg (fun i _ => by rw [b_and, bt_lS, decide_eq_false (by omega), Bool.false_and, Bool.false_and])
    have h3 : ct 5 (fun _ => false) = 0 := rfl
    omega
  induction k with
  | zero => exact Nat.zero_le _
  | succ k ih =>
    have := hc k
    unfold wo
    split
    · split <;> omega
    · exact ih
theorem lS_to (r : zrow) (t : Int32) (i : Nat) (x : Int32) : zTo (lS r t i &&& x) := by
  intro p hp
  rw [b_and, bt_lS, decide_eq_false (by omega), Bool.false_and, Bool.false_and]
theorem r_worstOn {R : zr} {r : zrow} (hR : zRr R r) (hV : zVr r) {d : Nat} (hd : d < 7) : ∃ R', f_X7_worstOn R (nI d) = some (nI (wo r (tO r d) 11), R') ∧ zKr R R' := by
  obtain ⟨z, z1, z2, z3⟩ := r_measures hR hV (tO_to r d)
  have hz : zKr R z := fun a h4 _ => z2 a h4
  have hRz := hR.go hz
  have e7 : z 1 7 = r 7 := hRz 7 (by decide)
  have h := zlp (fun k j => f_X7_worstOn_13 k z (nI (wo r (tO r d) j)) (nI j)) 11 (some (nI (wo r (tO r d) 11))) (fun k j hj => by
    have e1 : ¬ (10 : Int32) < nI j := nI_nlt (a := 10) (by omega) (by decide)
    have hw := wo_le r (tO r d) j
    have hn := ct_le 16 (bt (lS r (tO r d) j &&& r 7))
    show f_X7_worstOn_13 (k + 1) z (nI (wo r (tO r d) j)) (nI j) = f_X7_worstOn_13 k z (nI (if bt (r 7) j = true then (if wo r (tO r d) j < ct 16 (bt (lS r (tO r d) j &&& r 7)) then ct 16 (bt (lS r (tO r d) j &&& r 7)) else wo r (tO r d) j) else wo r (tO r d) j)) (nI (j + 1))
    generalize wo r (tO r d) j = W at hw
    simp only [f_X7_worstOn_13, e1, if_false, e7, h7 _ (show j < 32 by omega), a1]
    cases hb : bt (r 7) j
    · rfl
    · have hs : sOk r j := hV.sus j hb
      rw [if_pos rfl, if_pos rfl, r_likeSet hRz hV z3 hs, Option.bind_some, r_ones, Option.bind_some]
      generalize ct 16 (bt (lS r (tO r d) j &&& r 7)) = C at hn
      by_cases g : W < C
      · rw [if_neg (nI_ge g (by omega)), if_pos g]
      · rw [if_pos (nI_le (by omega) (by omega)), if_neg g]) (fun k => by
    show f_X7_worstOn_13 (k + 1) z _ (nI 11) = _
    simp only [f_X7_worstOn_13, show (10 : Int32) < nI 11 from nI_lt (a := 10) (by omega) (by decide), if_true]) 11 0 zFu (by omega) (zfu (by omega))
  refine ⟨z, ?_, hz⟩
  unfold f_X7_worstOn
  rw [r_touchedOn hR (show d < 32 by omega), Option.bind_some, z1, Option.bind_some, show f_X7_worstOn_13 zFu z 0 0 = _ from h]
  rfl
/-- best and fewest after some steps -/
def bd (r : zrow) : Nat → Nat × Nat
  | 0 => (dN r % 7, wo r (tO r (dN r % 7)) 11)
  | k + 1 => if (bd r k).2 ≤ wo r (tO r ((dN r % 7 + (k + 1)) % 7)) 11 then bd r k else ((dN r % 7 + (k + 1)) % 7, wo r (tO r ((dN r % 7 + (k + 1)) % 7)) 11)
theorem bd_le (r : zrow) (k : Nat) : (bd r k).2 ≤ 11 := by
  induction k with
  | zero => exact wo_le _ _ _
  | succ k ih =>
    unfold bd
    split
    · exact ih
    · exact wo_le _ _ _
theorem wd_add {m k : Nat} (hm : m < 7) (hk : k < 8) : (nI m + nI k) - (nI m + nI k) / 7 * 7 = nI ((m + k) % 7) := wd_n (nI_add m k) (by omega)
