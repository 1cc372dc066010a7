/-! fed and read chips, reached pins -/
def lkd (r : zrow) (i x e : Nat) : Bool := match mL r i x with
  | none => false
  | some n => decide (mL r i e = some n)
theorem lkd_sym (r : zrow) (i x e : Nat) : lkd r i x e = lkd r i e x := by
  unfold lkd
  cases h1 : mL r i x with
  | none => cases h2 : mL r i e with
    | none => rfl
    | some m => exact (decide_eq_false (fun q => by cases q)).symm
  | some n => cases h2 : mL r i e with
    | none => exact decide_eq_false (fun q => by cases q)
    | some m =>
      by_cases h : m = n
      · subst h
        rfl
      · show decide (some m = some n) = decide (some n = some m)
        rw [decide_eq_false (fun q => h (Option.some.inj q)), decide_eq_false (fun q => h (Option.some.inj q).symm)]
theorem r_areLinked {R : zr} {r : zrow} (hR : zRr R r) (hV : zVr r) {i x e : Nat} (hi : sOk r i) (hx : x < 32) (he : e < 32) : f_X7_areLinked R (sI i) (nI x) (nI e) = some (lkd r i x e) := by
  have hn8 := hV.n.2
  simp only [f_X7_areLinked, r_netOf hR hV hx, r_netOf hR hV he, Option.bind_some]
  unfold lkd mL
  cases h1 : nOf r x with
  | none => simp only [zo, if_true]
  | some n =>
    have hn := nOf_lt h1
    simp only [zo, m1_ne (show n < 2 ^ 31 by omega), if_false]
    cases h2 : nOf r e with
    | none =>
      have q : ¬ (-1 : Int32) = nI n := fun q => m1_ne (show n < 2 ^ 31 by omega) q.symm
      simp only [zo, q, if_false]
      cases hF r i 0 x <;> cases hF r i 2 n <;> cases hF r i 3 n <;> rfl
    | some m =>
      have hm := nOf_lt h2
      have q1 : (nI m = nI n) = (m = n) := propext (nI_eq (by omega) (by omega))
      simp only [zo, q1]
      by_cases h : m = n
      · subst h
        simp only [if_true, r_hF0 hR hV hi (show x < 2 ^ 31 by omega), r_hF0 hR hV hi (show e < 2 ^ 31 by omega), r_hF2 hR hV hi (show m < 2 ^ 31 by omega), r_hF3 hR hV hi (show m < 2 ^ 31 by omega), Option.bind_some]
        rcases Bool.eq_false_or_eq_true (hF r i 0 x) with g0 | g0 <;> rcases Bool.eq_false_or_eq_true (hF r i 0 e) with g1 | g1 <;> rcases Bool.eq_false_or_eq_true (hF r i 2 m) with g2 | g2 <;> rcases Bool.eq_false_or_eq_true (hF r i 3 m) with g3 | g3 <;> simp [g0, g1, g2, g3]
      · rw [if_neg h]
        rcases Bool.eq_false_or_eq_true (hF r i 0 x) with g0 | g0 <;> rcases Bool.eq_false_or_eq_true (hF r i 0 e) with g1 | g1 <;> rcases Bool.eq_false_or_eq_true (hF r i 2 m) with g2 | g2 <;> rcases Bool.eq_false_or_eq_true (hF r i 3 m) with g3 | g3 <;> rcases Bool.eq_false_or_eq_true (hF r i 2 n) with g4 | g4 <;> rcases Bool.eq_false_or_eq_true (hF r i 3 n) with g5 | g5 <;> simp [h, g0, g1, g2, g3, g4, g5]
def nr (r : zrow) (fed : Bool) (c : Nat) : Nat := if fed = true then eN r c else xN r c
def fr (r : zrow) (fed : Bool) (c : Nat) : Nat := if fed = true then xN r c else eN r c
/-- whether a chip starts -/
def sts (r : zrow) (i : Nat) (t : Int32) (fed : Bool) (S : Int32) (c : Nat) : Bool := bt t (nr r fed c) || an (cC r) (fun j => bt S j && lkd r i (fr r fed j) (nr r fed c))
def go (r : zrow) (i : Nat) (t : Int32) (fed : Bool) (S : Int32) (c : Nat) : Int32 := if (sts r i t fed S c && !(hF r i 4 c)) = true then S ||| ((1 : Int32) <<< (nI c &&& 31)) else S
def rdk (r : zrow) (i : Nat) (t : Int32) (fed : Bool) : Nat → Int32 → Int32
  | 0, S => S
  | c + 1, S => go r i t fed (rdk r i t fed c S) c
def rnd (r : zrow) (i : Nat) (t : Int32) (fed : Bool) : Nat → Int32
  | 0 => 0
  | m + 1 => rdk r i t fed (cC r) (rnd r i t fed m)
def sp (r : zrow) (i : Nat) (t : Int32) (fed : Bool) : Int32 := rnd r i t fed 5
theorem r_comesTo {R : zr} {r : zrow} (hR : zRr R r) (hV : zVr r) {i c : Nat} (hi : sOk r i) (hc : c < cC r) (t S : Int32) (fed : Bool) : f_X7_comesTo R (sI i) t S (nI c) fed = some (sts r i t fed S c && !(hF r i 4 c)) := by
  have hc5 := hV.c
  have e0 : R 1 1 = nI (cC r) := (hR 1 (by omega)).trans hc5.1
  obtain ⟨hec, hxc, -⟩ := hV.chip hc
  have h : f_X7_comesTo_42 zFu R (sI i) S (nI c) fed (bt t (nr r fed c)) 0 = some (sts r i t fed S c) := by
    have h := zlp (fun k j => f_X7_comesTo_42 k R (sI i) S (nI c) fed (bt t (nr r fed c) || an j (fun j => bt S j && lkd r i (fr r fed j) (nr r fed c))) (nI j)) (cC r) (some (sts r i t fed S c)) (fun k j hj => by
      show f_X7_comesTo_42 (k + 1) R (sI i) S (nI c) fed (bt t (nr r fed c) || an j (fun j => bt S j && lkd r i (fr r fed j) (nr r fed c))) (nI j) = f_X7_comesTo_42 k R (sI i) S (nI c) fed (bt t (nr r fed c) || (an j (fun j => bt S j && lkd r i (fr r fed j) (nr r fed c)) || (bt S j && lkd r i (fr r fed j) (nr r fed c)))) (nI (j + 1))
      rw [← Bool.or_assoc]
      generalize (bt t (nr r fed c) || an j (fun j => bt S j && lkd r i (fr r fed j) (nr r fed c))) = acc
      have e1 : ¬ nI (cC r) ≤ nI j := nI_ge hj (by omega)
      obtain ⟨hej, hxj, -⟩ := hV.chip hj
      have l1 : f_X7_areLinked R (sI i) (nI (xN r j)) (nI (eN r c)) = some (lkd r i (xN r j) (eN r c)) := r_areLinked hR hV hi (by omega) (by omega)
      have l2 : f_X7_areLinked R (sI i) (nI (xN r c)) (nI (eN r j)) = some (lkd r i (eN r j) (xN r c)) := by
        rw [lkd_sym]
        exact r_areLinked hR hV hi (by omega) (by omega)
      simp only [f_X7_comesTo_42, e0, e1, if_false, h7 _ (show j < 32 by omega), a17, a22, zin_n (show 17 + c < 88 by omega) (by decide), zin_n (show 22 + c < 88 by omega) (by decide), zin_n (show 17 + j < 88 by omega) (by decide), zin_n (show 22 + j < 88 by omega) (by decide), if_true, cl_n (show 17 + c < 2 ^ 31 by omega), cl_n (show 22 + c < 2 ^ 31 by omega), cl_n (show 17 + j < 2 ^ 31 by omega), cl_n (show 22 + j < 2 ^ 31 by omega), hR (17 + c) (by omega), hR (22 + c) (by omega), hR (17 + j) (by omega), hR (22 + j) (by omega), hec.1, hxc.1, hej.1, hxj.1, l1, l2, Option.bind_some, a1]
      cases hS : bt S j
      · simp
      · cases acc
        · cases fed
          · simp only [fr, nr, Bool.false_eq_true, if_false, if_true, Bool.true_and, Bool.false_or]
            cases lkd r i (eN r j) (xN r c) <;> rfl
          · simp only [fr, nr, Bool.false_eq_true, if_false, if_true, Bool.true_and, Bool.false_or]
            cases lkd r i (xN r j) (eN r c) <;> rfl
        · simp) (fun k => by
      show f_X7_comesTo_42 (k + 1) R (sI i) S (nI c) fed _ (nI (cC r)) = _
      simp only [f_X7_comesTo_42, e0, nI_le (Nat.le_refl (cC r)) (by omega), if_true]
      rfl) (cC r) 0 zFu (by omega) (zfu (by omega))
    have h0 : (bt t (nr r fed c) || an 0 (fun j => bt S j && lkd r i (fr r fed j) (nr r fed c))) = bt t (nr r fed c) := Bool.or_false _
    rw [← h0]
    exact h
  unfold f_X7_comesTo
  rw [r_hF4 hR hV hi (show c < 2 ^ 31 by omega), Option.bind_some]
  cases hd : hF r i 4 c
  · rw [if_neg (by decide)]
    cases fed
    · have e3 : f_X7_has t (nI (xN r c)) = bt t (nr r false c) := h7 _ (by omega)
      simp only [Bool.false_eq_true, if_false, a22, zin_n (show 22 + c < 88 by omega) (by decide), if_true, cl_n (show 22 + c < 2 ^ 31 by omega), hR (22 + c) (by omega), hxc.1, e3, h, Option.bind_some, Bool.not_false, Bool.and_true]
    · have e3 : f_X7_has t (nI (eN r c)) = bt t (nr r true c) := h7 _ (by omega)
      simp only [if_true, a17, zin_n (show 17 + c < 88 by omega) (by decide), cl_n (show 17 + c < 2 ^ 31 by omega), hR (17 + c) (by omega), hec.1, e3, h, Option.bind_some, Bool.not_false, Bool.and_true]
  · rw [if_pos rfl, Bool.not_true, Bool.and_false]
theorem or_bit {S : Int32} {c : Nat} (hc : c < 32) (h : bt S c = true) : S ||| ((1 : Int32) <<< (nI c &&& 31)) = S := by
  apply b_ext
  intro i hi
  rw [b_or, b_bit hc hi]
  by_cases h2 : i = c
  · subst h2
    simp [h]
  · simp [h2]
theorem r_along_15 {R : zr} {r : zrow} (hR : zRr R r) (hV : zVr r) {i : Nat} (hi : sOk r i) (t S : Int32) (fed : Bool) (x5 : Int32) : f_X7_along_15 zFu R (sI i) t fed x5 S 0 = some (rdk r i t fed (cC r) S) := by
  have hc5 := hV.c
  have e0 : R 1 1 = nI (cC r) := (hR 1 (by omega)).trans hc5.1
  exact zlp (fun k j => f_X7_along_15 k R (sI i) t fed x5 (rdk r i t fed j S) (nI j)) (cC r) (some (rdk r i t fed (cC r) S)) (fun k j hj => by
    show f_X7_along_15 (k + 1) R (sI i) t fed x5 (rdk r i t fed j S) (nI j) = f_X7_along_15 k R (sI i) t fed x5 (go r i t fed (rdk r i t fed j S) j) (nI (j + 1))
    generalize rdk r i t fed j S = T
    have e1 : ¬ nI (cC r) ≤ nI j := nI_ge hj (by omega)
    simp only [f_X7_along_15, e0, e1, if_false, h7 _ (show j < 32 by omega), r_comesTo hR hV hi hj, Option.bind_some, zlt, a1, go]
    cases hT : bt T j
    · simp only [Bool.false_eq_true, if_false]
      cases (sts r i t fed T j && !(hF r i 4 j)) <;> rfl
    · rw [if_pos rfl, or_bit (show j < 32 by omega) hT]
      cases (sts r i t fed T j && !(hF r i 4 j)) <;> rfl) (fun k => by
    show f_X7_along_15 (k + 1) R (sI i) t fed x5 (rdk r i t fed (cC r) S) (nI (cC r)) = _
    simp only [f_X7_along_15, e0, nI_le (Nat.le_refl (cC r)) (by omega), if_true]) (cC r) 0 zFu (by omega) (zfu (by omega))
theorem r_along {R : zr} {r : zrow} (hR : zRr R r) (hV : zVr r) {i : Nat} (hi : sOk r i) (t : Int32) (fed : Bool) : f_X7_along R (sI i) t fed = some (sp r i t fed) := by
  have h := zlp (fun k m => f_X7_along_6 k R (sI i) t fed (rnd r i t fed m) (nI m)) 5 (some (sp r i t fed)) (fun k j hj => by
    show f_X7_along_6 (k + 1) R (sI i) t fed (rnd r i t fed j) (nI j) = f_X7_along_6 k R (sI i) t fed (rdk r i t fed (cC r) (rnd r i t fed j)) (nI (j + 1))
    have e1 : ¬ (5 : Int32) ≤ nI j := nI_ge hj (by decide)
    simp only [f_X7_along_6, e1, if_false, r_along_15 hR hV hi, Option.bind_some, a1]) (fun k => by
    show f_X7_along_6 (k + 1) R (sI i) t fed (rnd r i t fed 5) (nI 5) = _
    simp only [f_X7_along_6, show (5 : Int32) ≤ nI 5 from nI_le (Nat.le_refl 5) (by decide), if_true]
    rfl) 5 0 zFu (by omega) (zfu (by omega))
  unfold f_X7_along
  rw [show f_X7_along_6 zFu R (sI i) t fed 0 0 = _ from h]
  rfl
/-! the class's way: chips and living nets -/
def lvF (r : zrow) (i : Nat) (fed : Bool) (S : Int32) : Int32 := mk 8 (fun n => an (cC r) (fun c => bt S c && decide (mL r i (fr r fed c) = some n)))
theorem bt_bO {o : Option Nat} (h : ∀ n, o = some n → n < 32) {k : Nat} (hk : k < 32) : bt (bO o) k = decide (o = some k) := by
  cases o with
  | none => exact (b_0 k).trans (decide_eq_false (fun q => by cases q)).symm
  | some n =>
    show bt ((1 : Int32) <<< (nI n &&& 31)) k = _
    rw [b_bit (h n rfl) hk]
    by_cases h2 : k = n
    · subst h2
      simp
    · rw [decide_eq_false h2, decide_eq_false (fun q => h2 (Option.some.inj q).symm)]
theorem lv_0 (r : zrow) (i : Nat) (fed : Bool) : lvF r i fed 0 = 0 := by
  apply b_ext
  intro k _
  rw [lvF, bt_mk (by decide), b_0, an_f.mpr (fun c _ => by rw [b_0, Bool.false_and]), Bool.and_false]
theorem lv_up {r : zrow} (hV : zVr r) {i : Nat} {fed : Bool} {S : Int32} {c : Nat} (hc : c < cC r) : lvF r i fed S ||| bO (mL r i (fr r fed c)) = lvF r i fed (S ||| ((1 : Int32) <<< (nI c &&& 31))) := by
  have hc5 := hV.c.2
  have hn8 := hV.n.2
  apply b_ext
  intro k hk
  rw [b_or, bt_bO (fun n hn => by have := mL_lt hn; omega) hk, lvF, lvF, bt_mk (by decide), bt_mk (by decide)]
  by_cases h8 : k < 8
  · rw [decide_eq_true h8, Bool.true_and, Bool.true_and]
    rw [Bool.eq_iff_iff, Bool.or_eq_true, an_iff, an_iff]
    constructor
    · rintro (⟨j, hj, hq⟩ | hq)
      · refine ⟨j, hj, ?_⟩
        rw [Bool.and_eq_true] at hq ⊢
        refine ⟨?_, hq.2⟩
        rw [b_or, hq.1, Bool.true_or]
      · refine ⟨c, hc, ?_⟩
        rw [b_or, b_bit (by omega) (by omega), hq, decide_eq_true rfl, Bool.or_true, Bool.true_and]
    · rintro ⟨j, hj, hq⟩
      rw [Bool.and_eq_true, b_or, b_bit (by omega) (by omega), Bool.or_eq_true] at hq
      rcases hq.1 with h | h
      · exact Or.inl ⟨j, hj, by rw [h, hq.2]; rfl⟩
      · have h9 : j = c := of_decide_eq_true h
        rw [h9] at hq
        exact Or.inr hq.2
  · rw [decide_eq_false h8, Bool.false_and, Bool.false_and, Bool.false_or]
    exact decide_eq_false (fun q => by have := mL_lt q; omega)
theorem and_bit {x : Int32} {n : Nat} (hn : n < 32) : ((1 : Int32) <<< (nI n &&& 31)) &&& x = 0 ↔ bt x n = false := by
  constructor
  · intro h
    have h2 : bt (((1 : Int32) <<< (nI n &&& 31)) &&& x) n = false := by rw [h]; exact b_0 n
    rw [b_and, b_bit hn hn, decide_eq_true rfl, Bool.true_and] at h2
    exact h2
  · intro h
    apply b_ext
    intro k hk
    rw [b_and, b_bit hn hk, b_0]
    by_cases h2 : k = n
    · subst h2
      rw [h, Bool.and_false]
    · rw [decide_eq_false h2, Bool.false_and]
theorem lv_t {r : zrow} (hV : zVr r) {i : Nat} {fed : Bool} {S : Int32} (p : Nat) : bO (mL r i p) &&& lvF r i fed S = 0 ↔ an (cC r) (fun j => bt S j && lkd r i (fr r fed j) p) = false := by
  have hn8 := hV.n.2
  cases h : mL r i p with
  | none =>
    constructor
    · intro _
      refine an_f.mpr (fun j _ => ?_)
      rw [lkd_sym]
      unfold lkd
      rw [h, Bool.and_false]
    · intro _
      exact b_ext fun k _ => by rw [b_and]; show (bt 0 k && _) = bt 0 k; rw [b_0, Bool.false_and]
  | some m =>
    have hm := mL_lt h
    show ((1 : Int32) <<< (nI m &&& 31)) &&& lvF r i fed S = 0 ↔ _
    rw [and_bit (by omega), lvF, bt_mk (by decide), decide_eq_true (show m < 8 by omega), Bool.true_and]
    have e : an (cC r) (fun c => bt S c && decide (mL r i (fr r fed c) = some m)) = an (cC r) (fun j => bt S j && lkd r i (fr r fed j) p) := an_cg (fun j _ => by
      rw [lkd_sym]
      unfold lkd
      rw [h])
    rw [e]
theorem c_spread_24 {s : zs} {u i : Nat} {r : zrow} (hB : zBr s 64 r) (hV : zVr r) (hU5 : s.1 u 5 = ddV r i) (hL : ∀ p, p < 16 → s.1 (u + 1) p = bO (mL r i p)) (t S : Int32) (fed : Bool) {A C : Nat} (hA : ∀ c, c < cC r → s.1 A c = nI (nr r fed c) ∧ nr r fed c < 16) (hC : ∀ c, c < cC r → s.1 C c = nI (fr r fed c) ∧ fr r fed c < 16) (x6 : Int32) : f_X5_spread_24 zFu s u t A C x6 S (lvF r i fed S) 0 = some (rdk r i t fed (cC r) S, lvF r i fed (rdk r i t fed (cC r) S)) := by
  have hc5 := hV.c
  have e0 : s.1 64 10 = nI (cC r) := hB.c.trans hc5.1
  have hdd : ∀ j, j < 5 → bt (ddV r i) j = hF r i 4 j := by
    intro j hj
    unfold ddV hF
    by_cases g : i < cF r ∧ kN r i = 4
    · obtain ⟨-, ho1, -⟩ := hV.flt g.1
      rw [if_pos g, b_bit (by omega) (by omega), decide_eq_true g.1, decide_eq_true g.2, Bool.true_and, Bool.true_and]
      by_cases h : j = oN r i
      · rw [decide_eq_true h, decide_eq_true h.symm]
      · rw [decide_eq_false h, decide_eq_false (fun q => h q.symm)]
    · rw [if_neg g, b_0]
      by_cases g1 : i < cF r
      · rw [decide_eq_false (fun q => g ⟨g1, q⟩), Bool.false_and, Bool.and_false]
      · rw [decide_eq_false g1, Bool.false_and]
  exact zlp (fun k j => f_X5_spread_24 k s u t A C x6 (rdk r i t fed j S) (lvF r i fed (rdk r i t fed j S)) (nI j)) (cC r) _ (fun k j hj => by
    show f_X5_spread_24 (k + 1) s u t A C x6 (rdk r i t fed j S) (lvF r i fed (rdk r i t fed j S)) (nI j) = f_X5_spread_24 k s u t A C x6 (go r i t fed (rdk r i t fed j S) j) (lvF r i fed (go r i t fed (rdk r i t fed j S) j)) (nI (j + 1))
    generalize rdk r i t fed j S = T
    have e1 : ¬ nI (cC r) ≤ nI j := nI_ge hj (by omega)
    obtain ⟨ha1, ha2⟩ := hA j hj
    obtain ⟨hc1, hc2⟩ := hC j hj
    simp only [f_X5_spread_24, e0, e1, if_false, zin_n (show j < 5 by omega) (by decide), if_true, cl_n (show j < 2 ^ 31 by omega), ha1, hc1, h6 _ (show nr r fed j < 32 by omega), hU5, h6 _ (show j < 32 by omega), hdd j (by omega), zlt, zin_n ha2 (by decide), zin_n hc2 (by decide), cl_n (show nr r fed j < 2 ^ 31 by omega), cl_n (show fr r fed j < 2 ^ 31 by omega), hL _ ha2, hL _ hc2, lv_up hV hj, a1, go]
    have es : sts r i t fed T j = (bt t (nr r fed j) || an (cC r) (fun l => bt T l && lkd r i (fr r fed l) (nr r fed j))) := rfl
    rcases Bool.eq_false_or_eq_true (bt t (nr r fed j)) with hT | hT
    · rw [hT, Bool.true_or] at es
      rw [hT, es, if_pos rfl, Bool.true_and]
      cases hF r i 4 j
      · rfl
      · rfl
    · rw [hT, Bool.false_or] at es
      rw [hT, if_neg (by decide)]
      by_cases h : bO (mL r i (nr r fed j)) &&& lvF r i fed T = 0
      · rw [(lv_t hV _).mp h] at es
        rw [if_pos h, es, Bool.false_and]
        rfl
      · have h2 : an (cC r) (fun l => bt T l && lkd r i (fr r fed l) (nr r fed j)) = true := by
          rcases Bool.eq_false_or_eq_true (an (cC r) (fun l => bt T l && lkd r i (fr r fed l) (nr r fed j))) with h3 | h3
          · exact h3
          · exact absurd ((lv_t hV _).mpr h3) h
        rw [h2] at es
        rw [if_neg h, es, Bool.true_and]
        cases hF r i 4 j
        · rfl
        · rfl) (fun k => by
    show f_X5_spread_24 (k + 1) s u t A C x6 (rdk r i t fed (cC r) S) _ (nI (cC r)) = _
    simp only [f_X5_spread_24, e0, nI_le (Nat.le_refl (cC r)) (by omega), if_true]) (cC r) 0 zFu (by omega) (zfu (by omega))
/-! after as many rounds as there are chips nothing changes -/
theorem go_up {r : zrow} {i : Nat} {t : Int32} {fed : Bool} {S : Int32} {c k : Nat} (h : bt S k = true) : bt (go r i t fed S c) k = true := by
  unfold go
  split
  · rw [b_or, h, Bool.true_or]
  · exact h
theorem rdk_up {r : zrow} {i : Nat} {t : Int32} {fed : Bool} {n : Nat} {S : Int32} {k : Nat} (h : bt S k = true) : bt (rdk r i t fed n S) k = true := by
  induction n with
  | zero => exact h
  | succ n ih => exact go_up ih
theorem rdk_in {r : zrow} {i : Nat} {t : Int32} {fed : Bool} {n : Nat} (hn : n ≤ 32) {S : Int32} {k : Nat} (h : bt (rdk r i t fed n S) k = true) : bt S k = true ∨ k < n := by
  induction n with
  | zero => exact Or.inl h
  | succ n ih =>
    have h2 : bt (go r i t fed (rdk r i t fed n S) n) k = true := h
    unfold go at h2
    split at h2
    · rw [b_or, Bool.or_eq_true] at h2
      rcases h2 with h3 | h3
      · rcases ih (by omega) h3 with h4 | h4
        · exact Or.inl h4
        · exact Or.inr (by omega)
      · by_cases hk : k < 32
        · rw [b_bit (by omega) hk] at h3
          exact Or.inr (by rw [of_decide_eq_true h3]; exact Nat.lt_succ_self n)
        · rw [b_big (by omega)] at h3
          cases h3
    · rcases ih (by omega) h2 with h4 | h4
      · exact Or.inl h4
      · exact Or.inr (by omega)
theorem rnd_in {r : zrow} (hV : zVr r) {i : Nat} {t : Int32} {fed : Bool} {m k : Nat} (h : bt (rnd r i t fed m) k = true) : k < cC r := by
  have hc5 := hV.c.2
  induction m with
  | zero =>
    have h2 : bt 0 k = true := h
    rw [b_0] at h2
    cases h2
  | succ m ih =>
    rcases rdk_in (by omega) h with h2 | h2
    · exact ih h2
    · exact h2
theorem rnd_grow {r : zrow} (hV : zVr r) {i : Nat} {t : Int32} {fed : Bool} (m : Nat) : rnd r i t fed (m + 1) = rnd r i t fed m ∨ m + 1 ≤ ct (cC r) (bt (rnd r i t fed (m + 1))) := by
  induction m with
  | zero =>
    by_cases h : rnd r i t fed 1 = rnd r i t fed 0
    · exact Or.inl h
    · refine Or.inr ?_
      show 1 ≤ ct (cC r) (bt (rnd r i t fed 1))
      have : ∃ k, bt (rnd r i t fed 1) k = true := by
        refine Classical.byContradiction (fun q => h (b_ext fun k _ => ?_))
        have h1 : bt (rnd r i t fed 1) k = false := by
          cases h2 : bt (rnd r i t fed 1) k
          · rfl
          · exact absurd ⟨k, h2⟩ q
        rw [h1]
        exact (b_0 k).symm
      obtain ⟨k, hk⟩ := this
      have := ct_lt (n := cC r) (p := fun _ => false) (q := bt (rnd r i t fed 1)) (fun _ _ q => by cases q) (rnd_in hV hk) rfl hk
      omega
  | succ m ih =>
    by_cases h : rnd r i t fed (m + 1 + 1) = rnd r i t fed (m + 1)
    · exact Or.inl h
    · refine Or.inr ?_
      rcases ih with h1 | h1
      · refine absurd ?_ h
        show rdk r i t fed (cC r) (rnd r i t fed (m + 1)) = rnd r i t fed (m + 1)
        rw [h1]
        exact h1
      · have : ∃ k, bt (rnd r i t fed (m + 1)) k = false ∧ bt (rnd r i t fed (m + 1 + 1)) k = true := by
          refine Classical.byContradiction (fun q => h (b_ext fun k _ => ?_))
          cases h2 : bt (rnd r i t fed (m + 1)) k
          · cases h3 : bt (rnd r i t fed (m + 1 + 1)) k
            · rfl
            · exact absurd ⟨k, h2, h3⟩ q
          · exact rdk_up h2
        obtain ⟨k, hk1, hk2⟩ := this
        have := ct_lt (n := cC r) (p := bt (rnd r i t fed (m + 1))) (q := bt (rnd r i t fed (m + 1 + 1))) (fun _ _ q => rdk_up q) (rnd_in hV hk2) hk1 hk2
        omega
theorem rnd_fix {r : zrow} (hV : zVr r) {i : Nat} {t : Int32} {fed : Bool} : ∀ d, rnd r i t fed (cC r + d) = rnd r i t fed (cC r) := by
  have h0 : rnd r i t fed (cC r + 1) = rnd r i t fed (cC r) := by
    rcases rnd_grow hV (i := i) (t := t) (fed := fed) (cC r) with h | h
    · exact h
    · have := ct_le (cC r) (bt (rnd r i t fed (cC r + 1)))
      omega
  intro d
  induction d with
  | zero => rfl
  | succ d ih =>
    show rdk r i t fed (cC r) (rnd r i t fed (cC r + d)) = _
    rw [ih]
    exact h0
theorem rnd_5 {r : zrow} (hV : zVr r) (i : Nat) (t : Int32) (fed : Bool) : rnd r i t fed (cC r) = sp r i t fed := by
  have hc5 := hV.c.2
  have h := rnd_fix hV (i := i) (t := t) (fed := fed) (5 - cC r)
  rw [show cC r + (5 - cC r) = 5 by omega] at h
  exact h.symm
theorem c_spread {s : zs} {u i : Nat} {r : zrow} (hB : zBr s 64 r) (hV : zVr r) (hU5 : s.1 u 5 = ddV r i) (hL : ∀ p, p < 16 → s.1 (u + 1) p = bO (mL r i p)) (t : Int32) (fed : Bool) {A C : Nat} (hA : ∀ c, c < cC r → s.1 A c = nI (nr r fed c) ∧ nr r fed c < 16) (hC : ∀ c, c < cC r → s.1 C c = nI (fr r fed c) ∧ fr r fed c < 16) : f_X5_spread s u t A C = some (sp r i t fed) := by
  have hc5 := hV.c
  have e0 : s.1 64 10 = nI (cC r) := hB.c.trans hc5.1
  have h := zlp (fun k m => f_X5_spread_9 k s u t A C (rnd r i t fed m) (lvF r i fed (rnd r i t fed m)) (nI m)) (cC r) (some (rnd r i t fed (cC r))) (fun k j hj => by
    show f_X5_spread_9 (k + 1) s u t A C (rnd r i t fed j) (lvF r i fed (rnd r i t fed j)) (nI j) = f_X5_spread_9 k s u t A C (rdk r i t fed (cC r) (rnd r i t fed j)) (lvF r i fed (rdk r i t fed (cC r) (rnd r i t fed j))) (nI (j + 1))
    have e1 : ¬ nI (cC r) ≤ nI j := nI_ge hj (by omega)
    simp only [f_X5_spread_9, e0, e1, if_false, c_spread_24 hB hV hU5 hL t _ fed hA hC, Option.bind_some, a1]) (fun k => by
    show f_X5_spread_9 (k + 1) s u t A C (rnd r i t fed (cC r)) _ (nI (cC r)) = _
    simp only [f_X5_spread_9, e0, nI_le (Nat.le_refl (cC r)) (by omega), if_true]) (cC r) 0 zFu (by omega) (zfu (by omega))
  have h0 : f_X5_spread_9 zFu s u t A C 0 0 0 = some (rnd r i t fed (cC r)) := by
    have h1 : f_X5_spread_9 zFu s u t A C (rnd r i t fed 0) (lvF r i fed (rnd r i t fed 0)) (nI 0) = some (rnd r i t fed (cC r)) := h
    rw [show rnd r i t fed 0 = 0 from rfl, lv_0] at h1
    exact h1
  unfold f_X5_spread
  rw [h0, Option.bind_some, rnd_5 hV]
def sc (r : zrow) (i : Nat) (t : Int32) : Int32 := sp r i t true &&& sp r i t false
theorem c_scanned {s : zs} {i : Nat} {r : zrow} (hB : zBr s 64 r) (hV : zVr r) (hU : zUs s i r) (t : Int32) : f_X5_scannedChips s (87 + 3 * i) t = some (sc r i t) := by
  have hc5 := hV.c.2
  have he : ∀ c, c < cC r → s.1 (64 + 3) c = nI (eN r c) ∧ eN r c < 16 := fun c hc => ⟨(hB.e (by omega)).trans (hV.chip hc).1.1, (hV.chip hc).1.2⟩
  have hx : ∀ c, c < cC r → s.1 (64 + 4) c = nI (xN r c) ∧ xN r c < 16 := fun c hc => ⟨(hB.x (by omega)).trans (hV.chip hc).2.1.1, (hV.chip hc).2.1.2⟩
  have h1 := c_spread (i := i) hB hV hU.2.2.1 (fun p hp => (hU.2.2.2 p hp).1) t true (A := 64 + 3) (C := 64 + 4) he hx
  have h2 := c_spread (i := i) hB hV hU.2.2.1 (fun p hp => (hU.2.2.2 p hp).1) t false (A := 64 + 4) (C := 64 + 3) hx he
  unfold f_X5_scannedChips
  rw [h1, h2]
  rfl
theorem r_scanned {R : zr} {r : zrow} (hR : zRr R r) (hV : zVr r) {i : Nat} (hi : sOk r i) (t : Int32) : f_X7_scannedBy R (sI i) t = some (sc r i t) := by
  unfold f_X7_scannedBy
  rw [r_along hR hV hi, r_along hR hV hi]
  rfl
def rck (r : zrow) (i : Nat) (t : Int32) : Nat → Int32
  | 0 => t
  | c + 1 => if bt (sc r i t) c = true then rck r i t c ||| r (27 + c) else rck r i t c
def rc (r : zrow) (i : Nat) (t : Int32) : Int32 := rck r i t (cC r)
theorem r_reachedBy {R : zr} {r : zrow} (hR : zRr R r) (hV : zVr r) {i : Nat} (hi : sOk r i) (t : Int32) : f_X7_reachedBy R (sI i) t = some (rc r i t) := by
  have hc5 := hV.c
  have e0 : R 1 1 = nI (cC r) := (hR 1 (by omega)).trans hc5.1
  have h := zlp (fun k j => f_X7_reachedBy_13 k R (sc r i t) (rck r i t j) (nI j)) (cC r) (some (rc r i t)) (fun k j hj => by
    show f_X7_reachedBy_13 (k + 1) R (sc r i t) (rck r i t j) (nI j) = f_X7_reachedBy_13 k R (sc r i t) (if bt (sc r i t) j = true then rck r i t j ||| r (27 + j) else rck r i t j) (nI (j + 1))
    have e1 : ¬ nI (cC r) ≤ nI j := nI_ge hj (by omega)
    simp only [f_X7_reachedBy_13, e0, e1, if_false, h7 _ (show j < 32 by omega), a27, zin_n (show 27 + j < 88 by omega) (by decide), if_true, cl_n (show 27 + j < 2 ^ 31 by omega), hR (27 + j) (by omega), zlt, or_0, a1]
    cases bt (sc r i t) j <;> rfl) (fun k => by
    show f_X7_reachedBy_13 (k + 1) R (sc r i t) (rck r i t (cC r)) (nI (cC r)) = _
    simp only [f_X7_reachedBy_13, e0, nI_le (Nat.le_refl (cC r)) (by omega), if_true]
    rfl) (cC r) 0 zFu (by omega) (zfu (by omega))
  unfold f_X7_reachedBy
  rw [r_scanned hR hV hi, Option.bind_some, show f_X7_reachedBy_13 zFu R (sc r i t) t 0 = _ from h]
  rfl
theorem c_probe {s : zs} {i : Nat} {r : zrow} (hB : zBr s 64 r) (hV : zVr r) (hU : zUs s i r) (t : Int32) : ∃ s', f_X5_probe s (87 + 3 * i) t = some s' ∧ s'.2 = s.2 ∧ (∀ a, a ≠ 87 + 3 * i → s'.1 a = s.1 a) ∧ (∀ k, k ≠ 6 → s'.1 (87 + 3 * i) k = s.1 (87 + 3 * i) k) ∧ s'.1 (87 + 3 * i) 6 = rc r i t := by
  have hc5 := hV.c
  have h87 : 87 ≤ 87 + 3 * i := by omega
  have hs := c_scanned hB hV hU t
  clear hU
  generalize 87 + 3 * i = u at h87 hs
  have h := zli (fun k j x => f_X5_probe_13 k x u (sc r i t) (nI j)) (fun j x => x.2 = s.2 ∧ (∀ a, a ≠ u → x.1 a = s.1 a) ∧ (∀ k, k ≠ 6 → x.1 u k = s.1 u k) ∧ x.1 u 6 = rck r i t j) (fun o => ∃ s', o = some s' ∧ s'.2 = s.2 ∧ (∀ a, a ≠ u → s'.1 a = s.1 a) ∧ (∀ k, k ≠ 6 → s'.1 u k = s.1 u k) ∧ s'.1 u 6 = rc r i t) (cC r) (fun k j x hj ⟨x1, x2, x3, x4⟩ => by
    have e1 : ¬ nI (cC r) ≤ nI j := nI_ge hj (by omega)
    have e0 : x.1 64 10 = nI (cC r) := by rw [x2 64 (by omega)]; exact hB.c.trans hc5.1
    have e5 : x.1 (64 + 5) j = r (27 + j) := by rw [x2 (64 + 5) (by omega)]; exact hB.l (by omega)
    refine Or.inl ?_
    cases hb : bt (sc r i t) j
    · refine ⟨x, ⟨x1, x2, x3, ?_⟩, ?_⟩
      · rw [x4]
        show _ = if bt (sc r i t) j = true then _ else _
        rw [hb, if_neg (by decide)]
      · show f_X5_probe_13 (k + 1) x u (sc r i t) (nI j) = _
        simp only [f_X5_probe_13, e0, e1, if_false, h6 _ (show j < 32 by omega), hb, Bool.false_eq_true, a1]
    · refine ⟨zc x u 6 (x.1 u 6 ||| r (27 + j)), ⟨x1, ?_, ?_, ?_⟩, ?_⟩
      · intro a ha
        rw [zc_ne ha]
        exact x2 a ha
      · intro k hk
        rw [zc_nk hk]
        exact x3 k hk
      · rw [zc_at, x4]
        show _ = if bt (sc r i t) j = true then _ else _
        rw [hb, if_pos rfl]
      · show f_X5_probe_13 (k + 1) x u (sc r i t) (nI j) = _
        simp only [f_X5_probe_13, e0, e1, if_false, h6 _ (show j < 32 by omega), hb, if_true, zin_n (show j < 5 by omega) (by decide), cl_n (show j < 2 ^ 31 by omega), zlt, e5, a1]) (fun k x ⟨x1, x2, x3, x4⟩ => by
    have e0 : x.1 64 10 = nI (cC r) := by rw [x2 64 (by omega)]; exact hB.c.trans hc5.1
    refine ⟨x, ?_, x1, x2, x3, x4⟩
    show f_X5_probe_13 (k + 1) x u (sc r i t) (nI (cC r)) = _
    simp only [f_X5_probe_13, e0, nI_le (Nat.le_refl (cC r)) (by omega), if_true]) (cC r) 0 zFu (zc s u 6 t) (by omega) (zfu (by omega)) ⟨rfl, fun a ha => zc_ne ha, fun k hk => zc_nk hk, zc_at⟩
  obtain ⟨s', e1, e2⟩ := h
  refine ⟨s', ?_, e2⟩
  unfold f_X5_probe
  rw [hs, Option.bind_some]
  show Option.bind (f_X5_probe_13 zFu (zc s u 6 t) u (sc r i t) 0) _ = _
  rw [show f_X5_probe_13 zFu (zc s u 6 t) u (sc r i t) 0 = some s' from e1]
  rfl
