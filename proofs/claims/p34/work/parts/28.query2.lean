/-! the fewest days -/
def tri : Nat → Nat
  | 0 => 0
  | k + 1 => tri k + k
theorem tri_10 : ∀ o, o < 11 → tri o ≤ 45 := by decide +kernel
/-- the days on which two look unlike -/
def uD (r : zrow) (l o : Nat) : Int32 := 127 - dA r l o
def aq (r : zrow) (a : Bool) (l o : Nat) : Bool := isB r l && isB r o && (a || decide (o = 10))
/-- what was collected so far tells of all pairs so far -/
def zCo (s : zs) (r : zrow) (a : Bool) (o l : Nat) : Prop := ∃ n, n ≤ tri o + l ∧ s.1 76 4 = nI n ∧ ∀ P : Int32 → Prop, (∀ i, i < n → P (s.1 86 i)) ↔ ∀ o' l', l' < o' → (o' < o ∨ o' = o ∧ l' < l) → aq r a l' o' = true → P (uD r l' o')
theorem zCo_skip {s : zs} {r : zrow} {a : Bool} {o l : Nat} (h : zCo s r a o l) (hq : aq r a l o = false) : zCo s r a o (l + 1) := by
  obtain ⟨n, h1, h2, h3⟩ := h
  refine ⟨n, by omega, h2, fun P => (h3 P).trans ⟨fun g o' l' hl ho ha => ?_, fun g o' l' hl ho ha => g o' l' hl (by omega) ha⟩⟩
  by_cases he : o' = o ∧ l' = l
  · obtain ⟨rfl, rfl⟩ := he
    rw [hq] at ha
    cases ha
  · exact g o' l' hl (by omega) ha
theorem zCo_take {s : zs} {r : zrow} {a : Bool} {o l n : Nat} (hlo : l < o) (h1 : n ≤ tri o + l) (h3 : ∀ P : Int32 → Prop, (∀ i, i < n → P (s.1 86 i)) ↔ ∀ o' l', l' < o' → (o' < o ∨ o' = o ∧ l' < l) → aq r a l' o' = true → P (uD r l' o')) (hq : aq r a l o = true) : zCo (zc (zc s 86 n (uD r l o)) 76 4 (nI (n + 1))) r a o (l + 1) := by
  have e86 : (zc (zc s 86 n (uD r l o)) 76 4 (nI (n + 1))).1 86 = upd (s.1 86) n (uD r l o) := by rw [zc_ne (by decide), zc_eq]
  refine ⟨n + 1, by omega, zc_at, fun P => ?_⟩
  rw [e86]
  have h4 := h3 P
  constructor
  · intro g o' l' hl ho ha
    by_cases he : o' = o ∧ l' = l
    · obtain ⟨rfl, rfl⟩ := he
      have := g n (by omega)
      rw [upd_at] at this
      exact this
    · refine h4.mp (fun i hi => ?_) o' l' hl (by omega) ha
      have := g i (by omega)
      rw [upd_ne (by omega)] at this
      exact this
  · intro g i hi
    by_cases he : i = n
    · rw [he, upd_at]
      exact g o l hlo (by omega) hq
    · rw [upd_ne he]
      exact h4.mpr (fun o' l' hl ho ha => g o' l' hl (by omega) ha) i (by omega)
def zKc (s s' : zs) : Prop := s'.2 = s.2 ∧ (∀ a, a ≠ 76 → a ≠ 86 → s'.1 a = s.1 a)
theorem zCo_next {s : zs} {r : zrow} {a : Bool} {o : Nat} (h : zCo s r a o o) : zCo s r a (o + 1) 0 := by
  obtain ⟨n, h1, h2, h3⟩ := h
  refine ⟨n, h1, h2, fun P => (h3 P).trans ⟨fun g o' l' hl ho ha => g o' l' hl (by omega) ha, fun g o' l' hl ho ha => g o' l' hl (by omega) ha⟩⟩
/-- two are apart on one of some days -/
def ap (r : zrow) (l o : Nat) (D : Int32) : Bool := an 7 (fun d => bt D d && !(lk r (tO r d) l o))
theorem uD_bt (r : zrow) (l o : Nat) : ∀ k, k < 32 → bt (uD r l o) k = (decide (k < 7) && !(lk r (tO r k) l o)) := by
  intro k hk
  unfold uD
  rw [← not_127 (fun k hk => by rw [dA_bt, decide_eq_false (by omega), Bool.false_and]), b_and, b_xor, b_127 k hk, b_m1 k hk, Bool.xor_true, dA_bt]
  by_cases h : k < 7
  · simp [h]
  · simp [h]
theorem uD_and {r : zrow} {l o : Nat} {D : Int32} : uD r l o &&& D = 0 ↔ ap r l o D = false := by
  unfold ap
  rw [an_f]
  constructor
  · intro h d hd
    have h2 : bt (uD r l o &&& D) d = false := by rw [h]; exact b_0 d
    rw [b_and, uD_bt r l o d (by omega), decide_eq_true hd, Bool.true_and] at h2
    rw [Bool.and_comm]
    exact h2
  · intro h
    apply b_ext
    intro k hk
    rw [b_and, uD_bt r l o k hk, b_0]
    by_cases h7 : k < 7
    · have := h k h7
      rw [decide_eq_true h7, Bool.true_and, Bool.and_comm]
      exact this
    · rw [decide_eq_false h7, Bool.false_and, Bool.false_and]
theorem uD_0 {r : zrow} {l o : Nat} : uD r l o = 0 ↔ ap r l o 127 = false := by
  rw [← uD_and]
  have : uD r l o &&& 127 = uD r l o := by
    apply b_ext
    intro k hk
    rw [b_and, uD_bt r l o k hk, b_127 k hk]
    by_cases h7 : k < 7
    · simp [h7]
    · simp [h7]
  rw [this]
/-- a pair that is not told though it could be -/
def bad (r : zrow) (a : Bool) (D : Int32) (l o : Nat) : Bool := aq r a l o && !(ap r l o D || !(ap r l o 127))
/-- all is told that can be -/
def dall (r : zrow) (a : Bool) (D : Int32) : Bool := !(an 10 (fun l => an 11 (fun o => decide (l < o) && bad r a D l o)))
theorem dall_iff {r : zrow} {a : Bool} {D : Int32} : dall r a D = true ↔ ∀ o l, l < o → o < 11 → aq r a l o = true → ¬ (¬ uD r l o = 0 ∧ uD r l o &&& D = 0) := by
  unfold dall
  rw [Bool.not_eq_true', an_f]
  constructor
  · intro h o l hl ho ha hq
    have h1 := an_f.mp (h l (by omega)) o ho
    rw [decide_eq_true hl, Bool.true_and] at h1
    unfold bad at h1
    rw [ha, Bool.true_and, uD_and.mp hq.2, Bool.false_or, Bool.not_not] at h1
    exact hq.1 (uD_0.mpr h1)
  · intro h l hl
    rw [an_f]
    intro o ho
    by_cases hlo : l < o
    · rw [decide_eq_true hlo, Bool.true_and]
      unfold bad
      cases ha : aq r a l o
      · rfl
      · rw [Bool.true_and]
        have := h o l hlo ho ha
        rw [uD_and, uD_0] at this
        cases h1 : ap r l o D
        · cases h2 : ap r l o 127
          · rfl
          · exact absurd ⟨by rw [h2]; decide, h1⟩ this
        · rfl
    · rw [decide_eq_false hlo, Bool.false_and]
/-- the reference's likes of all days -/
def zLk (R : zr) (r : zrow) : Prop := ∀ d, d < 7 → ∀ i, sOk r i → R 5 (11 * d + i) = lS r (tO r d) i
theorem m11 (d i : Nat) : nI d * 11 + nI i = nI (11 * d + i) := by rw [show (11 : Int32) = nI 11 from rfl, pk_mul, nI_add, Nat.mul_comm]
theorem r_fl19 {R : zr} {r : zrow} (hR : zRr R r) (hV : zVr r) {d : Nat} (hd : d < 7) (hM : zMs R r (tO r d)) : ∃ R', f_X7_findsLikes_19 zFu R (nI d) 0 = some R' ∧ (∀ a, a ≠ 5 → R' a = R a) ∧ (∀ k, (k < 11 * d ∨ 11 * d + 11 ≤ k) → R' 5 k = R 5 k) ∧ ∀ i, sOk r i → R' 5 (11 * d + i) = lS r (tO r d) i := by
  have h := zli (fun k j x => f_X7_findsLikes_19 k x (nI d) (nI j)) (fun j x => (∀ a, a ≠ 5 → x a = R a) ∧ (∀ k, (k < 11 * d ∨ 11 * d + 11 ≤ k) → x 5 k = R 5 k) ∧ ∀ i, i < j → sOk r i → x 5 (11 * d + i) = lS r (tO r d) i) (fun q => ∃ R', q = some R' ∧ (∀ a, a ≠ 5 → R' a = R a) ∧ (∀ k, (k < 11 * d ∨ 11 * d + 11 ≤ k) → R' 5 k = R 5 k) ∧ ∀ i, sOk r i → R' 5 (11 * d + i) = lS r (tO r d) i) 11 (fun k j x hj ⟨x1, x2, x3⟩ => by
    have e1 : ¬ (10 : Int32) < nI j := nI_nlt (a := 10) (by omega) (by decide)
    have hRx : zRr x r := fun k hk => by rw [x1 1 (by decide)]; exact hR k hk
    have hMx : zMs x r (tO r d) := fun i hi k hk => by rw [x1 4 (by decide)]; exact hM i hi k hk
    refine Or.inl ⟨zm x 5 (11 * d + j) (if isB r j = true then lS r (tO r d) j else 0), ⟨fun a ha => ?_, fun k hk => ?_, fun i hi hs => ?_⟩, ?_⟩
    · rw [zm_ne ha]
      exact x1 a ha
    · rw [zm_nk (by omega)]
      exact x2 k hk
    · by_cases h : i = j
      · rw [h, zm_at, if_pos (isB_iff.mpr (by rw [← h]; exact hs))]
      · rw [zm_nk (by omega)]
        exact x3 i (by omega) hs
    · show f_X7_findsLikes_19 (k + 1) x (nI d) (nI j) = _
      simp only [f_X7_findsLikes_19, e1, if_false, r_isBoard hRx hV (show j < 2 ^ 31 by omega), m11, zin_n (show 11 * d + j < 77 by omega) (by decide), if_true, cl_n (show 11 * d + j < 2 ^ 31 by omega), zlt, a1]
      cases hb : isB r j
      · rfl
      · rw [if_pos rfl, r_likeSet hRx hV hMx (isB_iff.mp hb)]
        rfl) (fun k x ⟨x1, x2, x3⟩ => by
    refine ⟨x, ?_, x1, x2, fun i hi => x3 i (by have := hi.le hV; omega) hi⟩
    show f_X7_findsLikes_19 (k + 1) x (nI d) (nI 11) = _
    simp only [f_X7_findsLikes_19, show (10 : Int32) < nI 11 from nI_lt (a := 10) (by omega) (by decide), if_true]) 11 0 zFu R (by omega) (zfu (by omega)) ⟨fun _ _ => rfl, fun _ _ => rfl, fun i hi => absurd hi (Nat.not_lt_zero i)⟩
  exact h
theorem r_findsLikes {R : zr} {r : zrow} (hR : zRr R r) (hV : zVr r) : ∃ R', f_X7_findsLikes R = some R' ∧ zKr R R' ∧ zLk R' r := by
  have h := zli (fun k j x => f_X7_findsLikes_2 k x (nI j)) (fun j x => zKr R x ∧ ∀ d, d < j → ∀ i, sOk r i → x 5 (11 * d + i) = lS r (tO r d) i) (fun q => ∃ R', q = some R' ∧ zKr R R' ∧ zLk R' r) 7 (fun k j x hj ⟨x1, x2⟩ => by
    have e1 : ¬ (7 : Int32) ≤ nI j := nI_ge hj (by decide)
    have hRx := hR.go x1
    obtain ⟨y, y1, y2, y3⟩ := r_measures hRx hV (tO_to r j)
    have hRy := hRx.go (show zKr x y from fun a h4 _ => y2 a h4)
    obtain ⟨z, z1, z2, z3, z4⟩ := r_fl19 hRy hV hj y3
    refine Or.inl ⟨z, ⟨fun a h4 h5 => by rw [z2 a h5, y2 a h4, x1 a h4 h5], fun d hd i hi => ?_⟩, ?_⟩
    · by_cases h : d = j
      · rw [h]
        exact z4 i hi
      · have := hi.le hV
        rw [z3 _ (by omega), y2 5 (by decide)]
        exact x2 d (by omega) i hi
    · show f_X7_findsLikes_2 (k + 1) x (nI j) = _
      simp only [f_X7_findsLikes_2, e1, if_false, r_touchedOn hRx (show j < 32 by omega), Option.bind_some, y1, z1, a1]) (fun k x ⟨x1, x2⟩ => by
    refine ⟨x, ?_, x1, x2⟩
    show f_X7_findsLikes_2 (k + 1) x (nI 7) = _
    simp only [f_X7_findsLikes_2, show (7 : Int32) ≤ nI 7 from nI_le (Nat.le_refl 7) (by decide), if_true]) 7 0 zFu R (by omega) (zfu (by omega)) ⟨zKr.rfl' R, fun d hd => absurd hd (Nat.not_lt_zero d)⟩
  obtain ⟨R', e1, e2⟩ := h
  refine ⟨R', ?_, e2⟩
  unfold f_X7_findsLikes
  rw [show f_X7_findsLikes_2 zFu R 0 = some R' from e1]
  rfl
theorem r_areApart {R : zr} {r : zrow} (hV : zVr r) (hL : zLk R r) {l o : Nat} (hl : sOk r l) (ho : sOk r o) (D : Int32) : f_X7_areApart R (nI l) (nI o) D = some (ap r l o D) := by
  have hl10 := hl.le hV
  have ho10 := ho.le hV
  have h := zlp (fun k d => f_X7_areApart_6 k R (nI l) (nI o) D (an d (fun d => bt D d && !(lk r (tO r d) l o))) (nI d)) 7 (some (ap r l o D)) (fun k d hd => by
    show f_X7_areApart_6 (k + 1) R (nI l) (nI o) D (an d (fun d => bt D d && !(lk r (tO r d) l o))) (nI d) = f_X7_areApart_6 k R (nI l) (nI o) D (an d (fun d => bt D d && !(lk r (tO r d) l o)) || (bt D d && !(lk r (tO r d) l o))) (nI (d + 1))
    generalize an d (fun d => bt D d && !(lk r (tO r d) l o)) = acc
    have e1 : ¬ (7 : Int32) ≤ nI d := nI_ge hd (by decide)
    simp only [f_X7_areApart_6, e1, if_false, h7 _ (show d < 32 by omega), h7 _ (show o < 32 by omega), m11, zin_n (show 11 * d + l < 77 by omega) (by decide), if_true, cl_n (show 11 * d + l < 2 ^ 31 by omega), hL d hd l hl, bt_lS, decide_eq_true (show o < 11 by omega), isB_iff.mpr ho, Bool.true_and, a1]
    cases acc
    · cases bt D d
      · rfl
      · cases lk r (tO r d) l o <;> rfl
    · rfl) (fun k => by
    show f_X7_areApart_6 (k + 1) R (nI l) (nI o) D _ (nI 7) = _
    simp only [f_X7_areApart_6, show (7 : Int32) ≤ nI 7 from nI_le (Nat.le_refl 7) (by decide), if_true]
    rfl) 7 0 zFu (by omega) (zfu (by omega))
  unfold f_X7_areApart
  rw [show f_X7_areApart_6 zFu R (nI l) (nI o) D false 0 = _ from h]
  rfl
theorem an_add {n : Nat} {q : Nat → Bool} (h : ∀ i, i < n → q i = false) : an n q = false := an_f.mpr h
theorem r_da18 {R : zr} {r : zrow} (hR : zRr R r) (hV : zVr r) (hL : zLk R r) (a : Bool) (D : Int32) {l : Nat} (hl : l < 10) (acc : Bool) : f_X7_doesAll_18 zFu R (zb a) D (nI l) acc (nI (l + 1)) = some (acc && !(an 11 (fun o => decide (l < o) && bad r a D l o))) := by
  have h := zli (fun k o x => f_X7_doesAll_18 k R (zb a) D (nI l) x (nI o)) (fun o x => l < o ∧ x = (acc && !(an o (fun o => decide (l < o) && bad r a D l o)))) (fun q => q = some (acc && !(an 11 (fun o => decide (l < o) && bad r a D l o)))) 11 (fun k o x ho ⟨hlo, hx⟩ => by
    refine Or.inl ⟨(acc && !(an (o + 1) (fun o => decide (l < o) && bad r a D l o))), ⟨by omega, rfl⟩, ?_⟩
    have ez : (acc && !(an (o + 1) (fun o => decide (l < o) && bad r a D l o))) = (x && !(bad r a D l o)) := by
      show (acc && !(an o (fun o => decide (l < o) && bad r a D l o) || (decide (l < o) && bad r a D l o))) = _
      rw [decide_eq_true hlo, Bool.true_and, Bool.not_or, ← Bool.and_assoc, hx]
    rw [ez]
    show f_X7_doesAll_18 (k + 1) R (zb a) D (nI l) x (nI o) = f_X7_doesAll_18 k R (zb a) D (nI l) (x && !(bad r a D l o)) (nI (o + 1))
    clear hx ez
    have e1 : ¬ (10 : Int32) < nI o := nI_nlt (a := 10) (by omega) (by decide)
    have q1 : (nI o = (10 : Int32)) = (o = 10) := propext (nI_eq (b := 10) (by omega) (by omega))
    simp only [f_X7_doesAll_18, e1, if_false, r_isBoard hR hV (show l < 2 ^ 31 by omega), r_isBoard hR hV (show o < 2 ^ 31 by omega), q1, a1, bad, aq]
    cases hb : isB r l
    · cases x <;> rfl
    · cases hb2 : isB r o
      · cases x <;> rfl
      · simp only [if_true, r_areApart hV hL (isB_iff.mp hb) (isB_iff.mp hb2), Option.bind_some]
        cases a
        · by_cases h10 : o = 10
          · rw [decide_eq_true h10, if_pos h10]
            cases x
            · rfl
            · cases ap r l o D
              · cases ap r l o 127 <;> rfl
              · rfl
          · rw [decide_eq_false h10, if_neg h10]
            cases x <;> rfl
        · cases x
          · rfl
          · cases ap r l o D
            · cases ap r l o 127 <;> rfl
            · rfl) (fun k x ⟨hlo, hx⟩ => by
    show f_X7_doesAll_18 (k + 1) R (zb a) D (nI l) _ (nI 11) = _
    simp only [f_X7_doesAll_18, show (10 : Int32) < nI 11 from nI_lt (a := 10) (by omega) (by decide), if_true, hx]) (10 - l) (l + 1) zFu acc (by omega) (zfu (by omega)) ⟨by omega, by
      rw [an_f.mpr (fun i hi => by rw [decide_eq_false (by omega), Bool.false_and])]
      cases acc <;> rfl⟩
  exact h
theorem r_doesAll {R : zr} {r : zrow} (hR : zRr R r) (hV : zVr r) (hL : zLk R r) (a : Bool) (D : Int32) : f_X7_doesAll R (zb a) D = some (dall r a D) := by
  have h := zlp (fun k l => f_X7_doesAll_5 k R (zb a) D (!(an l (fun l => an 11 (fun o => decide (l < o) && bad r a D l o)))) (nI l)) 10 (some (dall r a D)) (fun k l hl => by
    show f_X7_doesAll_5 (k + 1) R (zb a) D (!(an l (fun l => an 11 (fun o => decide (l < o) && bad r a D l o)))) (nI l) = f_X7_doesAll_5 k R (zb a) D (!(an l (fun l => an 11 (fun o => decide (l < o) && bad r a D l o)) || an 11 (fun o => decide (l < o) && bad r a D l o))) (nI (l + 1))
    have e1 : ¬ (10 : Int32) ≤ nI l := nI_ge hl (by decide)
    simp only [f_X7_doesAll_5, e1, if_false, zlt, a1, r_da18 hR hV hL a D hl, Option.bind_some, Bool.not_or]) (fun k => by
    show f_X7_doesAll_5 (k + 1) R (zb a) D _ (nI 10) = _
    simp only [f_X7_doesAll_5, show (10 : Int32) ≤ nI 10 from nI_le (Nat.le_refl 10) (by decide), if_true]
    rfl) 10 0 zFu (by omega) (zfu (by omega))
  unfold f_X7_doesAll
  rw [show f_X7_doesAll_5 zFu R (zb a) D true 0 = _ from h]
  rfl
/-- the count of a number's bits -/
def on (m : Nat) : Nat := ct 16 (bt (nI m))
theorem on_7 : ∀ m, m < 127 → on m < 7 := by decide +kernel
theorem on_127 : on 127 = 7 := by decide +kernel
theorem bc_on {m : Nat} (hm : m < 65536) : f_J6_bitCount_0f7a4 (nI m) = nI (on m) := bc_ct (hi_nI hm)
/-- the best of some sets of days -/
def bst (q : Nat → Bool) (lo hi b : Nat) : Prop := (b = 127 ∨ (lo ≤ b ∧ b < hi ∧ q b = true)) ∧ ∀ m, lo ≤ m → m < hi → q m = true → on b < on m ∨ (on b = on m ∧ b ≤ m)
theorem bst_un {q : Nat → Bool} {b c : Nat} (h : bst q 0 127 b) (h2 : bst q 0 127 c) : b = c := by
  have e7 := on_127
  rcases h.1 with hb | hb
  · rcases h2.1 with hc | hc
    · rw [hb, hc]
    · have := h.2 c hc.1 hc.2.1 hc.2.2
      have := on_7 c hc.2.1
      rw [hb] at *
      omega
  · rcases h2.1 with hc | hc
    · have := h2.2 b hb.1 hb.2.1 hb.2.2
      have := on_7 b hb.2.1
      rw [hc] at *
      omega
    · have h3 := h.2 c hc.1 hc.2.1 hc.2.2
      have h4 := h2.2 b hb.1 hb.2.1 hb.2.2
      omega
def dn (i : Nat) : Int32 := if i ≤ 126 then nI (126 - i) else -1
theorem dn_s {i : Nat} (h : i < 127) : dn i + (-1) = dn (i + 1) := by
  unfold dn
  rw [if_pos (show i ≤ 126 by omega)]
  by_cases h2 : i + 1 ≤ 126
  · rw [if_pos h2, show 126 - i = (126 - (i + 1)) + 1 by omega, pk_m1]
  · rw [if_neg h2, show 126 - i = 0 by omega]
    decide
theorem r_fewest {R : zr} {r : zrow} (hR : zRr R r) (hV : zVr r) (hL : zLk R r) (a : Bool) (x2 : Int32) : ∃ b, f_X7_fewestDays_32 zFu R (zb a) x2 127 126 = some (nI b) ∧ b < 128 ∧ bst (fun m => dall r a (nI m)) 0 127 b := by
  have h := zli (fun k i b => f_X7_fewestDays_32 k R (zb a) x2 (nI b) (dn i)) (fun i b => b < 128 ∧ bst (fun m => dall r a (nI m)) (127 - i) 127 b) (fun q => ∃ b, q = some (nI b) ∧ b < 128 ∧ bst (fun m => dall r a (nI m)) 0 127 b) 127 (fun k i b hi ⟨hb, hbst⟩ => by
    have ed : dn i = nI (126 - i) := if_pos (by omega)
    have e1 : ¬ nI (126 - i) < 0 := nI_pos (by omega)
    have hm : 126 - i < 127 := by omega
    have es : nI (126 - i) + (-1) = dn (i + 1) := by rw [← ed]; exact dn_s hi
    have hlo : 127 - (i + 1) = 126 - i := by omega
    have hlo2 : 127 - i = (126 - i) + 1 := by omega
    refine Or.inl ?_
    show ∃ x', (x' < 128 ∧ bst _ (127 - (i + 1)) 127 x') ∧ f_X7_fewestDays_32 (k + 1) R (zb a) x2 (nI b) (dn i) = f_X7_fewestDays_32 k R (zb a) x2 (nI x') (dn (i + 1))
    rw [ed, hlo]
    rw [hlo2] at hbst
    generalize 126 - i = m at *
    have e7 := on_127
    have em := on_7 m hm
    have hon : on b ≤ 16 := ct_le 16 _
    have q1 : (nI (on b) < nI (on m)) = (on b < on m) := propext (nI_ltI (by omega) (by omega))
    simp only [f_X7_fewestDays_32, e1, if_false, r_ones, Option.bind_some, show nI (ct 16 (bt (nI b))) = nI (on b) from rfl, show nI (ct 16 (bt (nI m))) = nI (on m) from rfl, q1, r_doesAll hR hV hL, es]
    by_cases g : on b < on m
    · rw [if_pos g]
      refine ⟨b, ⟨hb, ?_, fun m' h1 h2 h3 => ?_⟩, rfl⟩
      · rcases hbst.1 with h | h
        · exact Or.inl h
        · exact Or.inr ⟨by omega, h.2⟩
      · by_cases h : m' = m
        · subst h
          exact Or.inl g
        · exact hbst.2 m' (by omega) h2 h3
    · rw [if_neg g]
      cases hq : dall r a (nI m)
      · rw [if_neg (by decide)]
        refine ⟨b, ⟨hb, ?_, fun m' h1 h2 h3 => ?_⟩, rfl⟩
        · rcases hbst.1 with h | h
          · exact Or.inl h
          · exact Or.inr ⟨by omega, h.2⟩
        · by_cases h : m' = m
          · subst h
            exact absurd (hq.symm.trans h3) (by decide)
          · exact hbst.2 m' (by omega) h2 h3
      · rw [if_pos rfl]
        refine ⟨m, ⟨by omega, Or.inr ⟨by omega, by omega, hq⟩, fun m' h1 h2 h3 => ?_⟩, rfl⟩
        by_cases h : m' = m
        · exact Or.inr (by rw [h]; exact ⟨rfl, Nat.le_refl m⟩)
        · have := hbst.2 m' (by omega) h2 h3
          omega) (fun k b ⟨hb, hbst⟩ => by
    refine ⟨b, ?_, hb, hbst⟩
    show f_X7_fewestDays_32 (k + 1) R (zb a) x2 (nI b) (-1) = _
    simp only [f_X7_fewestDays_32, show (-1 : Int32) < 0 by decide, if_true]) 127 0 zFu 127 (by omega) (zfu (by omega)) ⟨by omega, Or.inl rfl, fun m h1 h2 => by omega⟩
  exact h
theorem zKc.m {s s' : zs} (h : zKc s s') : zKm s s' := ⟨h.1, fun a ha => h.2 a (by omega) (by omega), fun i hi => by rw [h.2 _ (by omega) (by omega)]⟩
