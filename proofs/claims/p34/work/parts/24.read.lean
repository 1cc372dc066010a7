/-! what is read, and outcomes -/
def jn (r : zrow) (i a b : Nat) : Bool := decide (a = b) || decide (i < cF r ∧ kN r i = 1 ∧ ((oN r i = a ∧ tN r i = b) ∨ (oN r i = b ∧ tN r i = a)))
theorem hF_t {r : zrow} {i kd o : Nat} : hF r i kd o = true ↔ i < cF r ∧ kN r i = kd ∧ oN r i = o := by
  unfold hF
  simp only [Bool.and_eq_true, decide_eq_true_eq]
theorem hF_f {r : zrow} {i kd o : Nat} : hF r i kd o = false ↔ ¬ (i < cF r ∧ kN r i = kd ∧ oN r i = o) := by
  rw [← hF_t]
  simp
theorem sI_lt {r : zrow} (hV : zVr r) {i kd o : Nat} (h : hF r i kd o = true) : i < cF r ∧ sI i = nI i := by
  have hf := hV.f.2
  have h1 := (hF_t.mp h).1
  exact ⟨h1, if_neg (by omega)⟩
theorem r_areJoined {R : zr} {r : zrow} (hR : zRr R r) (hV : zVr r) {i a b : Nat} (hi : sOk r i) (ha : a < 8) (hb : b < 8) : f_X7_areJoined R (sI i) (nI a) (nI b) = some (jn r i a b) := by
  have hf := hV.f.2
  have q1 : (nI a = nI b) = (a = b) := propext (nI_eq (by omega) (by omega))
  have q2 : (nI b ≤ nI a) = (b ≤ a) := propext (nI_leI (by omega) (by omega))
  have hx : ∀ m n, m < 8 → n < 8 → hF r i 1 m = true → (if zin ((52 : Int32) + sI i) 88 = true then if R 1 (((52 : Int32) + sI i).toNatClampNeg) = nI n then some true else some false else none) = some (decide (tN r i = n)) := by
    intro m n hm hn h
    obtain ⟨hl, es⟩ := sI_lt hV h
    obtain ⟨-, -, -, -, ht1, -⟩ := hV.flt hl
    have q3 : (nI (tN r i) = nI n) = (tN r i = n) := propext (nI_eq (by omega) (by omega))
    rw [es, a52, zin_n (show 52 + i < 88 by omega) (by decide), cl_n (show 52 + i < 2 ^ 31 by omega), hR (52 + i) (by omega), ht1.1, if_pos rfl]
    simp only [q3]
    by_cases h9 : tN r i = n
    · simp [h9]
    · simp [h9]
  simp only [f_X7_areJoined, q1, q2]
  by_cases h : a = b
  · rw [if_pos h]
    simp [jn, h]
  · rw [if_neg h]
    have ht : i < cF r → kN r i = 1 → oN r i < tN r i := fun hl hk => ((hV.flt hl).2.2.2.2.2 hk).1
    by_cases hle : b ≤ a
    · rw [if_pos hle, r_hF1 hR hV hi (show b < 2 ^ 31 by omega), Option.bind_some]
      rcases Bool.eq_false_or_eq_true (hF r i 1 b) with g | g
      · rw [if_pos g, hx b a hb ha g]
        obtain ⟨g1, g2, g3⟩ := hF_t.mp g
        have := ht g1 g2
        unfold jn
        rw [decide_eq_false h, Bool.false_or]
        congr 1
        rw [Bool.eq_iff_iff, decide_eq_true_eq, decide_eq_true_eq]
        omega
      · rw [g, if_neg (by decide)]
        have g1 := hF_f.mp g
        unfold jn
        rw [decide_eq_false h, Bool.false_or, decide_eq_false]
        intro ⟨q1, q2, q3⟩
        have := ht q1 q2
        rcases q3 with q3 | q3
        · omega
        · exact g1 ⟨q1, q2, q3.1⟩
    · rw [if_neg hle, r_hF1 hR hV hi (show a < 2 ^ 31 by omega), Option.bind_some]
      rcases Bool.eq_false_or_eq_true (hF r i 1 a) with g | g
      · rw [if_pos g, hx a b ha hb g]
        obtain ⟨g1, g2, g3⟩ := hF_t.mp g
        have := ht g1 g2
        unfold jn
        rw [decide_eq_false h, Bool.false_or]
        congr 1
        rw [Bool.eq_iff_iff, decide_eq_true_eq, decide_eq_true_eq]
        omega
      · rw [g, if_neg (by decide)]
        have g1 := hF_f.mp g
        unfold jn
        rw [decide_eq_false h, Bool.false_or, decide_eq_false]
        intro ⟨q1, q2, q3⟩
        have := ht q1 q2
        rcases q3 with q3 | q3
        · exact g1 ⟨q1, q2, q3.1⟩
        · omega
/-- what a pin reads while one is driven -/
def rdB (r : zrow) (i p d : Nat) (v : Bool) : Bool := match nOf r p with
  | none => decide (p = d) && v
  | some n => if hF r i 0 p = true then decide (p = d) && v else if hF r i 2 n = true then false else if hF r i 3 n = true then true else
    match nOf r d with
    | none => false
    | some m => if hF r i 0 d = true then false else jn r i n m && v
theorem r_readsOne {R : zr} {r : zrow} (hR : zRr R r) (hV : zVr r) {i p d : Nat} (hi : sOk r i) (hp : p < 16) (hd : d < 16) (v : Bool) : f_X7_readsOne R (sI i) (nI p) (nI d) (zb v) = some (zb (rdB r i p d v)) := by
  have hn8 := hV.n.2
  have q1 : (nI p = nI d) = (p = d) := propext (nI_eq (by omega) (by omega))
  have hpd : (if p = d then some (zb v) else some 0) = some (zb (decide (p = d) && v)) := by
    by_cases h : p = d
    · simp [h]
    · simp [h, zb]
  simp only [f_X7_readsOne, r_netOf hR hV (show p < 32 by omega), r_netOf hR hV (show d < 32 by omega), Option.bind_some, q1]
  unfold rdB
  cases h1 : nOf r p with
  | none =>
    simp only [zo, if_true]
    exact hpd
  | some n =>
    have hn := nOf_lt h1
    simp only [zo, m1_ne (show n < 2 ^ 31 by omega), if_false, r_hF0 hR hV hi (show p < 2 ^ 31 by omega), r_hF2 hR hV hi (show n < 2 ^ 31 by omega), r_hF3 hR hV hi (show n < 2 ^ 31 by omega), r_hF0 hR hV hi (show d < 2 ^ 31 by omega), Option.bind_some]
    cases hF r i 0 p
    · cases hF r i 2 n
      · cases hF r i 3 n
        · simp only [Bool.false_eq_true, if_false]
          cases h2 : nOf r d with
          | none =>
            simp only [zo, if_true]
            rfl
          | some m =>
            have hm := nOf_lt h2
            simp only [zo, m1_ne (show m < 2 ^ 31 by omega), if_false, r_areJoined hR hV hi (show n < 8 by omega) (show m < 8 by omega), Option.bind_some]
            cases hF r i 0 d
            · cases jn r i n m
              · rfl
              · simp
            · rfl
        · rfl
      · rfl
    · simp only [if_true]
      exact hpd
theorem zb_sh (k : Nat) (hk : k < 32) : zb false <<< (nI k &&& 31) = 0 := b_ext fun i hi => by
  show bt ((0 : Int32) <<< _) i = _
  rw [b_shl k hk 0 hi, b_0, b_0, Bool.and_false]
theorem r_readsBy' {R : zr} {r : zrow} (hR : zRr R r) (hV : zVr r) {i d : Nat} (hi : sOk r i) (hd : d < 16) (x : Int32) (v : Bool) : f_X7_readsBy R (sI i) x (nI d) (zb v) = some (mk 16 (fun p => bt x p && rdB r i p d v)) := by
  have h := zlp (fun k j => f_X7_readsBy_6 k R (sI i) x (nI d) (zb v) (mk j (fun p => bt x p && rdB r i p d v)) (nI j)) 16 (some (mk 16 (fun p => bt x p && rdB r i p d v))) (fun k j hj => by
    show f_X7_readsBy_6 (k + 1) R (sI i) x (nI d) (zb v) (mk j (fun p => bt x p && rdB r i p d v)) (nI j) = f_X7_readsBy_6 k R (sI i) x (nI d) (zb v) (mk (j + 1) (fun p => bt x p && rdB r i p d v)) (nI (j + 1))
    have e1 : ¬ (16 : Int32) ≤ nI j := nI_ge hj (by decide)
    simp only [f_X7_readsBy_6, e1, if_false, h7 _ (show j < 32 by omega), r_readsOne hR hV hi hj hd v, Option.bind_some, zlt, a1, or_0]
    cases hb : bt x j
    · rw [if_neg (by decide), mk_F (p := fun p => bt x p && rdB r i p d v) (by show (bt x j && _) = false; rw [hb, Bool.false_and])]
    · rw [if_pos rfl]
      cases hc : rdB r i j d v
      · rw [zb_sh j (by omega), or_0, mk_F (p := fun p => bt x p && rdB r i p d v) (by show (_ && rdB r i j d v) = false; rw [hc, Bool.and_false])]
      · show f_X7_readsBy_6 k R (sI i) x (nI d) (zb v) (_ ||| ((1 : Int32) <<< (nI j &&& 31))) (nI (j + 1)) = _
        rw [mk_T (p := fun p => bt x p && rdB r i p d v) (by show (bt x j && rdB r i j d v) = true; rw [hb, hc]; rfl)]) (fun k => by
    show f_X7_readsBy_6 (k + 1) R (sI i) x (nI d) (zb v) _ (nI 16) = _
    simp only [f_X7_readsBy_6, show (16 : Int32) ≤ nI 16 from nI_le (Nat.le_refl 16) (by decide), if_true]) 16 0 zFu (by omega) (zfu (by omega))
  unfold f_X7_readsBy
  rw [show f_X7_readsBy_6 zFu R (sI i) x (nI d) (zb v) 0 0 = _ from h]
  rfl
theorem nb {r : zrow} (hV : zVr r) {p j : Nat} (hj : j < cN r) : bt (r (9 + j)) p = decide (nOf r p = some j) := by
  rw [Bool.eq_iff_iff, decide_eq_true_eq, nOf_iff hV]
  exact ⟨fun h => ⟨hj, h⟩, fun h => h.2⟩
theorem b_not {n : Nat} (hn : n < 32) {i : Nat} (hi : i < 32) (x : Int32) : bt (x &&& (((1 : Int32) <<< (nI n &&& 31)) ^^^ (-1))) i = (bt x i && !(decide (i = n))) := by
  rw [b_and, b_xor, b_bit hn hi, b_m1 i hi, Bool.xor_true]
theorem bt_foV {r : zrow} (hV : zVr r) {i d p : Nat} (hd : d < 16) (hp : p < 16) : bt (foV r i d) p = match nOf r d with
    | none => decide (p = d)
    | some m => if hF r i 0 d = true then decide (p = d) else if hF r i 2 m = true then false else
      (decide (nOf r p = some m) || (match prt r i m with | none => false | some q => decide (nOf r p = some q))) && !(hF r i 0 p) := by
  have hf := hV.f.2
  unfold foV
  cases h : nOf r d with
  | none => exact b_bit (by omega) (by omega)
  | some m =>
    have hm := nOf_lt h
    show bt (if hF r i 0 d = true then _ else if hF r i 2 m = true then 0 else _) p = if hF r i 0 d = true then _ else if hF r i 2 m = true then false else _
    by_cases g0 : hF r i 0 d = true
    · rw [if_pos g0, if_pos g0]
      exact b_bit (by omega) (by omega)
    · rw [if_neg g0, if_neg g0]
      by_cases g2 : hF r i 2 m = true
      · rw [if_pos g2, if_pos g2]
        exact b_0 p
      · rw [if_neg g2, if_neg g2]
        have key : ∀ (x : Int32) (b : Bool), bt x p = b → bt (if i < cF r ∧ kN r i = 0 then x &&& (((1 : Int32) <<< (nI (oN r i) &&& 31)) ^^^ (-1)) else x) p = (b && !(hF r i 0 p)) := by
          intro x b hb
          by_cases gk : i < cF r ∧ kN r i = 0
          · rw [if_pos gk]
            obtain ⟨-, ho1, -⟩ := hV.flt gk.1
            rw [b_not (show oN r i < 32 by omega) (show p < 32 by omega), hb]
            congr 2
            unfold hF
            rw [decide_eq_true gk.1, decide_eq_true gk.2, Bool.true_and, Bool.true_and]
            by_cases h9 : p = oN r i
            · rw [decide_eq_true h9, decide_eq_true h9.symm]
            · rw [decide_eq_false h9, decide_eq_false (fun q => h9 q.symm)]
          · rw [if_neg gk, hb]
            have : hF r i 0 p = false := hF_f.mpr (fun q => gk ⟨q.1, q.2.1⟩)
            rw [this, Bool.not_false, Bool.and_true]
        cases h2 : prt r i m with
        | none => exact key _ _ ((nb hV hm).trans (Bool.or_false _).symm)
        | some q =>
          refine key _ _ ?_
          rw [b_or, nb hV hm, nb hV (prt_lt hV h2)]
theorem bt_stV {r : zrow} (hV : zVr r) {i p : Nat} : bt (stV r i) p = match nOf r p with | none => false | some n => hF r i 3 n := by
  unfold stV
  by_cases g : i < cF r ∧ kN r i = 3
  · obtain ⟨-, ho1, ho2, -⟩ := hV.flt g.1
    rw [if_pos g, nb hV (ho2 (by omega) (by omega))]
    cases h : nOf r p with
    | none => exact decide_eq_false (fun q => by cases q)
    | some n =>
      show decide (some n = some (oN r i)) = hF r i 3 n
      unfold hF
      rw [decide_eq_true g.1, decide_eq_true g.2, Bool.true_and, Bool.true_and]
      by_cases h9 : n = oN r i
      · rw [h9]
        simp
      · rw [decide_eq_false (fun q => h9 (Option.some.inj q)), decide_eq_false (fun q => h9 q.symm)]
  · rw [if_neg g, b_0]
    cases h : nOf r p with
    | none => rfl
    | some n => exact (hF_f.mpr (fun q => g ⟨q.1, q.2.1⟩)).symm
theorem rd_key {r : zrow} (hV : zVr r) {i p d : Nat} (hp : p < 16) (hd : d < 16) (v : Bool) : rdB r i p d v = ((v && bt (foV r i d) p) || bt (stV r i) p) := by
  rw [bt_foV hV hd hp, bt_stV hV]
  unfold rdB
  cases h1 : nOf r p with
  | none =>
    show (decide (p = d) && v) = _
    rw [Bool.or_false]
    cases h2 : nOf r d with
    | none => exact Bool.and_comm _ _
    | some m =>
      have hne : p ≠ d := fun q => by rw [q, h2] at h1; cases h1
      rw [decide_eq_false hne, Bool.false_and]
      show false = (v && (if hF r i 0 d = true then false else if hF r i 2 m = true then false else _))
      have e1 : (decide ((none : Option Nat) = some m) || (match prt r i m with | none => false | some q => decide ((none : Option Nat) = some q))) = false := by
        cases prt r i m <;> simp
      rw [e1, Bool.false_and]
      cases hF r i 0 d <;> cases hF r i 2 m <;> cases v <;> rfl
  | some n =>
    have hn := nOf_lt h1
    show (if hF r i 0 p = true then decide (p = d) && v else if hF r i 2 n = true then false else if hF r i 3 n = true then true else _) = ((v && _) || hF r i 3 n)
    by_cases g0 : hF r i 0 p = true
    · obtain ⟨k1, k2, k3⟩ := hF_t.mp g0
      have e3 : hF r i 3 n = false := hF_f.mpr (fun q => by omega)
      rw [if_pos g0, e3, Bool.or_false]
      cases h2 : nOf r d with
      | none => exact Bool.and_comm _ _
      | some m =>
        show _ = (v && (if hF r i 0 d = true then decide (p = d) else if hF r i 2 m = true then false else (_ && !(hF r i 0 p))))
        have e2 : hF r i 2 m = false := hF_f.mpr (fun q => by omega)
        rw [e2, if_neg (by decide : ¬ false = true), g0, Bool.not_true, Bool.and_false]
        by_cases g4 : hF r i 0 d = true
        · rw [if_pos g4]
          exact Bool.and_comm _ _
        · rw [if_neg g4, Bool.and_false]
          have : p ≠ d := fun q => g4 (by rw [← q]; exact g0)
          rw [decide_eq_false this, Bool.false_and]
    · rw [if_neg g0]
      have g0' : hF r i 0 p = false := by simpa using g0
      by_cases g2 : hF r i 2 n = true
      · obtain ⟨k1, k2, k3⟩ := hF_t.mp g2
        have e3 : hF r i 3 n = false := hF_f.mpr (fun q => by omega)
        rw [if_pos g2, e3, Bool.or_false]
        cases h2 : nOf r d with
        | none =>
          have : p ≠ d := fun q => by rw [q, h2] at h1; cases h1
          show false = (v && decide (p = d))
          rw [decide_eq_false this, Bool.and_false]
        | some m =>
          show false = (v && (if hF r i 0 d = true then decide (p = d) else if hF r i 2 m = true then false else _))
          have e0 : hF r i 0 d = false := hF_f.mpr (fun q => by omega)
          rw [e0, if_neg (by decide : ¬ false = true)]
          by_cases g4 : hF r i 2 m = true
          · rw [if_pos g4, Bool.and_false]
          · rw [if_neg g4]
            have e4 : prt r i m = none := if_neg (fun q => by omega)
            have e5 : ¬ (some n : Option Nat) = some m := fun q => g4 (by rw [← Option.some.inj q]; exact g2)
            rw [e4, decide_eq_false e5]
            simp
      · rw [if_neg g2]
        have g2' := hF_f.mp (by simpa using g2 : hF r i 2 n = false)
        by_cases g3 : hF r i 3 n = true
        · rw [if_pos g3, g3, Bool.or_true]
        · have e3 : hF r i 3 n = false := by simpa using g3
          rw [if_neg g3, e3, Bool.or_false]
          cases h2 : nOf r d with
          | none =>
            have : p ≠ d := fun q => by rw [q, h2] at h1; cases h1
            show false = (v && decide (p = d))
            rw [decide_eq_false this, Bool.and_false]
          | some m =>
            show (if hF r i 0 d = true then false else jn r i n m && v) = (v && (if hF r i 0 d = true then decide (p = d) else if hF r i 2 m = true then false else (_ && !(hF r i 0 p))))
            by_cases g4 : hF r i 0 d = true
            · have : p ≠ d := fun q => g0 (by rw [q]; exact g4)
              rw [if_pos g4, if_pos g4, decide_eq_false this, Bool.and_false]
            · rw [if_neg g4, if_neg g4, g0', Bool.not_false, Bool.and_true, Bool.and_comm]
              congr 1
              by_cases g5 : hF r i 2 m = true
              · rw [if_pos g5]
                obtain ⟨k1, k2, k3⟩ := hF_t.mp g5
                unfold jn
                rw [decide_eq_false (fun q => g2' (by rw [q]; exact ⟨k1, k2, k3⟩)), decide_eq_false (fun q => by omega), Bool.or_false]
              · rw [if_neg g5]
                unfold jn
                have e6 : decide ((some n : Option Nat) = some m) = decide (n = m) := by
                  by_cases h9 : n = m
                  · simp [h9]
                  · simp [h9]
                rw [e6]
                congr 1
                unfold prt
                by_cases gk : i < cF r ∧ kN r i = 1
                · have ht := ((hV.flt gk.1).2.2.2.2.2 gk.2).1
                  rw [if_pos gk]
                  by_cases h7 : oN r i = m
                  · rw [if_pos h7]
                    show _ = decide ((some n : Option Nat) = some (tN r i))
                    rw [Bool.eq_iff_iff, decide_eq_true_eq, decide_eq_true_eq, Option.some.injEq]
                    omega
                  · rw [if_neg h7]
                    by_cases h8 : tN r i = m
                    · rw [if_pos h8]
                      show _ = decide ((some n : Option Nat) = some (oN r i))
                      rw [Bool.eq_iff_iff, decide_eq_true_eq, decide_eq_true_eq, Option.some.injEq]
                      omega
                    · rw [if_neg h8]
                      show _ = false
                      rw [decide_eq_false]
                      omega
                · rw [if_neg gk]
                  show _ = false
                  rw [decide_eq_false]
                  omega
/-- the pins that read 1 -/
def rdV (r : zrow) (i : Nat) (x : Int32) (d : Nat) (v : Bool) : Int32 := (if v = true then foV r i d ||| stV r i else stV r i) &&& x
theorem rd_mk {r : zrow} (hV : zVr r) {i d : Nat} (hd : d < 16) {x : Int32} (hx : ∀ p, 16 ≤ p → bt x p = false) (v : Bool) : mk 16 (fun p => bt x p && rdB r i p d v) = rdV r i x d v := by
  apply b_ext
  intro p _
  rw [bt_mk (by decide)]
  unfold rdV
  rw [b_and]
  rcases Nat.lt_or_ge p 16 with hp | hp
  · rw [decide_eq_true hp, Bool.true_and, rd_key hV hp hd v, Bool.and_comm]
    congr 1
    cases v
    · rw [if_neg (by decide), Bool.false_and, Bool.false_or]
    · rw [if_pos rfl, b_or, Bool.true_and]
  · rw [decide_eq_false (by omega), Bool.false_and, hx p hp, Bool.and_false]
theorem r_readsBy {R : zr} {r : zrow} (hR : zRr R r) (hV : zVr r) {i d : Nat} (hi : sOk r i) (hd : d < 16) {x : Int32} (hx : ∀ p, 16 ≤ p → bt x p = false) (v : Bool) : f_X7_readsBy R (sI i) x (nI d) (zb v) = some (rdV r i x d v) := by
  rw [r_readsBy' hR hV hi hd, rd_mk hV hd hx]
/-- what is touched is of 16 pins -/
def zTo (t : Int32) : Prop := ∀ p, 16 ≤ p → bt t p = false
theorem rc_to {r : zrow} (hV : zVr r) (i : Nat) {t : Int32} (ht : zTo t) : zTo (rc r i t) := by
  have : ∀ c, c ≤ cC r → zTo (rck r i t c) := by
    intro c
    induction c with
    | zero => exact fun _ => ht
    | succ c ih =>
      intro hc p hp
      show bt (if bt (sc r i t) c = true then rck r i t c ||| r (27 + c) else rck r i t c) p = false
      split
      · rw [b_or, ih (by omega) p hp, (hV.chip (show c < cC r by omega)).2.2 p hp]
        rfl
      · exact ih (by omega) p hp
  exact this _ (Nat.le_refl _)
theorem tO_to (r : zrow) (d : Nat) : zTo (tO r d) := by
  intro p hp
  rw [tO, bt_mk (by decide), decide_eq_false (by omega), Bool.false_and]
theorem or_to {x y : Int32} (hx : zTo x) (hy : zTo y) : zTo (x ||| y) := by
  intro p hp
  rw [b_or, hx p hp, hy p hp]
  rfl
theorem bit_to {n : Nat} (hn : n < 16) : zTo ((1 : Int32) <<< (nI n &&& 31)) := by
  intro p hp
  rcases Nat.lt_or_ge p 32 with h | h
  · rw [b_bit (by omega) h]
    exact decide_eq_false (by omega)
  · exact b_big h
/-- the outcome of a suspect's board, place by place -/
def oc (r : zrow) (t : Int32) (i k : Nat) : Int32 := if k = 0 then rc r i t else if bt (rc r i t) ((k - 1) / 2) = true then rdV r i (rc r i t) ((k - 1) / 2) (decide ((k - 1) % 2 = 1)) else -1
/-- two look alike -/
def lk (r : zrow) (t : Int32) (i j : Nat) : Bool := (fst 33 (fun k => !decide (oc r t i k = oc r t j k))).isNone
theorem lk_iff {r : zrow} {t : Int32} {i j : Nat} : lk r t i j = true ↔ ∀ k, k < 33 → oc r t i k = oc r t j k := by
  unfold lk
  rw [Option.isNone_iff_eq_none, fst_none]
  simp only [Bool.not_eq_false', decide_eq_true_eq]
theorem lk_refl (r : zrow) (t : Int32) (i : Nat) : lk r t i i = true := lk_iff.mpr fun _ _ => rfl
theorem lk_sym {r : zrow} {t : Int32} {i j : Nat} (h : lk r t i j = true) : lk r t j i = true := lk_iff.mpr fun k hk => (lk_iff.mp h k hk).symm
theorem lk_trans {r : zrow} {t : Int32} {i j l : Nat} (h : lk r t i j = true) (h2 : lk r t j l = true) : lk r t i l = true := lk_iff.mpr fun k hk => (lk_iff.mp h k hk).trans (lk_iff.mp h2 k hk)
theorem lk_comm (r : zrow) (t : Int32) (i j : Nat) : lk r t i j = lk r t j i := by
  rw [Bool.eq_iff_iff]
  exact ⟨lk_sym, lk_sym⟩
/-- as the class tells it -/
theorem lk_class {r : zrow} {t : Int32} (hx : ∀ i, zTo (rc r i t)) {i j : Nat} : lk r t i j = true ↔ rc r i t = rc r j t ∧ stV r i &&& rc r i t = stV r j &&& rc r i t ∧ ∀ p, p < 16 → bt (rc r i t) p = true → rdV r i (rc r i t) p true = rdV r j (rc r j t) p true := by
  rw [lk_iff]
  constructor
  · intro h
    have h0 : rc r i t = rc r j t := h 0 (by omega)
    have hb : ∀ p v, p < 16 → bt (rc r i t) p = true → rdV r i (rc r i t) p v = rdV r j (rc r j t) p v := by
      intro p v hp hb
      obtain ⟨e, he, hv⟩ : ∃ e, e < 2 ∧ decide (e = 1) = v := by
        cases v
        · exact ⟨0, by omega, rfl⟩
        · exact ⟨1, by omega, rfl⟩
      have h1 := h (1 + 2 * p + e) (by omega)
      have e1 : (1 + 2 * p + e - 1) / 2 = p := by omega
      have e2 : decide ((1 + 2 * p + e - 1) % 2 = 1) = v := by
        rw [← hv, Bool.eq_iff_iff, decide_eq_true_eq, decide_eq_true_eq]
        omega
      have hb2 : bt (rc r j t) p = true := by rw [← h0]; exact hb
      simp only [oc, show ¬ 1 + 2 * p + e = 0 by omega, if_false, e1, e2, hb, hb2, if_true] at h1
      exact h1
    refine ⟨h0, ?_, fun p hp hq => hb p true hp hq⟩
    apply b_ext
    intro p _
    rw [b_and, b_and]
    cases hq : bt (rc r i t) p
    · rw [Bool.and_false, Bool.and_false]
    · rw [Bool.and_true, Bool.and_true]
      have hp : p < 16 := by
        rcases Nat.lt_or_ge p 16 with h9 | h9
        · exact h9
        · rw [hx i p h9] at hq
          cases hq
      have h1 := hb p false hp hq
      unfold rdV at h1
      rw [if_neg (by decide), if_neg (by decide)] at h1
      have h2 := congrArg (fun y => bt y p) h1
      simp only [b_and, ← h0, hq, Bool.and_true] at h2
      exact h2
  · rintro ⟨h0, h1, h2⟩ k hk
    unfold oc
    by_cases hk0 : k = 0
    · rw [if_pos hk0, if_pos hk0]
      exact h0
    · rw [if_neg hk0, if_neg hk0, ← h0]
      have hp : (k - 1) / 2 < 16 := by omega
      generalize (k - 1) / 2 = p at hp
      by_cases hb : bt (rc r i t) p = true
      · rw [if_pos hb, if_pos hb]
        by_cases hv : (k - 1) % 2 = 1
        · rw [decide_eq_true hv]
          have h3 := h2 p hp hb
          rw [← h0] at h3
          exact h3
        · rw [decide_eq_false hv]
          unfold rdV
          rw [if_neg (by decide), if_neg (by decide)]
          exact h1
      · rw [if_neg hb, if_neg hb]
