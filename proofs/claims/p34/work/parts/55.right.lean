/-! WHAT THE LAW ASKS BEHIND A CALL. -/
theorem ones_L (x : Int32) : f_L_ones x = some (nI (ct 11 (bt x))) := by
  have h := zlp (fun k i => f_L_ones_4 k x (nI (ct i (bt x))) (nI i)) 11 (some (nI (ct 11 (bt x)))) (fun k i hi => by
    show f_L_ones_4 (k + 1) x (nI (ct i (bt x))) (nI i) = f_L_ones_4 k x (nI (ct (i + 1) (bt x))) (nI (i + 1))
    have e1 : ¬ (11 : Int32) ≤ nI i := nI_ge hi (by decide)
    have e2 : nI (ct i (bt x)) + (if bt x i = true then (1 : Int32) else 0) = nI (ct (i + 1) (bt x)) := by
      show _ = nI (ct i (bt x) + _)
      by_cases h : bt x i = true
      · rw [if_pos h, if_pos h]
        exact nI_1 _
      · rw [if_neg h, if_neg h]
        exact nI_add _ 0
    simp only [f_L_ones_4, e1, if_false, zlt, b_key x (show i < 32 by omega), e2, a1]) (fun k => by
    show f_L_ones_4 (k + 1) x (nI (ct 11 (bt x))) (nI 11) = _
    simp only [f_L_ones_4, show (11 : Int32) ≤ nI 11 from nI_le (Nat.le_refl 11) (by decide), if_true]) 11 0 zFu (by omega) (zfu (by omega))
  unfold f_L_ones
  rw [show f_L_ones_4 zFu x 0 0 = _ from h]
  rfl
theorem ct_11 {x : Int32} (h : ∀ k, bt x k = true → k < 11) : ct 16 (bt x) = ct 11 (bt x) := by
  have e := ct_add 11 5 (bt x)
  have e5 : ct 5 (fun i => bt x (11 + i)) = 0 := by
    rw [ct_cg (q := fun _ => false) (fun i _ => by
      cases hb : bt x (11 + i)
      · rfl
      · have := h _ hb
        omega)]
    rfl
  rw [e5] at e
  exact e
theorem and_no {x y : Int32} (h : ∀ k, bt x k = true → bt y k = true) : x &&& (y ^^^ (-1)) = 0 := by
  apply b_ext
  intro k hk
  rw [b_and, b_xor, b_m1 k hk, b_0]
  cases hb : bt x k
  · rfl
  · rw [h k hb]
    rfl
theorem lg_0 (x : Int64) : lg_cmp x x = 0 := by
  unfold lg_cmp
  rw [if_neg (fun h => by simp at h), if_pos rfl]
theorem ar_ {s : zs} {R : zr} {r r' : zrow} {w a got pl : Int32} (hI : zInv s R) (hR : zRr R r') (hJ : zJr r') (hp : r' 6 = pl) (hF : tFa w a r got r') (hg : ¬ got < 0) : ∃ s', f_L_areRight s w got (r 7) pl = some (true, s') ∧ zInv s' R := by
  obtain ⟨⟨q, hc⟩, -⟩ := id hI
  have hV := hc.V
  have hf := hV.f
  have es : f_X6_suspects s = r' 7 := (q_suspects hI).trans (hR 7 (by decide))
  have eR2 : R 1 2 = nI (cF q) := (hc.R 2 (by decide)).trans hf.1
  have e7 : q 7 = r' 7 := (hc.R 7 (by decide)).symm.trans (hR 7 (by decide))
  have e6 : q 6 = r' 6 := (hc.R 6 (by decide)).symm.trans (hR 6 (by decide))
  have e2 : q 2 = r' 2 := (hc.R 2 (by decide)).symm.trans (hR 2 (by decide))
  obtain ⟨v, t, b1, b2, b3⟩ := q_count hI 2
  obtain rfl : nI (cF q) = v := by
    have : some (R 1 2) = some v := b2
    rw [eR2] at this
    exact Option.some.inj this
  have hsus : ∀ k, bt (r' 7) k = true → k < cF q ∨ k = 10 := by
    rw [← e7]
    exact hV.sus
  have h11 : ∀ k, bt (r' 7) k = true → k < 11 := fun k hk => by
    rcases hsus k hk with h | h <;> omega
  generalize hAL : (((1 : Int32) <<< (nI (cF q) &&& 31)) - 1) ||| 1024 = AL
  have bAL : ∀ k, k < 32 → bt AL k = (decide (k < cF q) || decide (k = 10)) := fun k hk => by
    rw [← hAL, b_or, b_lo _ (by omega) k hk, b_1024 k hk]
  have c1 : r' 7 &&& (AL ^^^ (-1)) = 0 := and_no (fun k hk => by
    have := h11 k hk
    rw [bAL k (by omega)]
    rcases hsus k hk with h | h
    · rw [decide_eq_true h]
      rfl
    · rw [decide_eq_true h, Bool.or_true])
  have tail : (if w = 8 then (
        Option.bind (f_L_ones AL) fun v10 =>
        if got = v10 then (
          if r' 7 = AL then (
            some (true, t)
          ) else (
            some (false, t)
          )
        ) else (
          some (false, t)
        )
      ) else (
        if w = 9 then (
          Option.bind (f_L_ones (r' 7)) fun v14 =>
          if got = v14 then (
            if (r' 7 &&& (r 7 ^^^ (-1))) = 0 then (
              some (true, t)
            ) else (
              some (false, t)
            )
          ) else (
            some (false, t)
          )
        ) else (
          if w = 10 then (
            Option.bind (f_L_ones (r' 7)) fun v18 =>
            if got = v18 then (
              if (r' 7 &&& (r 7 ^^^ (-1))) = 0 then (
                some (true, t)
              ) else (
                some (false, t)
              )
            ) else (
              some (false, t)
            )
          ) else (
            if r' 7 = r 7 then (
              some (true, t)
            ) else (
              some (false, t)
            )
          )
        )
      )) = some (true, t) := by
    obtain ⟨F8, F9, Fk, -⟩ := hF hg
    by_cases g8 : w = 8
    · obtain ⟨-, k7, k2, kv⟩ := F8 g8
      have ec : cF q = cF r := by
        unfold cF
        rw [e2, k2]
      have eA : AL = aS r := by
        rw [← hAL, ec, or_cm]
        rfl
      have e9 : got = nI (ct 11 (bt AL)) := by
        rw [kv, ← k7, ct_11 h11, k7, eA]
      rw [if_pos g8, ones_L, Option.bind_some, if_pos e9, if_pos (k7.trans eA.symm)]
    · have key : w = 9 ∨ w = 10 → got = nI (ct 11 (bt (r' 7))) ∧ (r' 7 &&& (r 7 ^^^ (-1))) = 0 := fun h => by
        obtain ⟨i, -, -, kv, kr⟩ := F9 h
        subst kr
        refine ⟨by rw [kv, ct_11 h11], and_no (fun k hk => ?_)⟩
        rw [rT_7, b_and, Bool.and_eq_true] at hk
        exact hk.1
      rw [if_neg g8]
      by_cases g9 : w = 9
      · obtain ⟨k1, k2⟩ := key (Or.inl g9)
        rw [if_pos g9, ones_L, Option.bind_some, if_pos k1, if_pos k2]
      · rw [if_neg g9]
        by_cases g10 : w = 10
        · obtain ⟨k1, k2⟩ := key (Or.inr g10)
          rw [if_pos g10, ones_L, Option.bind_some, if_pos k1, if_pos k2]
        · rw [if_neg g10, if_pos (Fk g8 g9 g10).2]
  refine ⟨t, ?_, b3⟩
  unfold f_L_areRight
  simp only [zlt]
  rw [es, b1, Option.bind_some]
  show (if (r' 7 &&& (((((1 : Int32) <<< (nI (cF q) &&& 31)) - 1) ||| 1024) ^^^ (-1))) = 0 then _ else _) = _
  rw [hAL, if_pos c1]
  rcases hV.pl with h | ⟨f, hf9, h⟩
  · have ep : pl = -1 := by rw [← hp, ← e6, h]
    have hb : bt (r' 7) 10 = true := hJ.2.2 10 (by decide) (by rw [hp, ep]; rfl)
    have c2 : ¬ ((r' 7 >>> ((10 : Int32) &&& 31)) &&& 1) = 0 := by
      rw [show (10 : Int32) = nI 10 from rfl, b_key _ (by decide), if_pos hb]
      decide
    rw [if_neg (show ¬ (0 : Int32) ≤ pl by rw [ep]; decide), if_neg c2]
    exact tail
  · have ep : pl = nI f := by rw [← hp, ← e6, h]
    have hs : f_X7_slotOf (r' 6) = nI f := by
      rw [hp, ep]
      exact if_neg (m1_ne (by omega))
    have hb : bt (r' 7) f = true := hJ.2.2 f (by omega) hs
    have c2 : ¬ ((r' 7 >>> (pl &&& 31)) &&& 1) = 0 := by
      rw [ep, b_key _ (by omega), if_pos hb]
      decide
    rw [if_pos (show (0 : Int32) ≤ pl by rw [ep]; exact nI_le (a := 0) (by omega) (by omega)), if_neg c2]
    exact tail
/-- undo restores, and the call then tells the same again -/
theorem un_ {s s1 : zs} {R R1 : zr} {r r' : zrow} {n : Nat} {w a b v : Int32} {bv : Int64} {u : zs} (hI : zInv s R) (hV : zVr r) (hR : zRr R r) (hn : n ≤ 4) (e0 : R 0 3 = nI n) (hv : f_L_view s = some (bv, u)) (hI1 : zInv s1 R1) (hT : tTr w a b r v r') (hP : zPu R R1) : ∃ s2 R2, f_L_isUndone s1 w a b v bv = some (true, s2) ∧ zInv s2 R2 ∧ zRr R2 r' := by
  obtain ⟨p1, p2⟩ := hP n hn e0
  have hlt := nPr_lt hn
  obtain ⟨c, t1, b1, b2, b3⟩ := q_count hI1 9
  obtain rfl : nI (nPr n + 1) = c := by
    have : some (R1 0 3) = some c := b2
    rw [p1] at this
    exact Option.some.inj this
  obtain ⟨x, t2, R2, u1, u2, u3⟩ := q_undo b3
  obtain ⟨R3, w1, w2, w3⟩ := r_undoR hlt p1
  have e := Option.some.inj (u2.symm.trans w1)
  obtain rfl : x = nI (nPr n) := congrArg Prod.fst e
  obtain rfl : R2 = R3 := congrArg Prod.snd e
  have hR2 : zRr R2 r := fun k hk => by rw [w3 k hk, p2 k hk]; exact hR k hk
  have em : nI (nPr n) = nI (nPr n + 1) - 1 := (nI_pred _).symm
  obtain ⟨c2, t3, d1, d2, d3⟩ := q_count u3 9
  obtain rfl : nI (nPr n) = c2 := by
    have : some (R2 0 3) = some c2 := d2
    rw [w2] at this
    exact Option.some.inj this
  obtain ⟨bv2, u', t4, v1, v2, -, v4⟩ := vw_ hI d3 hR hR2 hV
  obtain rfl : bv = bv2 := congrArg Prod.fst (Option.some.inj (hv.symm.trans v1))
  obtain ⟨s5, R5, f1, f2, f3, -⟩ := hT t4 R2 v4 hR2
  refine ⟨s5, R5, ?_, f2, f3⟩
  unfold f_L_isUndone
  rw [b1, Option.bind_some]
  show (Option.bind (f_X6_undo t1) fun v2 => _) = _
  rw [u1, Option.bind_some, if_pos em]
  show (Option.bind (f_X6_count t2 9) fun v4 => _) = _
  rw [d1, Option.bind_some, if_pos em]
  show (Option.bind (f_L_view t3) fun v6 => _) = _
  rw [v2, Option.bind_some, if_pos (lg_0 bv)]
  show (Option.bind (f_L_turn t4 w a b) fun v8 => _) = _
  rw [f1, Option.bind_some, if_pos rfl]
