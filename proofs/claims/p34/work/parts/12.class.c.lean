def f_X5_sameOutcome_36 : Nat → zs → Nat → Nat → Int32 → Option ((Unit) ⊕ (Bool))
  | 0, _, _, _, _ => none
  | k + 1, s, u, x1, x2 =>
    if (16 : Int32) ≤ x2 then (
      some (Sum.inl ())
    ) else (
      if f_X6_hasBit (s.1 u 6) x2 = true then (
        Option.bind (f_X5_pinsAtOne s u x2 1) fun v3 =>
        Option.bind (f_X5_pinsAtOne s x1 x2 1) fun v4 =>
        if v3 = v4 then (
          f_X5_sameOutcome_36 k s u x1 (x2 + 1)
        ) else (
          some (Sum.inr false)
        )
      ) else (
        f_X5_sameOutcome_36 k s u x1 (x2 + 1)
      )
    )
set_option maxHeartbeats 4000000 in
set_option maxRecDepth 100000 in
theorem L_X5_sameOutcome_36 {G : zG} {sl : Nat} {P : Option Value → zH → Prop} (R : zr) {u : Nat} (hu : zU u) {x1 : Nat} (hx1 : zU x1) : ∀ (k : Nat) (s : zs) (x2 : Int32) (e : (Unit) ⊕ (Bool)), f_X5_sameOutcome_36 k s u x1 x2 = some e → (∀ x9, e = Sum.inl x9 → AV G M_X5_sameOutcome 1 sl P 76 [none, none, none] [] (zT s R)) → (∀ v9, e = Sum.inr v9 → P (some (.int (zb v9))) (zT s R)) → AV G M_X5_sameOutcome 1 sl P 36 [some (.ref u), some (.ref x1), some (.int x2)] [] (zT s R) := by
  intro k
  induction k with
  | zero =>
    intro s x2 e H
    unfold f_X5_sameOutcome_36 at H
    cases H
  | succ k ih =>
    intro s x2 e H KE KR
    unfold f_X5_sameOutcome_36 at H
    refine aw_iload_n (q := 37) dX5_sameOutcome_36 rfl rfl ?_
    refine aw_bipush (q := 39) (v := 16) dX5_sameOutcome_37 rfl (by decide) ?_
    refine aw_icmp_ge (q := 42) (t := 76) dX5_sameOutcome_39 rfl (by decide) (fun h1 => ?_) (fun h1 => ?_)
    · replace H := zt h1 H
      cases H
      exact aw_fewer (L' := [none, none, none]) trivial (KE _ rfl)
    · replace H := zf h1 H
      refine aw_aload_n (q := 43) dX5_sameOutcome_42 rfl rfl ?_
      refine aw_getr (q := 46) dX5_sameOutcome_43 rfl e_X5_85 (zU_lt (k := 0) hu (by decide)) (o_X5 hu s R) rfl ?_
      refine aw_iload_n (q := 47) dX5_sameOutcome_46 rfl rfl ?_
      refine aw_csN (M' := M_X6_hasBit) (as := [.int (s.1 u 6), .int x2]) (q := 50) dX5_sameOutcome_47 rfl W_X6_hasBit (show (RX5, 78, yX6_hasBit) ∈ zNl by decide) s_X6_hasBit rfl rfl (by decide) (Nat.le_of_ble_eq_true rfl) (c_X6_hasBit (zT s R) (s.1 u 6) x2) (Nat.le_refl _) (Nat.le_refl _) ?_
      rintro r9 h9 ⟨rfl, rfl⟩
      refine aw_ifeqB (q := 53) (t := 70) dX5_sameOutcome_50 rfl (by decide) (fun h2 => ?_) (fun h2 => ?_)
      · replace H := zt h2 H
        refine aw_aload_n (q := 54) dX5_sameOutcome_53 rfl rfl ?_
        refine aw_iload_n (q := 55) dX5_sameOutcome_54 rfl rfl ?_
        refine aw_iconst (q := 56) (v := 1) dX5_sameOutcome_55 rfl (by decide) ?_
        obtain ⟨v3, hv3, H⟩ := zbd H
        refine aw_cv (M' := M_X5_pinsAtOne) (as := [.int x2, .int 1]) (q := 59) dX5_sameOutcome_56 rfl W_X5_pinsAtOne k_X5_91 i_X5_pinsAtOne v_X5_pinsAtOne (zU_lt (k := 0) hu (by decide)) (o_X5 hu s R) rfl rfl rfl (by decide) (Nat.le_of_ble_eq_true rfl) (c_X5_pinsAtOne s R hu x2 1 hv3) (Nat.le_refl _) (Nat.le_refl _) ?_
        rintro r9 h9 ⟨rfl, rfl⟩
        refine aw_aload_n (q := 60) dX5_sameOutcome_59 rfl rfl ?_
        refine aw_iload_n (q := 61) dX5_sameOutcome_60 rfl rfl ?_
        refine aw_iconst (q := 62) (v := 1) dX5_sameOutcome_61 rfl (by decide) ?_
        obtain ⟨v4, hv4, H⟩ := zbd H
        refine aw_cv (M' := M_X5_pinsAtOne) (as := [.int x2, .int 1]) (q := 65) dX5_sameOutcome_62 rfl W_X5_pinsAtOne k_X5_91 i_X5_pinsAtOne v_X5_pinsAtOne (zU_lt (k := 0) hx1 (by decide)) (o_X5 hx1 s R) rfl rfl rfl (by decide) (Nat.le_of_ble_eq_true rfl) (c_X5_pinsAtOne s R hx1 x2 1 hv4) (Nat.le_refl _) (Nat.le_refl _) ?_
        rintro r9 h9 ⟨rfl, rfl⟩
        refine aw_icmp_eq (q := 68) (t := 70) dX5_sameOutcome_65 rfl (by decide) (fun h5 => ?_) (fun h5 => ?_)
        · replace H := zt h5 H
          refine aw_iinc (q := 73) (v := x2 + 1) (L' := [some (.ref u), some (.ref x1), some (.int (x2 + 1))]) dX5_sameOutcome_70 rfl rfl (by first | rfl | decide) (by decide) rfl rfl ?_
          refine aw_goto (q := 36) dX5_sameOutcome_73 (by decide) ?_
          exact aw_fewer (L' := [some (.ref u), some (.ref x1), some (.int (x2 + 1))]) ⟨rfl, ⟨rfl, ⟨rfl, trivial⟩⟩⟩ (ih s (x2 + 1) _ H KE KR)
        · replace H := zf h5 H
          refine aw_iconst (q := 69) (v := 0) dX5_sameOutcome_68 rfl (by decide) ?_
          cases H
          exact aw_ret dX5_sameOutcome_69 rfl rfl rfl rfl (KR _ rfl)
      · replace H := zf h2 H
        refine aw_iinc (q := 73) (v := x2 + 1) (L' := [some (.ref u), some (.ref x1), some (.int (x2 + 1))]) dX5_sameOutcome_70 rfl rfl (by first | rfl | decide) (by decide) rfl rfl ?_
        refine aw_goto (q := 36) dX5_sameOutcome_73 (by decide) ?_
        exact aw_fewer (L' := [some (.ref u), some (.ref x1), some (.int (x2 + 1))]) ⟨rfl, ⟨rfl, ⟨rfl, trivial⟩⟩⟩ (ih s (x2 + 1) _ H KE KR)
def f_X5_sameOutcome (s : zs) (u : Nat) (x1 : Nat) : Option Bool :=
  if (s.1 u 6) = (s.1 x1 6) then (
    if ((s.1 u 4) &&& (s.1 u 6)) = ((s.1 x1 4) &&& (s.1 u 6)) then (
      Option.bind (f_X5_sameOutcome_36 zFu s u x1 0) fun e3 => match e3 with
      | Sum.inr r4 => some r4
      | Sum.inl e3i =>
      some true
    ) else (
      some false
    )
  ) else (
    some false
  )
set_option maxHeartbeats 4000000 in
set_option maxRecDepth 100000 in
theorem c_X5_sameOutcome {G : zG} {sl : Nat} (s : zs) (R : zr) {u : Nat} (hu : zU u) {x1 : Nat} (hx1 : zU x1) {v9 : Bool} (H : f_X5_sameOutcome s u x1 = some v9) : zMv G 1 M_X5_sameOutcome [.ref u, .ref x1] sl (zT s R) (fun r h' => r = some (.int (zb v9)) ∧ h' = (zT s R)) := by
  unfold f_X5_sameOutcome at H
  refine zMv_of (L := [some (.ref u), some (.ref x1), none]) (by decide) rfl (Nat.le_of_ble_eq_true rfl) rfl ?_
  refine aw_aload_n (q := 1) dX5_sameOutcome_0 rfl rfl ?_
  refine aw_getr (q := 4) dX5_sameOutcome_1 rfl e_X5_85 (zU_lt (k := 0) hu (by decide)) (o_X5 hu s R) rfl ?_
  refine aw_aload_n (q := 5) dX5_sameOutcome_4 rfl rfl ?_
  refine aw_getr (q := 8) dX5_sameOutcome_5 rfl e_X5_85 (zU_lt (k := 0) hx1 (by decide)) (o_X5 hx1 s R) rfl ?_
  refine aw_icmp_neP (q := 11) (t := 32) dX5_sameOutcome_8 rfl (by decide) (fun h1 => ?_) (fun h1 => ?_)
  · replace H := zt h1 H
    refine aw_aload_n (q := 12) dX5_sameOutcome_11 rfl rfl ?_
    refine aw_getr (q := 15) dX5_sameOutcome_12 rfl e_X5_41 (zU_lt (k := 0) hu (by decide)) (o_X5 hu s R) rfl ?_
    refine aw_aload_n (q := 16) dX5_sameOutcome_15 rfl rfl ?_
    refine aw_getr (q := 19) dX5_sameOutcome_16 rfl e_X5_85 (zU_lt (k := 0) hu (by decide)) (o_X5 hu s R) rfl ?_
    refine aw_iand (q := 20) dX5_sameOutcome_19 rfl ?_
    refine aw_aload_n (q := 21) dX5_sameOutcome_20 rfl rfl ?_
    refine aw_getr (q := 24) dX5_sameOutcome_21 rfl e_X5_41 (zU_lt (k := 0) hx1 (by decide)) (o_X5 hx1 s R) rfl ?_
    refine aw_aload_n (q := 25) dX5_sameOutcome_24 rfl rfl ?_
    refine aw_getr (q := 28) dX5_sameOutcome_25 rfl e_X5_85 (zU_lt (k := 0) hu (by decide)) (o_X5 hu s R) rfl ?_
    refine aw_iand (q := 29) dX5_sameOutcome_28 rfl ?_
    refine aw_icmp_eq (q := 32) (t := 34) dX5_sameOutcome_29 rfl (by decide) (fun h2 => ?_) (fun h2 => ?_)
    · replace H := zt h2 H
      refine aw_iconst (q := 35) (v := 0) dX5_sameOutcome_34 rfl (by decide) ?_
      refine aw_istore_n (q := 36) (L' := [some (.ref u), some (.ref x1), some (.int 0)]) dX5_sameOutcome_35 rfl (by decide) rfl rfl ?_
      obtain ⟨e3, he3, H⟩ := zbd H
      refine aw_fewer (L' := [some (.ref u), some (.ref x1), some (.int 0)]) ⟨rfl, ⟨rfl, ⟨rfl, trivial⟩⟩⟩ ?_
      refine L_X5_sameOutcome_36 R hu hx1 zFu s 0 e3 he3 (fun e3i h9 => ?_) (fun r4 h9 => ?_)
      · subst h9
        replace H : _ = _ := H
        refine aw_iconst (q := 77) (v := 1) dX5_sameOutcome_76 rfl (by decide) ?_
        cases H
        exact aw_ret dX5_sameOutcome_77 rfl rfl rfl rfl ⟨rfl, rfl⟩
      · subst h9
        cases H
        exact ⟨rfl, rfl⟩
    · replace H := zf h2 H
      refine aw_iconst (q := 33) (v := 0) dX5_sameOutcome_32 rfl (by decide) ?_
      cases H
      exact aw_ret dX5_sameOutcome_33 rfl rfl rfl rfl ⟨rfl, rfl⟩
  · replace H := zf h1 H
    refine aw_iconst (q := 33) (v := 0) dX5_sameOutcome_32 rfl (by decide) ?_
    cases H
    exact aw_ret dX5_sameOutcome_33 rfl rfl rfl rfl ⟨rfl, rfl⟩
def f_X2_probedLike_5 : Nat → zs → Int32 → Int32 → Int32 → Int32 → Option (Int32)
  | 0, _, _, _, _, _ => none
  | k + 1, s, x1, x2, x3, x4 =>
    if (11 : Int32) ≤ x4 then (
      some x3
    ) else (
      if f_X6_hasBit x2 x4 = true then (
        if zin x1 11 = true then
        if zin x4 11 = true then
        Option.bind (f_X5_sameOutcome s (87 + 3 * x1.toNatClampNeg) (87 + 3 * x4.toNatClampNeg)) fun v5 =>
        if v5 = true then (
          zlt (x3 ||| ((1 : Int32) <<< (x4 &&& 31)) : Int32) fun y7 =>
          f_X2_probedLike_5 k s x1 x2 y7 (x4 + 1)
        ) else (
          f_X2_probedLike_5 k s x1 x2 x3 (x4 + 1)
        )
        else none
        else none
      ) else (
        f_X2_probedLike_5 k s x1 x2 x3 (x4 + 1)
      )
    )
set_option maxHeartbeats 4000000 in
set_option maxRecDepth 100000 in
theorem L_X2_probedLike_5 {G : zG} {sl : Nat} {P : Option Value → zH → Prop} (R : zr) (x1 : Int32) (x2 : Int32) : ∀ (k : Nat) (s : zs) (x3 : Int32) (x4 : Int32) (e : Int32), f_X2_probedLike_5 k s x1 x2 x3 x4 = some e → (AV G M_X2_probedLike 2 sl P 53 [none, none, none, some (.int e), none] [] (zT s R)) → AV G M_X2_probedLike 2 sl P 5 [some (.ref 76), some (.int x1), some (.int x2), some (.int x3), some (.int x4)] [] (zT s R) := by
  intro k
  induction k with
  | zero =>
    intro s x3 x4 e H
    unfold f_X2_probedLike_5 at H
    cases H
  | succ k ih =>
    intro s x3 x4 e H KE
    unfold f_X2_probedLike_5 at H
    refine aw_iload (q := 7) dX2_probedLike_5 rfl rfl ?_
    refine aw_bipush (q := 9) (v := 11) dX2_probedLike_7 rfl (by decide) ?_
    refine aw_icmp_ge (q := 12) (t := 53) dX2_probedLike_9 rfl (by decide) (fun h1 => ?_) (fun h1 => ?_)
    · replace H := zt h1 H
      cases H
      exact aw_fewer (L' := [none, none, none, some (.int x3), none]) ⟨rfl, trivial⟩ KE
    · replace H := zf h1 H
      refine aw_iload_n (q := 13) dX2_probedLike_12 rfl rfl ?_
      refine aw_iload (q := 15) dX2_probedLike_13 rfl rfl ?_
      refine aw_csN (M' := M_X6_hasBit) (as := [.int x2, .int x4]) (q := 18) dX2_probedLike_15 rfl W_X6_hasBit (show (RX2, 36, yX6_hasBit) ∈ zNl by decide) s_X6_hasBit rfl rfl (by decide) (Nat.le_of_ble_eq_true rfl) (c_X6_hasBit (zT s R) x2 x4) (Nat.le_refl _) (Nat.le_refl _) ?_
      rintro r9 h9 ⟨rfl, rfl⟩
      refine aw_ifeqB (q := 21) (t := 47) dX2_probedLike_18 rfl (by decide) (fun h2 => ?_) (fun h2 => ?_)
      · replace H := zt h2 H
        refine aw_aload_n (q := 22) dX2_probedLike_21 rfl rfl ?_
        refine aw_getr (q := 25) dX2_probedLike_22 rfl e_X2_11 (by decide) (o_X2 s R) rfl ?_
        refine aw_iload_n (q := 26) dX2_probedLike_25 rfl rfl ?_
        obtain ⟨h3, H⟩ := zio H
        refine aw_aald (q := 27) (b := 87 + 3 * x1.toNatClampNeg) dX2_probedLike_26 rfl (by decide) (Or.inr (Or.inl rfl)) (o_X2a1 s R) (zin_in h3) rfl ?_
        refine aw_aload_n (q := 28) dX2_probedLike_27 rfl rfl ?_
        refine aw_getr (q := 31) dX2_probedLike_28 rfl e_X2_11 (by decide) (o_X2 s R) rfl ?_
        refine aw_iload (q := 33) dX2_probedLike_31 rfl rfl ?_
        obtain ⟨h4, H⟩ := zio H
        refine aw_aald (q := 34) (b := 87 + 3 * x4.toNatClampNeg) dX2_probedLike_33 rfl (by decide) (Or.inr (Or.inl rfl)) (o_X2a1 s R) (zin_in h4) rfl ?_
        obtain ⟨v5, hv5, H⟩ := zbd H
        refine aw_cv (M' := M_X5_sameOutcome) (as := [.ref (87 + 3 * x4.toNatClampNeg)]) (q := 37) dX2_probedLike_34 rfl W_X5_sameOutcome k_X2_44 i_X5_sameOutcome v_X5_sameOutcome (zU_lt (k := 0) (zU_of h3) (by decide)) (o_X5 (zU_of h3) s R) rfl rfl rfl (by decide) (Nat.le_of_ble_eq_true rfl) (c_X5_sameOutcome s R (zU_of h3) (zU_of h4) hv5) (Nat.le_refl _) (Nat.le_refl _) ?_
        rintro r9 h9 ⟨rfl, rfl⟩
        refine aw_ifeqB (q := 40) (t := 47) dX2_probedLike_37 rfl (by decide) (fun h6 => ?_) (fun h6 => ?_)
        · replace H := zt h6 H
          refine aw_iload_n (q := 41) dX2_probedLike_40 rfl rfl ?_
          refine aw_iconst (q := 42) (v := 1) dX2_probedLike_41 rfl (by decide) ?_
          refine aw_iload (q := 44) dX2_probedLike_42 rfl rfl ?_
          refine aw_ishl (q := 45) dX2_probedLike_44 rfl ?_
          refine aw_ior (q := 46) dX2_probedLike_45 rfl ?_
          obtain ⟨y7, q8, H⟩ := zltd H
          refine aw_nm q8 ?_
          refine aw_istore_n (q := 47) (L' := [some (.ref 76), some (.int x1), some (.int x2), some (.int y7), some (.int x4)]) dX2_probedLike_46 rfl (by decide) rfl rfl ?_
          refine aw_iinc (q := 50) (v := x4 + 1) (L' := [some (.ref 76), some (.int x1), some (.int x2), some (.int y7), some (.int (x4 + 1))]) dX2_probedLike_47 rfl rfl (by first | rfl | decide) (by decide) rfl rfl ?_
          refine aw_goto (q := 5) dX2_probedLike_50 (by decide) ?_
          exact aw_fewer (L' := [some (.ref 76), some (.int x1), some (.int x2), some (.int y7), some (.int (x4 + 1))]) ⟨rfl, ⟨rfl, ⟨rfl, ⟨rfl, ⟨rfl, trivial⟩⟩⟩⟩⟩ (ih s y7 (x4 + 1) _ H KE)
        · replace H := zf h6 H
          refine aw_iinc (q := 50) (v := x4 + 1) (L' := [some (.ref 76), some (.int x1), some (.int x2), some (.int x3), some (.int (x4 + 1))]) dX2_probedLike_47 rfl rfl (by first | rfl | decide) (by decide) rfl rfl ?_
          refine aw_goto (q := 5) dX2_probedLike_50 (by decide) ?_
          exact aw_fewer (L' := [some (.ref 76), some (.int x1), some (.int x2), some (.int x3), some (.int (x4 + 1))]) ⟨rfl, ⟨rfl, ⟨rfl, ⟨rfl, ⟨rfl, trivial⟩⟩⟩⟩⟩ (ih s x3 (x4 + 1) _ H KE)
      · replace H := zf h2 H
        refine aw_iinc (q := 50) (v := x4 + 1) (L' := [some (.ref 76), some (.int x1), some (.int x2), some (.int x3), some (.int (x4 + 1))]) dX2_probedLike_47 rfl rfl (by first | rfl | decide) (by decide) rfl rfl ?_
        refine aw_goto (q := 5) dX2_probedLike_50 (by decide) ?_
        exact aw_fewer (L' := [some (.ref 76), some (.int x1), some (.int x2), some (.int x3), some (.int (x4 + 1))]) ⟨rfl, ⟨rfl, ⟨rfl, ⟨rfl, ⟨rfl, trivial⟩⟩⟩⟩⟩ (ih s x3 (x4 + 1) _ H KE)
def f_X2_probedLike (s : zs) (x1 : Int32) (x2 : Int32) : Option Int32 :=
  Option.bind (f_X2_probedLike_5 zFu s x1 x2 0 0) fun e1 =>
  some e1
set_option maxHeartbeats 4000000 in
set_option maxRecDepth 100000 in
theorem c_X2_probedLike {G : zG} {sl : Nat} (s : zs) (R : zr) (x1 : Int32) (x2 : Int32) {v9 : Int32} (H : f_X2_probedLike s x1 x2 = some v9) : zMv G 2 M_X2_probedLike [.ref 76, .int x1, .int x2] sl (zT s R) (fun r h' => r = some (.int v9) ∧ h' = (zT s R)) := by
  unfold f_X2_probedLike at H
  refine zMv_of (L := [some (.ref 76), some (.int x1), some (.int x2), none, none]) (by decide) rfl (Nat.le_of_ble_eq_true rfl) rfl ?_
  refine aw_iconst (q := 1) (v := 0) dX2_probedLike_0 rfl (by decide) ?_
  refine aw_istore_n (q := 2) (L' := [some (.ref 76), some (.int x1), some (.int x2), some (.int 0), none]) dX2_probedLike_1 rfl (by decide) rfl rfl ?_
  refine aw_iconst (q := 3) (v := 0) dX2_probedLike_2 rfl (by decide) ?_
  refine aw_istore (q := 5) (L' := [some (.ref 76), some (.int x1), some (.int x2), some (.int 0), some (.int 0)]) dX2_probedLike_3 rfl (by decide) rfl rfl ?_
  obtain ⟨e1, he1, H⟩ := zbd H
  refine aw_fewer (L' := [some (.ref 76), some (.int x1), some (.int x2), some (.int 0), some (.int 0)]) ⟨rfl, ⟨rfl, ⟨rfl, ⟨rfl, ⟨rfl, trivial⟩⟩⟩⟩⟩ ?_
  refine L_X2_probedLike_5 R x1 x2 zFu s 0 0 e1 he1 ?_
  refine aw_iload_n (q := 54) dX2_probedLike_53 rfl rfl ?_
  cases H
  exact aw_ret dX2_probedLike_54 rfl rfl rfl rfl ⟨rfl, rfl⟩
def f_X2_leftBy (s : zs) (x1 : Int32) (x2 : Int32) (x3 : Int32) : Option (Int32 × zs) :=
  Option.bind (f_X2_supposeAll s (x3 ||| ((1 : Int32) <<< (x2 &&& 31)))) fun v1 =>
  Option.bind (f_X2_probeAll v1 (x3 ||| ((1 : Int32) <<< (x2 &&& 31))) x1) fun v2 =>
  Option.bind (f_X2_probedLike v2 x2 x3) fun v3 =>
  some (v3, v2)
set_option maxHeartbeats 4000000 in
set_option maxRecDepth 100000 in
theorem c_X2_leftBy {G : zG} {sl : Nat} (s : zs) (R : zr) (x1 : Int32) (x2 : Int32) (x3 : Int32) {v9 : (Int32 × zs)} (H : f_X2_leftBy s x1 x2 x3 = some v9) : zMv G 5 M_X2_leftBy [.ref 76, .int x1, .int x2, .int x3] sl (zT s R) (fun r h' => r = some (.int v9.1) ∧ h' = zT v9.2 R) := by
  unfold f_X2_leftBy at H
  refine zMv_of (L := [some (.ref 76), some (.int x1), some (.int x2), some (.int x3)]) (by decide) rfl (Nat.le_of_ble_eq_true rfl) rfl ?_
  refine aw_aload_n (q := 1) dX2_leftBy_0 rfl rfl ?_
  refine aw_iload_n (q := 2) dX2_leftBy_1 rfl rfl ?_
  refine aw_iconst (q := 3) (v := 1) dX2_leftBy_2 rfl (by decide) ?_
  refine aw_iload_n (q := 4) dX2_leftBy_3 rfl rfl ?_
  refine aw_ishl (q := 5) dX2_leftBy_4 rfl ?_
  refine aw_ior (q := 6) dX2_leftBy_5 rfl ?_
  obtain ⟨v1, hv1, H⟩ := zbd H
  refine aw_cv (M' := M_X2_supposeAll) (as := [.int (x3 ||| ((1 : Int32) <<< (x2 &&& 31)))]) (q := 9) dX2_leftBy_6 rfl W_X2_supposeAll k_X2_48 i_X2_supposeAll v_X2_supposeAll (by decide) (o_X2 s R) rfl rfl rfl (by decide) (Nat.le_of_ble_eq_true rfl) (c_X2_supposeAll s R (x3 ||| ((1 : Int32) <<< (x2 &&& 31))) hv1) (Nat.le_refl _) (Nat.le_refl _) ?_
  rintro r9 h9 ⟨rfl, rfl⟩
  refine aw_aload_n (q := 10) dX2_leftBy_9 rfl rfl ?_
  refine aw_iload_n (q := 11) dX2_leftBy_10 rfl rfl ?_
  refine aw_iconst (q := 12) (v := 1) dX2_leftBy_11 rfl (by decide) ?_
  refine aw_iload_n (q := 13) dX2_leftBy_12 rfl rfl ?_
  refine aw_ishl (q := 14) dX2_leftBy_13 rfl ?_
  refine aw_ior (q := 15) dX2_leftBy_14 rfl ?_
  refine aw_iload_n (q := 16) dX2_leftBy_15 rfl rfl ?_
  obtain ⟨v2, hv2, H⟩ := zbd H
  refine aw_cv (M' := M_X2_probeAll) (as := [.int (x3 ||| ((1 : Int32) <<< (x2 &&& 31))), .int x1]) (q := 19) dX2_leftBy_16 rfl W_X2_probeAll k_X2_51 i_X2_probeAll v_X2_probeAll (by decide) (o_X2 v1 R) rfl rfl rfl (by decide) (Nat.le_of_ble_eq_true rfl) (c_X2_probeAll v1 R (x3 ||| ((1 : Int32) <<< (x2 &&& 31))) x1 hv2) (Nat.le_refl _) (Nat.le_refl _) ?_
  rintro r9 h9 ⟨rfl, rfl⟩
  refine aw_aload_n (q := 20) dX2_leftBy_19 rfl rfl ?_
  refine aw_iload_n (q := 21) dX2_leftBy_20 rfl rfl ?_
  refine aw_iload_n (q := 22) dX2_leftBy_21 rfl rfl ?_
  obtain ⟨v3, hv3, H⟩ := zbd H
  refine aw_cv (M' := M_X2_probedLike) (as := [.int x2, .int x3]) (q := 25) dX2_leftBy_22 rfl W_X2_probedLike k_X2_55 i_X2_probedLike v_X2_probedLike (by decide) (o_X2 v2 R) rfl rfl rfl (by decide) (Nat.le_of_ble_eq_true rfl) (c_X2_probedLike v2 R x2 x3 hv3) (Nat.le_refl _) (Nat.le_refl _) ?_
  rintro r9 h9 ⟨rfl, rfl⟩
  cases H
  exact aw_ret dX2_leftBy_25 rfl rfl rfl rfl ⟨rfl, rfl⟩
def f_X4_weekday (s : zs) (x : Nat) : Int32 :=
  (s.1 x 2) - (s.1 x 2) / 7 * 7
set_option maxHeartbeats 4000000 in
set_option maxRecDepth 100000 in
theorem c_X4_weekday {G : zG} {sl : Nat} (s : zs) (R : zr) {x : Nat} (hx : zX4 x)   : zMv G 0 M_X4_weekday [.ref x] sl (zT s R) (fun r h' => r = some (.int (f_X4_weekday s x)) ∧ h' = (zT s R)) := by
  generalize H : f_X4_weekday s x = r0
  unfold f_X4_weekday at H
  refine zMv_of (L := [some (.ref x)]) (by decide) rfl (Nat.le_of_ble_eq_true rfl) rfl ?_
  refine aw_aload_n (q := 1) dX4_weekday_0 rfl rfl ?_
  refine aw_getr (q := 4) dX4_weekday_1 rfl e_X4_47 (zX4_lt hx) (o_X4 hx s R) rfl ?_
  refine aw_bipush (q := 6) (v := 7) dX4_weekday_4 rfl (by decide) ?_
  refine aw_irem (q := 7) dX4_weekday_6 rfl (by decide) ?_
  subst H
  exact aw_ret dX4_weekday_7 rfl rfl rfl rfl ⟨rfl, rfl⟩
def f_X4_touchedNow (s : zs) (x : Nat) : Option Int32 :=
  Option.bind (f_X0_blessedOn s (sB x) (f_X4_weekday s x)) fun v1 =>
  some (v1 ||| (s.1 x 6))
set_option maxHeartbeats 4000000 in
set_option maxRecDepth 100000 in
theorem c_X4_touchedNow {G : zG} {sl : Nat} (s : zs) (R : zr) {x : Nat} (hx : zX4 x)  {v9 : Int32} (H : f_X4_touchedNow s x = some v9) : zMv G 2 M_X4_touchedNow [.ref x] sl (zT s R) (fun r h' => r = some (.int v9) ∧ h' = (zT s R)) := by
  unfold f_X4_touchedNow at H
  refine zMv_of (L := [some (.ref x)]) (by decide) rfl (Nat.le_of_ble_eq_true rfl) rfl ?_
  refine aw_aload_n (q := 1) dX4_touchedNow_0 rfl rfl ?_
  refine aw_getr (q := 4) dX4_touchedNow_1 rfl e_X4_25 (zX4_lt hx) (o_X4 hx s R) rfl ?_
  refine aw_aload_n (q := 5) dX4_touchedNow_4 rfl rfl ?_
  refine aw_cv (M' := M_X4_weekday) (as := []) (q := 8) dX4_touchedNow_5 rfl W_X4_weekday k_X4_56 i_X4_weekday v_X4_weekday (zX4_lt hx) (o_X4 hx s R) rfl rfl rfl (by decide) (Nat.le_of_ble_eq_true rfl) (c_X4_weekday s R hx) (Nat.le_refl _) (Nat.le_refl _) ?_
  rintro r9 h9 ⟨rfl, rfl⟩
  obtain ⟨v1, hv1, H⟩ := zbd H
  refine aw_cv (M' := M_X0_blessedOn) (as := [.int (f_X4_weekday s x)]) (q := 11) dX4_touchedNow_8 rfl W_X0_blessedOn k_X4_60 i_X0_blessedOn v_X0_blessedOn (zB_lt0 (zX4_B hx)) (o_X0 (zX4_B hx) s R) rfl rfl rfl (by decide) (Nat.le_of_ble_eq_true rfl) (c_X0_blessedOn s R (zX4_B hx) (f_X4_weekday s x) hv1) (Nat.le_refl _) (Nat.le_refl _) ?_
  rintro r9 h9 ⟨rfl, rfl⟩
  refine aw_aload_n (q := 12) dX4_touchedNow_11 rfl rfl ?_
  refine aw_getr (q := 15) dX4_touchedNow_12 rfl e_X4_50 (zX4_lt hx) (o_X4 hx s R) rfl ?_
  refine aw_ior (q := 16) dX4_touchedNow_15 rfl ?_
  cases H
  exact aw_ret dX4_touchedNow_16 rfl rfl rfl rfl ⟨rfl, rfl⟩
def f_X4_filedIn_4 : Nat → zs → Nat → Int32 → Int32 → Int32 → Option (Int32)
  | 0, _, _, _, _, _ => none
  | k + 1, s, x, x1, x2, x3 =>
    if (s.1 (sB x) 11) ≤ x3 then (
      some x2
    ) else (
      if zin x3 10 = true then
      if (s.1 (sD x) x3.toNatClampNeg) = x1 then (
        f_X4_filedIn_4 k s x x1 (x2 + 1) (x3 + 1)
      ) else (
        f_X4_filedIn_4 k s x x1 x2 (x3 + 1)
      )
      else none
    )
set_option maxHeartbeats 4000000 in
set_option maxRecDepth 100000 in
theorem L_X4_filedIn_4 {G : zG} {sl : Nat} {P : Option Value → zH → Prop} (R : zr) {x : Nat} (hx : zX4 x) (x1 : Int32) : ∀ (k : Nat) (s : zs) (x2 : Int32) (x3 : Int32) (e : Int32), f_X4_filedIn_4 k s x x1 x2 x3 = some e → (AV G M_X4_filedIn 0 sl P 34 [none, none, some (.int e), none] [] (zT s R)) → AV G M_X4_filedIn 0 sl P 4 [some (.ref x), some (.int x1), some (.int x2), some (.int x3)] [] (zT s R) := by
  intro k
  induction k with
  | zero =>
    intro s x2 x3 e H
    unfold f_X4_filedIn_4 at H
    cases H
  | succ k ih =>
    intro s x2 x3 e H KE
    unfold f_X4_filedIn_4 at H
    refine aw_iload_n (q := 5) dX4_filedIn_4 rfl rfl ?_
    refine aw_aload_n (q := 6) dX4_filedIn_5 rfl rfl ?_
    refine aw_getr (q := 9) dX4_filedIn_6 rfl e_X4_25 (zX4_lt hx) (o_X4 hx s R) rfl ?_
    refine aw_getr (q := 12) dX4_filedIn_9 rfl e_X4_64 (zB_lt0 (zX4_B hx)) (o_X0 (zX4_B hx) s R) rfl ?_
    refine aw_icmp_ge (q := 15) (t := 34) dX4_filedIn_12 rfl (by decide) (fun h1 => ?_) (fun h1 => ?_)
    · replace H := zt h1 H
      cases H
      exact aw_fewer (L' := [none, none, some (.int x2), none]) ⟨rfl, trivial⟩ KE
    · replace H := zf h1 H
      refine aw_aload_n (q := 16) dX4_filedIn_15 rfl rfl ?_
      refine aw_getr (q := 19) dX4_filedIn_16 rfl e_X4_9 (zX4_lt hx) (o_X4 hx s R) rfl ?_
      refine aw_iload_n (q := 20) dX4_filedIn_19 rfl rfl ?_
      obtain ⟨h2, H⟩ := zio H
      refine aw_iald' (q := 21) (v := s.1 (sD x) x3.toNatClampNeg) dX4_filedIn_20 rfl (zX4_ltD hx) (o_X4a1 hx s R) (zin_in h2) rfl ?_
      refine aw_iload_n (q := 22) dX4_filedIn_21 rfl rfl ?_
      refine aw_icmp_neP (q := 25) (t := 28) dX4_filedIn_22 rfl (by decide) (fun h3 => ?_) (fun h3 => ?_)
      · replace H := zt h3 H
        refine aw_iinc (q := 28) (v := x2 + 1) (L' := [some (.ref x), some (.int x1), some (.int (x2 + 1)), some (.int x3)]) dX4_filedIn_25 rfl rfl (by first | rfl | decide) (by decide) rfl rfl ?_
        refine aw_iinc (q := 31) (v := x3 + 1) (L' := [some (.ref x), some (.int x1), some (.int (x2 + 1)), some (.int (x3 + 1))]) dX4_filedIn_28 rfl rfl (by first | rfl | decide) (by decide) rfl rfl ?_
        refine aw_goto (q := 4) dX4_filedIn_31 (by decide) ?_
        exact aw_fewer (L' := [some (.ref x), some (.int x1), some (.int (x2 + 1)), some (.int (x3 + 1))]) ⟨rfl, ⟨rfl, ⟨rfl, ⟨rfl, trivial⟩⟩⟩⟩ (ih s (x2 + 1) (x3 + 1) _ H KE)
      · replace H := zf h3 H
        refine aw_iinc (q := 31) (v := x3 + 1) (L' := [some (.ref x), some (.int x1), some (.int x2), some (.int (x3 + 1))]) dX4_filedIn_28 rfl rfl (by first | rfl | decide) (by decide) rfl rfl ?_
        refine aw_goto (q := 4) dX4_filedIn_31 (by decide) ?_
        exact aw_fewer (L' := [some (.ref x), some (.int x1), some (.int x2), some (.int (x3 + 1))]) ⟨rfl, ⟨rfl, ⟨rfl, ⟨rfl, trivial⟩⟩⟩⟩ (ih s x2 (x3 + 1) _ H KE)
def f_X4_filedIn (s : zs) (x : Nat) (x1 : Int32) : Option Int32 :=
  Option.bind (f_X4_filedIn_4 zFu s x x1 0 0) fun e1 =>
  some e1
set_option maxHeartbeats 4000000 in
set_option maxRecDepth 100000 in
theorem c_X4_filedIn {G : zG} {sl : Nat} (s : zs) (R : zr) {x : Nat} (hx : zX4 x) (x1 : Int32) {v9 : Int32} (H : f_X4_filedIn s x x1 = some v9) : zMv G 0 M_X4_filedIn [.ref x, .int x1] sl (zT s R) (fun r h' => r = some (.int v9) ∧ h' = (zT s R)) := by
  unfold f_X4_filedIn at H
  refine zMv_of (L := [some (.ref x), some (.int x1), none, none]) (by decide) rfl (Nat.le_of_ble_eq_true rfl) rfl ?_
  refine aw_iconst (q := 1) (v := 0) dX4_filedIn_0 rfl (by decide) ?_
  refine aw_istore_n (q := 2) (L' := [some (.ref x), some (.int x1), some (.int 0), none]) dX4_filedIn_1 rfl (by decide) rfl rfl ?_
  refine aw_iconst (q := 3) (v := 0) dX4_filedIn_2 rfl (by decide) ?_
  refine aw_istore_n (q := 4) (L' := [some (.ref x), some (.int x1), some (.int 0), some (.int 0)]) dX4_filedIn_3 rfl (by decide) rfl rfl ?_
  obtain ⟨e1, he1, H⟩ := zbd H
  refine aw_fewer (L' := [some (.ref x), some (.int x1), some (.int 0), some (.int 0)]) ⟨rfl, ⟨rfl, ⟨rfl, ⟨rfl, trivial⟩⟩⟩⟩ ?_
  refine L_X4_filedIn_4 R hx x1 zFu s 0 0 e1 he1 ?_
  refine aw_iload_n (q := 35) dX4_filedIn_34 rfl rfl ?_
  cases H
  exact aw_ret dX4_filedIn_35 rfl rfl rfl rfl ⟨rfl, rfl⟩
def f_X6_net (s : zs) (x1 : Int32) : Option (Int32 × zs) :=
  zlt (f_X0_refusalOfNet s (sB 74) x1 : Int32) fun y1 =>
  if y1 = 0 then (
    Option.bind (f_X1_keep s 74) fun v4 =>
    Option.bind (f_X0_addNet v4 (sB 74) x1) fun v5 =>
    some (v5.1, v5.2)
  ) else (
    some (y1, s)
  )
set_option maxHeartbeats 4000000 in
set_option maxRecDepth 100000 in
theorem c_X6_net {G : zG} {sl : Nat} (s : zs) (R : zr) (x1 : Int32) {v9 : (Int32 × zs)} (H : f_X6_net s x1 = some v9) : zMv G 5 M_X6_net [.ref 0, .int x1] sl (zT s R) (fun r h' => r = some (.int v9.1) ∧ h' = zT v9.2 R) := by
  unfold f_X6_net at H
  refine zMv_of (L := [some (.ref 0), some (.int x1), none]) (by decide) rfl (Nat.le_of_ble_eq_true rfl) rfl ?_
  refine aw_aload_n (q := 1) dX6_net_0 rfl rfl ?_
  refine aw_getr (q := 4) dX6_net_1 rfl e_X6_31 (by decide) (o_X6 s R) rfl ?_
  refine aw_getr (q := 7) dX6_net_4 rfl e_X6_42 (zX4_lt zX4_74) (o_X4 zX4_74 s R) rfl ?_
  refine aw_iload_n (q := 8) dX6_net_7 rfl rfl ?_
  refine aw_cv (M' := M_X0_refusalOfNet) (as := [.int x1]) (q := 11) dX6_net_8 rfl W_X0_refusalOfNet k_X6_46 i_X0_refusalOfNet v_X0_refusalOfNet (zB_lt0 (zX4_B zX4_74)) (o_X0 (zX4_B zX4_74) s R) rfl rfl rfl (by decide) (Nat.le_of_ble_eq_true rfl) (c_X0_refusalOfNet s R (zX4_B zX4_74) x1) (Nat.le_refl _) (Nat.le_refl _) ?_
  rintro r9 h9 ⟨rfl, rfl⟩
  obtain ⟨y1, q2, H⟩ := zltd H
  refine aw_nm q2 ?_
  refine aw_istore_n (q := 12) (L' := [some (.ref 0), some (.int x1), some (.int y1)]) dX6_net_11 rfl (by decide) rfl rfl ?_
  refine aw_iload_n (q := 13) dX6_net_12 rfl rfl ?_
  refine aw_if_eq (q := 16) (t := 18) dX6_net_13 rfl (by decide) (fun h3 => ?_) (fun h3 => ?_)
  · replace H := zt h3 H
    refine aw_aload_n (q := 19) dX6_net_18 rfl rfl ?_
    refine aw_getr (q := 22) dX6_net_19 rfl e_X6_12 (by decide) (o_X6 s R) rfl ?_
    refine aw_aload_n (q := 23) dX6_net_22 rfl rfl ?_
    refine aw_getr (q := 26) dX6_net_23 rfl e_X6_31 (by decide) (o_X6 s R) rfl ?_
    obtain ⟨v4, hv4, H⟩ := zbd H
    refine aw_cv (M' := M_X1_keep) (as := [.ref 74]) (q := 29) dX6_net_26 rfl W_X1_keep k_X6_50 i_X1_keep v_X1_keep (by decide) (o_X1 s R) rfl rfl rfl (by decide) (Nat.le_of_ble_eq_true rfl) (c_X1_keep s R zX4_74 hv4) (Nat.le_refl _) (Nat.le_refl _) ?_
    rintro r9 h9 ⟨rfl, rfl⟩
    refine aw_aload_n (q := 30) dX6_net_29 rfl rfl ?_
    refine aw_getr (q := 33) dX6_net_30 rfl e_X6_31 (by decide) (o_X6 v4 R) rfl ?_
    refine aw_getr (q := 36) dX6_net_33 rfl e_X6_42 (zX4_lt zX4_74) (o_X4 zX4_74 v4 R) rfl ?_
    refine aw_iload_n (q := 37) dX6_net_36 rfl rfl ?_
    obtain ⟨v5, hv5, H⟩ := zbd H
    refine aw_cv (M' := M_X0_addNet) (as := [.int x1]) (q := 40) dX6_net_37 rfl W_X0_addNet k_X6_54 i_X0_addNet v_X0_addNet (zB_lt0 (zX4_B zX4_74)) (o_X0 (zX4_B zX4_74) v4 R) rfl rfl rfl (by decide) (Nat.le_of_ble_eq_true rfl) (c_X0_addNet v4 R (zX4_B zX4_74) x1 hv5) (Nat.le_refl _) (Nat.le_refl _) ?_
    rintro r9 h9 ⟨rfl, rfl⟩
    cases H
    exact aw_ret dX6_net_40 rfl rfl rfl rfl ⟨rfl, rfl⟩
  · replace H := zf h3 H
    refine aw_iload_n (q := 17) dX6_net_16 rfl rfl ?_
    cases H
    exact aw_ret dX6_net_17 rfl rfl rfl rfl ⟨rfl, rfl⟩
def f_X6_chip (s : zs) (x1 : Int32) (x2 : Int32) (x3 : Int32) : Option (Int32 × zs) :=
  zlt (f_X0_refusalOfChip s (sB 74) x1 x2 x3 : Int32) fun y1 =>
  if y1 = 0 then (
    Option.bind (f_X1_keep s 74) fun v4 =>
    Option.bind (f_X0_addChip v4 (sB 74) x1 x2 x3) fun v5 =>
    some (v5.1, v5.2)
  ) else (
    some (y1, s)
  )
set_option maxHeartbeats 4000000 in
set_option maxRecDepth 100000 in
theorem c_X6_chip {G : zG} {sl : Nat} (s : zs) (R : zr) (x1 : Int32) (x2 : Int32) (x3 : Int32) {v9 : (Int32 × zs)} (H : f_X6_chip s x1 x2 x3 = some v9) : zMv G 5 M_X6_chip [.ref 0, .int x1, .int x2, .int x3] sl (zT s R) (fun r h' => r = some (.int v9.1) ∧ h' = zT v9.2 R) := by
  unfold f_X6_chip at H
  refine zMv_of (L := [some (.ref 0), some (.int x1), some (.int x2), some (.int x3), none]) (by decide) rfl (Nat.le_of_ble_eq_true rfl) rfl ?_
  refine aw_aload_n (q := 1) dX6_chip_0 rfl rfl ?_
  refine aw_getr (q := 4) dX6_chip_1 rfl e_X6_31 (by decide) (o_X6 s R) rfl ?_
  refine aw_getr (q := 7) dX6_chip_4 rfl e_X6_42 (zX4_lt zX4_74) (o_X4 zX4_74 s R) rfl ?_
  refine aw_iload_n (q := 8) dX6_chip_7 rfl rfl ?_
  refine aw_iload_n (q := 9) dX6_chip_8 rfl rfl ?_
  refine aw_iload_n (q := 10) dX6_chip_9 rfl rfl ?_
  refine aw_cv (M' := M_X0_refusalOfChip) (as := [.int x1, .int x2, .int x3]) (q := 13) dX6_chip_10 rfl W_X0_refusalOfChip k_X6_57 i_X0_refusalOfChip v_X0_refusalOfChip (zB_lt0 (zX4_B zX4_74)) (o_X0 (zX4_B zX4_74) s R) rfl rfl rfl (by decide) (Nat.le_of_ble_eq_true rfl) (c_X0_refusalOfChip s R (zX4_B zX4_74) x1 x2 x3) (Nat.le_refl _) (Nat.le_refl _) ?_
  rintro r9 h9 ⟨rfl, rfl⟩
  obtain ⟨y1, q2, H⟩ := zltd H
  refine aw_nm q2 ?_
  refine aw_istore (q := 15) (L' := [some (.ref 0), some (.int x1), some (.int x2), some (.int x3), some (.int y1)]) dX6_chip_13 rfl (by decide) rfl rfl ?_
  refine aw_iload (q := 17) dX6_chip_15 rfl rfl ?_
  refine aw_if_eq (q := 20) (t := 23) dX6_chip_17 rfl (by decide) (fun h3 => ?_) (fun h3 => ?_)
  · replace H := zt h3 H
    refine aw_aload_n (q := 24) dX6_chip_23 rfl rfl ?_
    refine aw_getr (q := 27) dX6_chip_24 rfl e_X6_12 (by decide) (o_X6 s R) rfl ?_
    refine aw_aload_n (q := 28) dX6_chip_27 rfl rfl ?_
    refine aw_getr (q := 31) dX6_chip_28 rfl e_X6_31 (by decide) (o_X6 s R) rfl ?_
    obtain ⟨v4, hv4, H⟩ := zbd H
    refine aw_cv (M' := M_X1_keep) (as := [.ref 74]) (q := 34) dX6_chip_31 rfl W_X1_keep k_X6_50 i_X1_keep v_X1_keep (by decide) (o_X1 s R) rfl rfl rfl (by decide) (Nat.le_of_ble_eq_true rfl) (c_X1_keep s R zX4_74 hv4) (Nat.le_refl _) (Nat.le_refl _) ?_
    rintro r9 h9 ⟨rfl, rfl⟩
    refine aw_aload_n (q := 35) dX6_chip_34 rfl rfl ?_
    refine aw_getr (q := 38) dX6_chip_35 rfl e_X6_31 (by decide) (o_X6 v4 R) rfl ?_
    refine aw_getr (q := 41) dX6_chip_38 rfl e_X6_42 (zX4_lt zX4_74) (o_X4 zX4_74 v4 R) rfl ?_
    refine aw_iload_n (q := 42) dX6_chip_41 rfl rfl ?_
    refine aw_iload_n (q := 43) dX6_chip_42 rfl rfl ?_
    refine aw_iload_n (q := 44) dX6_chip_43 rfl rfl ?_
    obtain ⟨v5, hv5, H⟩ := zbd H
    refine aw_cv (M' := M_X0_addChip) (as := [.int x1, .int x2, .int x3]) (q := 47) dX6_chip_44 rfl W_X0_addChip k_X6_61 i_X0_addChip v_X0_addChip (zB_lt0 (zX4_B zX4_74)) (o_X0 (zX4_B zX4_74) v4 R) rfl rfl rfl (by decide) (Nat.le_of_ble_eq_true rfl) (c_X0_addChip v4 R (zX4_B zX4_74) x1 x2 x3 hv5) (Nat.le_refl _) (Nat.le_refl _) ?_
    rintro r9 h9 ⟨rfl, rfl⟩
    cases H
    exact aw_ret dX6_chip_47 rfl rfl rfl rfl ⟨rfl, rfl⟩
  · replace H := zf h3 H
    refine aw_iload (q := 22) dX6_chip_20 rfl rfl ?_
    cases H
    exact aw_ret dX6_chip_22 rfl rfl rfl rfl ⟨rfl, rfl⟩
def f_X6_fault (s : zs) (x1 : Int32) (x2 : Int32) (x3 : Int32) : Option (Int32 × zs) :=
  Option.bind (f_X0_refusalOfFault s (sB 74) x1 x2 x3) fun v1 =>
  if v1 = 0 then (
    Option.bind (f_X1_keep s 74) fun v3 =>
    Option.bind (f_X0_addFault v3 (sB 74) x1 x2 x3) fun v4 =>
    some (v4.1, v4.2)
  ) else (
    some (v1, s)
  )
set_option maxHeartbeats 4000000 in
set_option maxRecDepth 100000 in
theorem c_X6_fault {G : zG} {sl : Nat} (s : zs) (R : zr) (x1 : Int32) (x2 : Int32) (x3 : Int32) {v9 : (Int32 × zs)} (H : f_X6_fault s x1 x2 x3 = some v9) : zMv G 5 M_X6_fault [.ref 0, .int x1, .int x2, .int x3] sl (zT s R) (fun r h' => r = some (.int v9.1) ∧ h' = zT v9.2 R) := by
  unfold f_X6_fault at H
  refine zMv_of (L := [some (.ref 0), some (.int x1), some (.int x2), some (.int x3), none]) (by decide) rfl (Nat.le_of_ble_eq_true rfl) rfl ?_
  refine aw_aload_n (q := 1) dX6_fault_0 rfl rfl ?_
  refine aw_getr (q := 4) dX6_fault_1 rfl e_X6_31 (by decide) (o_X6 s R) rfl ?_
  refine aw_getr (q := 7) dX6_fault_4 rfl e_X6_42 (zX4_lt zX4_74) (o_X4 zX4_74 s R) rfl ?_
  refine aw_iload_n (q := 8) dX6_fault_7 rfl rfl ?_
  refine aw_iload_n (q := 9) dX6_fault_8 rfl rfl ?_
  refine aw_iload_n (q := 10) dX6_fault_9 rfl rfl ?_
  obtain ⟨v1, hv1, H⟩ := zbd H
  refine aw_cv (M' := M_X0_refusalOfFault) (as := [.int x1, .int x2, .int x3]) (q := 13) dX6_fault_10 rfl W_X0_refusalOfFault k_X6_64 i_X0_refusalOfFault v_X0_refusalOfFault (zB_lt0 (zX4_B zX4_74)) (o_X0 (zX4_B zX4_74) s R) rfl rfl rfl (by decide) (Nat.le_of_ble_eq_true rfl) (c_X0_refusalOfFault s R (zX4_B zX4_74) x1 x2 x3 hv1) (Nat.le_refl _) (Nat.le_refl _) ?_
  rintro r9 h9 ⟨rfl, rfl⟩
  refine aw_istore (q := 15) (L' := [some (.ref 0), some (.int x1), some (.int x2), some (.int x3), some (.int v1)]) dX6_fault_13 rfl (by decide) rfl rfl ?_
  refine aw_iload (q := 17) dX6_fault_15 rfl rfl ?_
  refine aw_if_eq (q := 20) (t := 23) dX6_fault_17 rfl (by decide) (fun h2 => ?_) (fun h2 => ?_)
  · replace H := zt h2 H
    refine aw_aload_n (q := 24) dX6_fault_23 rfl rfl ?_
    refine aw_getr (q := 27) dX6_fault_24 rfl e_X6_12 (by decide) (o_X6 s R) rfl ?_
    refine aw_aload_n (q := 28) dX6_fault_27 rfl rfl ?_
    refine aw_getr (q := 31) dX6_fault_28 rfl e_X6_31 (by decide) (o_X6 s R) rfl ?_
    obtain ⟨v3, hv3, H⟩ := zbd H
    refine aw_cv (M' := M_X1_keep) (as := [.ref 74]) (q := 34) dX6_fault_31 rfl W_X1_keep k_X6_50 i_X1_keep v_X1_keep (by decide) (o_X1 s R) rfl rfl rfl (by decide) (Nat.le_of_ble_eq_true rfl) (c_X1_keep s R zX4_74 hv3) (Nat.le_refl _) (Nat.le_refl _) ?_
    rintro r9 h9 ⟨rfl, rfl⟩
    refine aw_aload_n (q := 35) dX6_fault_34 rfl rfl ?_
    refine aw_getr (q := 38) dX6_fault_35 rfl e_X6_31 (by decide) (o_X6 v3 R) rfl ?_
    refine aw_getr (q := 41) dX6_fault_38 rfl e_X6_42 (zX4_lt zX4_74) (o_X4 zX4_74 v3 R) rfl ?_
    refine aw_iload_n (q := 42) dX6_fault_41 rfl rfl ?_
    refine aw_iload_n (q := 43) dX6_fault_42 rfl rfl ?_
    refine aw_iload_n (q := 44) dX6_fault_43 rfl rfl ?_
    obtain ⟨v4, hv4, H⟩ := zbd H
    refine aw_cv (M' := M_X0_addFault) (as := [.int x1, .int x2, .int x3]) (q := 47) dX6_fault_44 rfl W_X0_addFault k_X6_67 i_X0_addFault v_X0_addFault (zB_lt0 (zX4_B zX4_74)) (o_X0 (zX4_B zX4_74) v3 R) rfl rfl rfl (by decide) (Nat.le_of_ble_eq_true rfl) (c_X0_addFault v3 R (zX4_B zX4_74) x1 x2 x3 hv4) (Nat.le_refl _) (Nat.le_refl _) ?_
    rintro r9 h9 ⟨rfl, rfl⟩
    cases H
    exact aw_ret dX6_fault_47 rfl rfl rfl rfl ⟨rfl, rfl⟩
  · replace H := zf h2 H
    refine aw_iload (q := 22) dX6_fault_20 rfl rfl ?_
    cases H
    exact aw_ret dX6_fault_22 rfl rfl rfl rfl ⟨rfl, rfl⟩
def f_X6_bless (s : zs) (x1 : Int32) (x2 : Int32) : Option (Int32 × zs) :=
  if f_X6_isPin x1 = true then (
    if (x2 &&& (-128)) = 0 then (
      Option.bind (f_X1_keep s 74) fun v3 =>
      Option.bind (f_X0_setBlessing v3 (sB 74) x1 x2) fun v4 =>
      some (v4.1, v4.2)
    ) else (
      some ((-1000001), s)
    )
  ) else (
    some ((-1000001), s)
  )
set_option maxHeartbeats 4000000 in
set_option maxRecDepth 100000 in
theorem c_X6_bless {G : zG} {sl : Nat} (s : zs) (R : zr) (x1 : Int32) (x2 : Int32) {v9 : (Int32 × zs)} (H : f_X6_bless s x1 x2 = some v9) : zMv G 5 M_X6_bless [.ref 0, .int x1, .int x2] sl (zT s R) (fun r h' => r = some (.int v9.1) ∧ h' = zT v9.2 R) := by
  unfold f_X6_bless at H
  refine zMv_of (L := [some (.ref 0), some (.int x1), some (.int x2)]) (by decide) rfl (Nat.le_of_ble_eq_true rfl) rfl ?_
  refine aw_iload_n (q := 1) dX6_bless_0 rfl rfl ?_
  refine aw_cs (M' := M_X6_isPin) (as := [.int x1]) (q := 4) dX6_bless_1 rfl W_X6_isPin k_X6_70 s_X6_isPin rfl rfl (by decide) (Nat.le_of_ble_eq_true rfl) (c_X6_isPin (zT s R) x1) (Nat.le_refl _) (Nat.le_refl _) ?_
  rintro r9 h9 ⟨rfl, rfl⟩
  refine aw_ifeqB (q := 7) (t := 14) dX6_bless_4 rfl (by decide) (fun h1 => ?_) (fun h1 => ?_)
  · replace H := zt h1 H
    refine aw_iload_n (q := 8) dX6_bless_7 rfl rfl ?_
    refine aw_bipush (q := 10) (v := (-128)) dX6_bless_8 rfl (by decide) ?_
    refine aw_iand (q := 11) dX6_bless_10 rfl ?_
    refine aw_if_eq (q := 14) (t := 17) dX6_bless_11 rfl (by decide) (fun h2 => ?_) (fun h2 => ?_)
    · replace H := zt h2 H
      refine aw_aload_n (q := 18) dX6_bless_17 rfl rfl ?_
      refine aw_getr (q := 21) dX6_bless_18 rfl e_X6_12 (by decide) (o_X6 s R) rfl ?_
      refine aw_aload_n (q := 22) dX6_bless_21 rfl rfl ?_
      refine aw_getr (q := 25) dX6_bless_22 rfl e_X6_31 (by decide) (o_X6 s R) rfl ?_
      obtain ⟨v3, hv3, H⟩ := zbd H
      refine aw_cv (M' := M_X1_keep) (as := [.ref 74]) (q := 28) dX6_bless_25 rfl W_X1_keep k_X6_50 i_X1_keep v_X1_keep (by decide) (o_X1 s R) rfl rfl rfl (by decide) (Nat.le_of_ble_eq_true rfl) (c_X1_keep s R zX4_74 hv3) (Nat.le_refl _) (Nat.le_refl _) ?_
      rintro r9 h9 ⟨rfl, rfl⟩
      refine aw_aload_n (q := 29) dX6_bless_28 rfl rfl ?_
      refine aw_getr (q := 32) dX6_bless_29 rfl e_X6_31 (by decide) (o_X6 v3 R) rfl ?_
      refine aw_getr (q := 35) dX6_bless_32 rfl e_X6_42 (zX4_lt zX4_74) (o_X4 zX4_74 v3 R) rfl ?_
      refine aw_iload_n (q := 36) dX6_bless_35 rfl rfl ?_
      refine aw_iload_n (q := 37) dX6_bless_36 rfl rfl ?_
      obtain ⟨v4, hv4, H⟩ := zbd H
      refine aw_cv (M' := M_X0_setBlessing) (as := [.int x1, .int x2]) (q := 40) dX6_bless_37 rfl W_X0_setBlessing k_X6_75 i_X0_setBlessing v_X0_setBlessing (zB_lt0 (zX4_B zX4_74)) (o_X0 (zX4_B zX4_74) v3 R) rfl rfl rfl (by decide) (Nat.le_of_ble_eq_true rfl) (c_X0_setBlessing v3 R (zX4_B zX4_74) x1 x2 hv4) (Nat.le_refl _) (Nat.le_refl _) ?_
      rintro r9 h9 ⟨rfl, rfl⟩
      cases H
      exact aw_ret dX6_bless_40 rfl rfl rfl rfl ⟨rfl, rfl⟩
    · replace H := zf h2 H
      refine aw_ldc (q := 16) dX6_bless_14 rfl q_X6_74 ?_
      cases H
      exact aw_ret dX6_bless_16 rfl rfl rfl rfl ⟨rfl, rfl⟩
  · replace H := zf h1 H
    refine aw_ldc (q := 16) dX6_bless_14 rfl q_X6_74 ?_
    cases H
    exact aw_ret dX6_bless_16 rfl rfl rfl rfl ⟨rfl, rfl⟩
def f_X6_foundOrNot (x0 : Int32) : Int32 :=
  if x0 = (-1) then (
    (-1000004)
  ) else (
    x0
  )
set_option maxHeartbeats 4000000 in
set_option maxRecDepth 100000 in
theorem c_X6_foundOrNot {G : zG} {sl : Nat} (h : zH) (x0 : Int32)  : zMv G 0 M_X6_foundOrNot [.int x0] sl h (fun r h' => r = some (.int (f_X6_foundOrNot x0)) ∧ h' = h) := by
  generalize H : f_X6_foundOrNot x0 = r0
  unfold f_X6_foundOrNot at H
  refine zMv_of (L := [some (.int x0)]) (by decide) rfl (Nat.le_of_ble_eq_true rfl) rfl ?_
  refine aw_iload_n (q := 1) dX6_foundOrNot_0 rfl rfl ?_
  refine aw_iconst (q := 2) (v := (-1)) dX6_foundOrNot_1 rfl (by decide) ?_
  refine aw_icmp_neP (q := 5) (t := 10) dX6_foundOrNot_2 rfl (by decide) (fun h1 => ?_) (fun h1 => ?_)
  · replace H := zt h1 H
    refine aw_ldc (q := 7) dX6_foundOrNot_5 rfl q_X6_115 ?_
    refine aw_goto (q := 11) dX6_foundOrNot_7 (by decide) ?_
    subst H
    exact aw_ret dX6_foundOrNot_11 rfl rfl rfl rfl ⟨rfl, rfl⟩
  · replace H := zf h1 H
    refine aw_iload_n (q := 11) dX6_foundOrNot_10 rfl rfl ?_
    subst H
    exact aw_ret dX6_foundOrNot_11 rfl rfl rfl rfl ⟨rfl, rfl⟩
def f_X6_pinOf (s : zs) (x1 : Int32) (x2 : Int32) : Option Int32 :=
  if f_X6_isPin x1 = true then (
    if x2 = 0 then (
      if zin x1 16 = true then
      some (f_X6_foundOrNot (s.1 (sB 74 + 2) x1.toNatClampNeg))
      else none
    ) else (
      if x2 = 1 then (
        Option.bind (f_X0_chipWith s (sB 74) x1) fun v8 =>
        some (f_X6_foundOrNot v8)
      ) else (
        if x2 = 2 then (
          Option.bind (f_X0_roleOf s (sB 74) x1) fun v9 =>
          some (f_X6_foundOrNot v9)
        ) else (
          if x2 = 3 then (
            if zin x1 16 = true then
            some (s.1 (sB 74 + 9) x1.toNatClampNeg)
            else none
          ) else (
            if x2 = 4 then (
              Option.bind (f_X4_touchedNow s 74) fun v11 =>
              if f_X6_hasBit v11 x1 = true then (
                some 1
              ) else (
                some 0
              )
            ) else (
              some (-1000001)
            )
          )
        )
      )
    )
  ) else (
    some (-1000001)
  )
set_option maxHeartbeats 4000000 in
set_option maxRecDepth 100000 in
theorem c_X6_pinOf {G : zG} {sl : Nat} (s : zs) (R : zr) (x1 : Int32) (x2 : Int32) {v9 : Int32} (H : f_X6_pinOf s x1 x2 = some v9) : zMv G 3 M_X6_pinOf [.ref 0, .int x1, .int x2] sl (zT s R) (fun r h' => r = some (.int v9) ∧ h' = (zT s R)) := by
  unfold f_X6_pinOf at H
  refine zMv_of (L := [some (.ref 0), some (.int x1), some (.int x2), none]) (by decide) rfl (Nat.le_of_ble_eq_true rfl) rfl ?_
  refine aw_iload_n (q := 1) dX6_pinOf_0 rfl rfl ?_
  refine aw_cs (M' := M_X6_isPin) (as := [.int x1]) (q := 4) dX6_pinOf_1 rfl W_X6_isPin k_X6_70 s_X6_isPin rfl rfl (by decide) (Nat.le_of_ble_eq_true rfl) (c_X6_isPin (zT s R) x1) (Nat.le_refl _) (Nat.le_refl _) ?_
  rintro r9 h9 ⟨rfl, rfl⟩
  refine aw_ifneB (q := 7) (t := 10) dX6_pinOf_4 rfl (by decide) (fun h1 => ?_) (fun h1 => ?_)
  · replace H := zt h1 H
    refine aw_aload_n (q := 11) dX6_pinOf_10 rfl rfl ?_
    refine aw_getr (q := 14) dX6_pinOf_11 rfl e_X6_31 (by decide) (o_X6 s R) rfl ?_
    refine aw_getr (q := 17) dX6_pinOf_14 rfl e_X6_42 (zX4_lt zX4_74) (o_X4 zX4_74 s R) rfl ?_
    refine aw_astore_n (q := 18) (L' := [some (.ref 0), some (.int x1), some (.int x2), some (.ref (sB 74))]) dX6_pinOf_17 rfl (by decide) rfl rfl ?_
    refine aw_iload_n (q := 19) dX6_pinOf_18 rfl rfl ?_
    by_cases h2 : x2 = 0
    · replace H := zt h2 H
      refine aw_tabIn (q := 52) (off := 33) dX6_pinOf_19 (by rw [h2]; decide) (by rw [h2]; decide) (by rw [h2]; rfl) (by decide) ?_
      refine aw_aload_n (q := 53) dX6_pinOf_52 rfl rfl ?_
      refine aw_getr (q := 56) dX6_pinOf_53 rfl e_X6_79 (zB_lt0 (zX4_B zX4_74)) (o_X0 (zX4_B zX4_74) s R) rfl ?_
      refine aw_iload_n (q := 57) dX6_pinOf_56 rfl rfl ?_
      obtain ⟨h7, H⟩ := zio H
      refine aw_iald' (q := 58) (v := s.1 (sB 74 + 2) x1.toNatClampNeg) dX6_pinOf_57 rfl (zB_lt (k := 2) (zX4_B zX4_74) (by decide)) (o_X0a1 (zX4_B zX4_74) s R) (zin_in h7) rfl ?_
      refine aw_cs (M' := M_X6_foundOrNot) (as := [.int (s.1 (sB 74 + 2) x1.toNatClampNeg)]) (q := 61) dX6_pinOf_58 rfl W_X6_foundOrNot k_X6_83 s_X6_foundOrNot rfl rfl (by decide) (Nat.le_of_ble_eq_true rfl) (c_X6_foundOrNot (zT s R) (s.1 (sB 74 + 2) x1.toNatClampNeg)) (Nat.le_refl _) (Nat.le_refl _) ?_
      rintro r9 h9 ⟨rfl, rfl⟩
      cases H
      exact aw_ret dX6_pinOf_61 rfl rfl rfl rfl ⟨rfl, rfl⟩
    · replace H := zf h2 H
      by_cases h3 : x2 = 1
      · replace H := zt h3 H
        refine aw_tabIn (q := 62) (off := 43) dX6_pinOf_19 (by rw [h3]; decide) (by rw [h3]; decide) (by rw [h3]; rfl) (by decide) ?_
        refine aw_aload_n (q := 63) dX6_pinOf_62 rfl rfl ?_
        refine aw_iload_n (q := 64) dX6_pinOf_63 rfl rfl ?_
        obtain ⟨v8, hv8, H⟩ := zbd H
        refine aw_cv (M' := M_X0_chipWith) (as := [.int x1]) (q := 67) dX6_pinOf_64 rfl W_X0_chipWith k_X6_86 i_X0_chipWith v_X0_chipWith (zB_lt0 (zX4_B zX4_74)) (o_X0 (zX4_B zX4_74) s R) rfl rfl rfl (by decide) (Nat.le_of_ble_eq_true rfl) (c_X0_chipWith s R (zX4_B zX4_74) x1 hv8) (Nat.le_refl _) (Nat.le_refl _) ?_
        rintro r9 h9 ⟨rfl, rfl⟩
        refine aw_cs (M' := M_X6_foundOrNot) (as := [.int v8]) (q := 70) dX6_pinOf_67 rfl W_X6_foundOrNot k_X6_83 s_X6_foundOrNot rfl rfl (by decide) (Nat.le_of_ble_eq_true rfl) (c_X6_foundOrNot (zT s R) v8) (Nat.le_refl _) (Nat.le_refl _) ?_
        rintro r9 h9 ⟨rfl, rfl⟩
        cases H
        exact aw_ret dX6_pinOf_70 rfl rfl rfl rfl ⟨rfl, rfl⟩
      · replace H := zf h3 H
        by_cases h4 : x2 = 2
        · replace H := zt h4 H
          refine aw_tabIn (q := 71) (off := 52) dX6_pinOf_19 (by rw [h4]; decide) (by rw [h4]; decide) (by rw [h4]; rfl) (by decide) ?_
          refine aw_aload_n (q := 72) dX6_pinOf_71 rfl rfl ?_
          refine aw_iload_n (q := 73) dX6_pinOf_72 rfl rfl ?_
          obtain ⟨v9, hv9, H⟩ := zbd H
          refine aw_cv (M' := M_X0_roleOf) (as := [.int x1]) (q := 76) dX6_pinOf_73 rfl W_X0_roleOf k_X6_89 i_X0_roleOf v_X0_roleOf (zB_lt0 (zX4_B zX4_74)) (o_X0 (zX4_B zX4_74) s R) rfl rfl rfl (by decide) (Nat.le_of_ble_eq_true rfl) (c_X0_roleOf s R (zX4_B zX4_74) x1 hv9) (Nat.le_refl _) (Nat.le_refl _) ?_
          rintro r9 h9 ⟨rfl, rfl⟩
          refine aw_cs (M' := M_X6_foundOrNot) (as := [.int v9]) (q := 79) dX6_pinOf_76 rfl W_X6_foundOrNot k_X6_83 s_X6_foundOrNot rfl rfl (by decide) (Nat.le_of_ble_eq_true rfl) (c_X6_foundOrNot (zT s R) v9) (Nat.le_refl _) (Nat.le_refl _) ?_
          rintro r9 h9 ⟨rfl, rfl⟩
          cases H
          exact aw_ret dX6_pinOf_79 rfl rfl rfl rfl ⟨rfl, rfl⟩
        · replace H := zf h4 H
          by_cases h5 : x2 = 3
          · replace H := zt h5 H
            refine aw_tabIn (q := 80) (off := 61) dX6_pinOf_19 (by rw [h5]; decide) (by rw [h5]; decide) (by rw [h5]; rfl) (by decide) ?_
            refine aw_aload_n (q := 81) dX6_pinOf_80 rfl rfl ?_
            refine aw_getr (q := 84) dX6_pinOf_81 rfl e_X6_92 (zB_lt0 (zX4_B zX4_74)) (o_X0 (zX4_B zX4_74) s R) rfl ?_
            refine aw_iload_n (q := 85) dX6_pinOf_84 rfl rfl ?_
            obtain ⟨h10, H⟩ := zio H
            refine aw_iald' (q := 86) (v := s.1 (sB 74 + 9) x1.toNatClampNeg) dX6_pinOf_85 rfl (zB_lt (k := 9) (zX4_B zX4_74) (by decide)) (o_X0a8 (zX4_B zX4_74) s R) (zin_in h10) rfl ?_
            cases H
            exact aw_ret dX6_pinOf_86 rfl rfl rfl rfl ⟨rfl, rfl⟩
          · replace H := zf h5 H
            by_cases h6 : x2 = 4
            · replace H := zt h6 H
              refine aw_tabIn (q := 87) (off := 68) dX6_pinOf_19 (by rw [h6]; decide) (by rw [h6]; decide) (by rw [h6]; rfl) (by decide) ?_
              refine aw_aload_n (q := 88) dX6_pinOf_87 rfl rfl ?_
              refine aw_getr (q := 91) dX6_pinOf_88 rfl e_X6_31 (by decide) (o_X6 s R) rfl ?_
              obtain ⟨v11, hv11, H⟩ := zbd H
              refine aw_cv (M' := M_X4_touchedNow) (as := []) (q := 94) dX6_pinOf_91 rfl W_X4_touchedNow k_X6_95 i_X4_touchedNow v_X4_touchedNow (zX4_lt zX4_74) (o_X4 zX4_74 s R) rfl rfl rfl (by decide) (Nat.le_of_ble_eq_true rfl) (c_X4_touchedNow s R zX4_74 hv11) (Nat.le_refl _) (Nat.le_refl _) ?_
              rintro r9 h9 ⟨rfl, rfl⟩
              refine aw_iload_n (q := 95) dX6_pinOf_94 rfl rfl ?_
              refine aw_cs (M' := M_X6_hasBit) (as := [.int v11, .int x1]) (q := 98) dX6_pinOf_95 rfl W_X6_hasBit k_X6_99 s_X6_hasBit rfl rfl (by decide) (Nat.le_of_ble_eq_true rfl) (c_X6_hasBit (zT s R) v11 x1) (Nat.le_refl _) (Nat.le_refl _) ?_
              rintro r9 h9 ⟨rfl, rfl⟩
              refine aw_ifeqB (q := 101) (t := 105) dX6_pinOf_98 rfl (by decide) (fun h12 => ?_) (fun h12 => ?_)
              · replace H := zt h12 H
                refine aw_iconst (q := 102) (v := 1) dX6_pinOf_101 rfl (by decide) ?_
                refine aw_goto (q := 106) dX6_pinOf_102 (by decide) ?_
                cases H
                exact aw_ret dX6_pinOf_106 rfl rfl rfl rfl ⟨rfl, rfl⟩
              · replace H := zf h12 H
                refine aw_iconst (q := 106) (v := 0) dX6_pinOf_105 rfl (by decide) ?_
                cases H
                exact aw_ret dX6_pinOf_106 rfl rfl rfl rfl ⟨rfl, rfl⟩
            · replace H := zf h6 H
              refine aw_tabOut (q := 107) dX6_pinOf_19 (by have w0 : ¬ x2.toInt = 0 := zne h2; have w1 : ¬ x2.toInt = 1 := zne h3; have w2 : ¬ x2.toInt = 2 := zne h4; have w3 : ¬ x2.toInt = 3 := zne h5; have w4 : ¬ x2.toInt = 4 := zne h6; omega) (by decide) ?_
              refine aw_ldc (q := 109) dX6_pinOf_107 rfl q_X6_74 ?_
              cases H
              exact aw_ret dX6_pinOf_109 rfl rfl rfl rfl ⟨rfl, rfl⟩
  · replace H := zf h1 H
    refine aw_ldc (q := 9) dX6_pinOf_7 rfl q_X6_74 ?_
    cases H
    exact aw_ret dX6_pinOf_9 rfl rfl rfl rfl ⟨rfl, rfl⟩
def f_X6_faultOf (s : zs) (x1 : Int32) (x2 : Int32) : Option Int32 :=
  if f_X0_isFault s (sB 74) x1 = true then (
    if x2 = 0 then (
      if zin x1 10 = true then
      some (s.1 (sB 74 + 6) x1.toNatClampNeg)
      else none
    ) else (
      if x2 = 1 then (
        if zin x1 10 = true then
        some (s.1 (sB 74 + 7) x1.toNatClampNeg)
        else none
      ) else (
        if x2 = 2 then (
          if zin x1 10 = true then
          if (s.1 (sB 74 + 6) x1.toNatClampNeg) = 1 then (
            some (s.1 (sB 74 + 8) x1.toNatClampNeg)
          ) else (
            some (-1000004)
          )
          else none
        ) else (
          if x2 = 3 then (
            if zin x1 10 = true then
            some (f_X6_foundOrNot (s.1 (sD 74) x1.toNatClampNeg))
            else none
          ) else (
            some (-1000001)
          )
        )
      )
    )
  ) else (
    some (-1000001)
  )
set_option maxHeartbeats 4000000 in
set_option maxRecDepth 100000 in
theorem c_X6_faultOf {G : zG} {sl : Nat} (s : zs) (R : zr) (x1 : Int32) (x2 : Int32) {v9 : Int32} (H : f_X6_faultOf s x1 x2 = some v9) : zMv G 1 M_X6_faultOf [.ref 0, .int x1, .int x2] sl (zT s R) (fun r h' => r = some (.int v9) ∧ h' = (zT s R)) := by
  unfold f_X6_faultOf at H
  refine zMv_of (L := [some (.ref 0), some (.int x1), some (.int x2), none]) (by decide) rfl (Nat.le_of_ble_eq_true rfl) rfl ?_
  refine aw_aload_n (q := 1) dX6_faultOf_0 rfl rfl ?_
  refine aw_getr (q := 4) dX6_faultOf_1 rfl e_X6_31 (by decide) (o_X6 s R) rfl ?_
  refine aw_getr (q := 7) dX6_faultOf_4 rfl e_X6_42 (zX4_lt zX4_74) (o_X4 zX4_74 s R) rfl ?_
  refine aw_astore_n (q := 8) (L' := [some (.ref 0), some (.int x1), some (.int x2), some (.ref (sB 74))]) dX6_faultOf_7 rfl (by decide) rfl rfl ?_
  refine aw_aload_n (q := 9) dX6_faultOf_8 rfl rfl ?_
  refine aw_iload_n (q := 10) dX6_faultOf_9 rfl rfl ?_
  refine aw_cv (M' := M_X0_isFault) (as := [.int x1]) (q := 13) dX6_faultOf_10 rfl W_X0_isFault k_X6_103 i_X0_isFault v_X0_isFault (zB_lt0 (zX4_B zX4_74)) (o_X0 (zX4_B zX4_74) s R) rfl rfl rfl (by decide) (Nat.le_of_ble_eq_true rfl) (c_X0_isFault s R (zX4_B zX4_74) x1) (Nat.le_refl _) (Nat.le_refl _) ?_
  rintro r9 h9 ⟨rfl, rfl⟩
  refine aw_ifneB (q := 16) (t := 19) dX6_faultOf_13 rfl (by decide) (fun h1 => ?_) (fun h1 => ?_)
  · replace H := zt h1 H
    refine aw_iload_n (q := 20) dX6_faultOf_19 rfl rfl ?_
    by_cases h2 : x2 = 0
    · replace H := zt h2 H
      refine aw_tabIn (q := 52) (off := 32) dX6_faultOf_20 (by rw [h2]; decide) (by rw [h2]; decide) (by rw [h2]; rfl) (by decide) ?_
      refine aw_aload_n (q := 53) dX6_faultOf_52 rfl rfl ?_
      refine aw_getr (q := 56) dX6_faultOf_53 rfl e_X6_106 (zB_lt0 (zX4_B zX4_74)) (o_X0 (zX4_B zX4_74) s R) rfl ?_
      refine aw_iload_n (q := 57) dX6_faultOf_56 rfl rfl ?_
      obtain ⟨h6, H⟩ := zio H
      refine aw_iald' (q := 58) (v := s.1 (sB 74 + 6) x1.toNatClampNeg) dX6_faultOf_57 rfl (zB_lt (k := 6) (zX4_B zX4_74) (by decide)) (o_X0a5 (zX4_B zX4_74) s R) (zin_in h6) rfl ?_
      cases H
      exact aw_ret dX6_faultOf_58 rfl rfl rfl rfl ⟨rfl, rfl⟩
    · replace H := zf h2 H
      by_cases h3 : x2 = 1
      · replace H := zt h3 H
        refine aw_tabIn (q := 59) (off := 39) dX6_faultOf_20 (by rw [h3]; decide) (by rw [h3]; decide) (by rw [h3]; rfl) (by decide) ?_
        refine aw_aload_n (q := 60) dX6_faultOf_59 rfl rfl ?_
        refine aw_getr (q := 63) dX6_faultOf_60 rfl e_X6_109 (zB_lt0 (zX4_B zX4_74)) (o_X0 (zX4_B zX4_74) s R) rfl ?_
        refine aw_iload_n (q := 64) dX6_faultOf_63 rfl rfl ?_
        obtain ⟨h7, H⟩ := zio H
        refine aw_iald' (q := 65) (v := s.1 (sB 74 + 7) x1.toNatClampNeg) dX6_faultOf_64 rfl (zB_lt (k := 7) (zX4_B zX4_74) (by decide)) (o_X0a6 (zX4_B zX4_74) s R) (zin_in h7) rfl ?_
        cases H
        exact aw_ret dX6_faultOf_65 rfl rfl rfl rfl ⟨rfl, rfl⟩
      · replace H := zf h3 H
        by_cases h4 : x2 = 2
        · replace H := zt h4 H
          refine aw_tabIn (q := 66) (off := 46) dX6_faultOf_20 (by rw [h4]; decide) (by rw [h4]; decide) (by rw [h4]; rfl) (by decide) ?_
          refine aw_aload_n (q := 67) dX6_faultOf_66 rfl rfl ?_
          refine aw_getr (q := 70) dX6_faultOf_67 rfl e_X6_106 (zB_lt0 (zX4_B zX4_74)) (o_X0 (zX4_B zX4_74) s R) rfl ?_
          refine aw_iload_n (q := 71) dX6_faultOf_70 rfl rfl ?_
          obtain ⟨h8, H⟩ := zio H
          refine aw_iald' (q := 72) (v := s.1 (sB 74 + 6) x1.toNatClampNeg) dX6_faultOf_71 rfl (zB_lt (k := 6) (zX4_B zX4_74) (by decide)) (o_X0a5 (zX4_B zX4_74) s R) (zin_in h8) rfl ?_
          refine aw_iconst (q := 73) (v := 1) dX6_faultOf_72 rfl (by decide) ?_
          refine aw_icmp_neP (q := 76) (t := 85) dX6_faultOf_73 rfl (by decide) (fun h9 => ?_) (fun h9 => ?_)
          · replace H := zt h9 H
            refine aw_aload_n (q := 77) dX6_faultOf_76 rfl rfl ?_
            refine aw_getr (q := 80) dX6_faultOf_77 rfl e_X6_112 (zB_lt0 (zX4_B zX4_74)) (o_X0 (zX4_B zX4_74) s R) rfl ?_
            refine aw_iload_n (q := 81) dX6_faultOf_80 rfl rfl ?_
            refine aw_iald' (q := 82) (v := s.1 (sB 74 + 8) x1.toNatClampNeg) dX6_faultOf_81 rfl (zB_lt (k := 8) (zX4_B zX4_74) (by decide)) (o_X0a7 (zX4_B zX4_74) s R) (zin_in h8) rfl ?_
            refine aw_goto (q := 87) dX6_faultOf_82 (by decide) ?_
            cases H
            exact aw_ret dX6_faultOf_87 rfl rfl rfl rfl ⟨rfl, rfl⟩
          · replace H := zf h9 H
            refine aw_ldc (q := 87) dX6_faultOf_85 rfl q_X6_115 ?_
            cases H
            exact aw_ret dX6_faultOf_87 rfl rfl rfl rfl ⟨rfl, rfl⟩
        · replace H := zf h4 H
          by_cases h5 : x2 = 3
          · replace H := zt h5 H
            refine aw_tabIn (q := 88) (off := 68) dX6_faultOf_20 (by rw [h5]; decide) (by rw [h5]; decide) (by rw [h5]; rfl) (by decide) ?_
            refine aw_aload_n (q := 89) dX6_faultOf_88 rfl rfl ?_
            refine aw_getr (q := 92) dX6_faultOf_89 rfl e_X6_31 (by decide) (o_X6 s R) rfl ?_
            refine aw_getr (q := 95) dX6_faultOf_92 rfl e_X6_116 (zX4_lt zX4_74) (o_X4 zX4_74 s R) rfl ?_
            refine aw_iload_n (q := 96) dX6_faultOf_95 rfl rfl ?_
            obtain ⟨h10, H⟩ := zio H
            refine aw_iald' (q := 97) (v := s.1 (sD 74) x1.toNatClampNeg) dX6_faultOf_96 rfl (zX4_ltD zX4_74) (o_X4a1 zX4_74 s R) (zin_in h10) rfl ?_
            refine aw_cs (M' := M_X6_foundOrNot) (as := [.int (s.1 (sD 74) x1.toNatClampNeg)]) (q := 100) dX6_faultOf_97 rfl W_X6_foundOrNot k_X6_83 s_X6_foundOrNot rfl rfl (by decide) (Nat.le_of_ble_eq_true rfl) (c_X6_foundOrNot (zT s R) (s.1 (sD 74) x1.toNatClampNeg)) (Nat.le_refl _) (Nat.le_refl _) ?_
            rintro r9 h9 ⟨rfl, rfl⟩
            cases H
            exact aw_ret dX6_faultOf_100 rfl rfl rfl rfl ⟨rfl, rfl⟩
          · replace H := zf h5 H
            refine aw_tabOut (q := 101) dX6_faultOf_20 (by have w0 : ¬ x2.toInt = 0 := zne h2; have w1 : ¬ x2.toInt = 1 := zne h3; have w2 : ¬ x2.toInt = 2 := zne h4; have w3 : ¬ x2.toInt = 3 := zne h5; omega) (by decide) ?_
            refine aw_ldc (q := 103) dX6_faultOf_101 rfl q_X6_74 ?_
            cases H
            exact aw_ret dX6_faultOf_103 rfl rfl rfl rfl ⟨rfl, rfl⟩
  · replace H := zf h1 H
    refine aw_ldc (q := 18) dX6_faultOf_16 rfl q_X6_74 ?_
    cases H
    exact aw_ret dX6_faultOf_18 rfl rfl rfl rfl ⟨rfl, rfl⟩
def f_X6_isFaultOrNone (s : zs) (x1 : Int32) : Bool :=
  if x1 = (-1) then (
    true
  ) else (
    if f_X0_isFault s (sB 74) x1 = true then (
      true
    ) else (
      false
    )
  )
set_option maxHeartbeats 4000000 in
set_option maxRecDepth 100000 in
theorem c_X6_isFaultOrNone {G : zG} {sl : Nat} (s : zs) (R : zr) (x1 : Int32)  : zMv G 1 M_X6_isFaultOrNone [.ref 0, .int x1] sl (zT s R) (fun r h' => r = some (.int (zb (f_X6_isFaultOrNone s x1))) ∧ h' = (zT s R)) := by
  generalize H : f_X6_isFaultOrNone s x1 = r0
  unfold f_X6_isFaultOrNone at H
  refine zMv_of (L := [some (.ref 0), some (.int x1)]) (by decide) rfl (Nat.le_of_ble_eq_true rfl) rfl ?_
  refine aw_iload_n (q := 1) dX6_isFaultOrNone_0 rfl rfl ?_
  refine aw_iconst (q := 2) (v := (-1)) dX6_isFaultOrNone_1 rfl (by decide) ?_
  refine aw_icmp_eq (q := 5) (t := 19) dX6_isFaultOrNone_2 rfl (by decide) (fun h1 => ?_) (fun h1 => ?_)
  · replace H := zt h1 H
    refine aw_iconst (q := 20) (v := 1) dX6_isFaultOrNone_19 rfl (by decide) ?_
    refine aw_goto (q := 24) dX6_isFaultOrNone_20 (by decide) ?_
    subst H
    exact aw_ret dX6_isFaultOrNone_24 rfl rfl rfl rfl ⟨rfl, rfl⟩
  · replace H := zf h1 H
    refine aw_aload_n (q := 6) dX6_isFaultOrNone_5 rfl rfl ?_
    refine aw_getr (q := 9) dX6_isFaultOrNone_6 rfl e_X6_31 (by decide) (o_X6 s R) rfl ?_
    refine aw_getr (q := 12) dX6_isFaultOrNone_9 rfl e_X6_42 (zX4_lt zX4_74) (o_X4 zX4_74 s R) rfl ?_
    refine aw_iload_n (q := 13) dX6_isFaultOrNone_12 rfl rfl ?_
    refine aw_cv (M' := M_X0_isFault) (as := [.int x1]) (q := 16) dX6_isFaultOrNone_13 rfl W_X0_isFault k_X6_103 i_X0_isFault v_X0_isFault (zB_lt0 (zX4_B zX4_74)) (o_X0 (zX4_B zX4_74) s R) rfl rfl rfl (by decide) (Nat.le_of_ble_eq_true rfl) (c_X0_isFault s R (zX4_B zX4_74) x1) (Nat.le_refl _) (Nat.le_refl _) ?_
    rintro r9 h9 ⟨rfl, rfl⟩
    refine aw_ifeqB (q := 19) (t := 23) dX6_isFaultOrNone_16 rfl (by decide) (fun h2 => ?_) (fun h2 => ?_)
    · replace H := zt h2 H
      refine aw_iconst (q := 20) (v := 1) dX6_isFaultOrNone_19 rfl (by decide) ?_
      refine aw_goto (q := 24) dX6_isFaultOrNone_20 (by decide) ?_
      subst H
      exact aw_ret dX6_isFaultOrNone_24 rfl rfl rfl rfl ⟨rfl, rfl⟩
    · replace H := zf h2 H
      refine aw_iconst (q := 24) (v := 0) dX6_isFaultOrNone_23 rfl (by decide) ?_
      subst H
      exact aw_ret dX6_isFaultOrNone_24 rfl rfl rfl rfl ⟨rfl, rfl⟩
def f_X6_suspectFor (x0 : Int32) : Int32 :=
  if x0 = (-1) then (
    10
  ) else (
    x0
  )
set_option maxHeartbeats 4000000 in
set_option maxRecDepth 100000 in
theorem c_X6_suspectFor {G : zG} {sl : Nat} (h : zH) (x0 : Int32)  : zMv G 0 M_X6_suspectFor [.int x0] sl h (fun r h' => r = some (.int (f_X6_suspectFor x0)) ∧ h' = h) := by
  generalize H : f_X6_suspectFor x0 = r0
  unfold f_X6_suspectFor at H
  refine zMv_of (L := [some (.int x0)]) (by decide) rfl (Nat.le_of_ble_eq_true rfl) rfl ?_
  refine aw_iload_n (q := 1) dX6_suspectFor_0 rfl rfl ?_
  refine aw_iconst (q := 2) (v := (-1)) dX6_suspectFor_1 rfl (by decide) ?_
  refine aw_icmp_neP (q := 5) (t := 10) dX6_suspectFor_2 rfl (by decide) (fun h1 => ?_) (fun h1 => ?_)
  · replace H := zt h1 H
    refine aw_bipush (q := 7) (v := 10) dX6_suspectFor_5 rfl (by decide) ?_
    refine aw_goto (q := 11) dX6_suspectFor_7 (by decide) ?_
    subst H
    exact aw_ret dX6_suspectFor_11 rfl rfl rfl rfl ⟨rfl, rfl⟩
  · replace H := zf h1 H
    refine aw_iload_n (q := 11) dX6_suspectFor_10 rfl rfl ?_
    subst H
    exact aw_ret dX6_suspectFor_11 rfl rfl rfl rfl ⟨rfl, rfl⟩
def f_X6_plant (s : zs) (x1 : Int32) : Option (Int32 × zs) :=
  if f_X6_isFaultOrNone s x1 = true then (
    Option.bind (f_X1_keep s 74) fun v2 =>
    zlt (zc v2 74 3 (f_X6_suspectFor x1)) fun s3 =>
    zlt (zc s3 74 4 (f_X0_allSuspects s3 (sB 74))) fun s5 =>
    some (f_J6_bitCount_0f7a4 (s5.1 74 4), s5)
  ) else (
    some ((-1000001), s)
  )
set_option maxHeartbeats 4000000 in
set_option maxRecDepth 100000 in
theorem c_X6_plant {G : zG} {sl : Nat} (s : zs) (R : zr) (x1 : Int32) {v9 : (Int32 × zs)} (H : f_X6_plant s x1 = some v9) : zMv G 5 M_X6_plant [.ref 0, .int x1] sl (zT s R) (fun r h' => r = some (.int v9.1) ∧ h' = zT v9.2 R) := by
  unfold f_X6_plant at H
  refine zMv_of (L := [some (.ref 0), some (.int x1)]) (by decide) rfl (Nat.le_of_ble_eq_true rfl) rfl ?_
  refine aw_aload_n (q := 1) dX6_plant_0 rfl rfl ?_
  refine aw_iload_n (q := 2) dX6_plant_1 rfl rfl ?_
  refine aw_cv (M' := M_X6_isFaultOrNone) (as := [.int x1]) (q := 5) dX6_plant_2 rfl W_X6_isFaultOrNone k_X6_122 i_X6_isFaultOrNone v_X6_isFaultOrNone (by decide) (o_X6 s R) rfl rfl rfl (by decide) (Nat.le_of_ble_eq_true rfl) (c_X6_isFaultOrNone s R x1) (Nat.le_refl _) (Nat.le_refl _) ?_
  rintro r9 h9 ⟨rfl, rfl⟩
  refine aw_ifneB (q := 8) (t := 11) dX6_plant_5 rfl (by decide) (fun h1 => ?_) (fun h1 => ?_)
  · replace H := zt h1 H
    refine aw_aload_n (q := 12) dX6_plant_11 rfl rfl ?_
    refine aw_getr (q := 15) dX6_plant_12 rfl e_X6_12 (by decide) (o_X6 s R) rfl ?_
    refine aw_aload_n (q := 16) dX6_plant_15 rfl rfl ?_
    refine aw_getr (q := 19) dX6_plant_16 rfl e_X6_31 (by decide) (o_X6 s R) rfl ?_
    obtain ⟨v2, hv2, H⟩ := zbd H
    refine aw_cv (M' := M_X1_keep) (as := [.ref 74]) (q := 22) dX6_plant_19 rfl W_X1_keep k_X6_50 i_X1_keep v_X1_keep (by decide) (o_X1 s R) rfl rfl rfl (by decide) (Nat.le_of_ble_eq_true rfl) (c_X1_keep s R zX4_74 hv2) (Nat.le_refl _) (Nat.le_refl _) ?_
    rintro r9 h9 ⟨rfl, rfl⟩
    refine aw_aload_n (q := 23) dX6_plant_22 rfl rfl ?_
    refine aw_getr (q := 26) dX6_plant_23 rfl e_X6_31 (by decide) (o_X6 v2 R) rfl ?_
    refine aw_iload_n (q := 27) dX6_plant_26 rfl rfl ?_
    refine aw_cs (M' := M_X6_suspectFor) (as := [.int x1]) (q := 30) dX6_plant_27 rfl W_X6_suspectFor k_X6_125 s_X6_suspectFor rfl rfl (by decide) (Nat.le_of_ble_eq_true rfl) (c_X6_suspectFor (zT v2 R) x1) (Nat.le_refl _) (Nat.le_refl _) ?_
    rintro r9 h9 ⟨rfl, rfl⟩
    obtain ⟨s3, q4, H⟩ := zltd H
    refine aw_put (q := 33) dX6_plant_30 rfl f_X6_191 (zX4_lt zX4_74) (o_X4 zX4_74 v2 R) rfl rfl (Nat.le_of_ble_eq_true rfl) ((p_X4_3 zX4_74).trans (congrArg (fun z => zT z R) q4.symm)) ?_
    refine aw_aload_n (q := 34) dX6_plant_33 rfl rfl ?_
    refine aw_getr (q := 37) dX6_plant_34 rfl e_X6_31 (by decide) (o_X6 s3 R) rfl ?_
    refine aw_aload_n (q := 38) dX6_plant_37 rfl rfl ?_
    refine aw_getr (q := 41) dX6_plant_38 rfl e_X6_31 (by decide) (o_X6 s3 R) rfl ?_
    refine aw_getr (q := 44) dX6_plant_41 rfl e_X6_42 (zX4_lt zX4_74) (o_X4 zX4_74 s3 R) rfl ?_
    refine aw_cv (M' := M_X0_allSuspects) (as := []) (q := 47) dX6_plant_44 rfl W_X0_allSuspects k_X6_194 i_X0_allSuspects v_X0_allSuspects (zB_lt0 (zX4_B zX4_74)) (o_X0 (zX4_B zX4_74) s3 R) rfl rfl rfl (by decide) (Nat.le_of_ble_eq_true rfl) (c_X0_allSuspects s3 R (zX4_B zX4_74)) (Nat.le_refl _) (Nat.le_refl _) ?_
    rintro r9 h9 ⟨rfl, rfl⟩
    obtain ⟨s5, q6, H⟩ := zltd H
    refine aw_put (q := 50) dX6_plant_47 rfl f_X6_197 (zX4_lt zX4_74) (o_X4 zX4_74 s3 R) rfl rfl (Nat.le_of_ble_eq_true rfl) ((p_X4_4 zX4_74).trans (congrArg (fun z => zT z R) q6.symm)) ?_
    refine aw_aload_n (q := 51) dX6_plant_50 rfl rfl ?_
    refine aw_getr (q := 54) dX6_plant_51 rfl e_X6_31 (by decide) (o_X6 s5 R) rfl ?_
    refine aw_getr (q := 57) dX6_plant_54 rfl e_X6_197 (zX4_lt zX4_74) (o_X4 zX4_74 s5 R) rfl ?_
    refine aw_cs (M' := M_J6_bitCount_0f7a4) (as := [.int (s5.1 74 4)]) (q := 60) dX6_plant_57 rfl W_J6_bitCount_0f7a4 k_X6_186 s_J6_bitCount_0f7a4 rfl rfl (by decide) (Nat.le_of_ble_eq_true rfl) (c_J6_bitCount_0f7a4 (zT s5 R) (s5.1 74 4)) (Nat.le_refl _) (Nat.le_refl _) ?_
    rintro r9 h9 ⟨rfl, rfl⟩
    cases H
    exact aw_ret dX6_plant_60 rfl rfl rfl rfl ⟨rfl, rfl⟩
  · replace H := zf h1 H
    refine aw_ldc (q := 10) dX6_plant_8 rfl q_X6_74 ?_
    cases H
    exact aw_ret dX6_plant_10 rfl rfl rfl rfl ⟨rfl, rfl⟩
def f_X6_test (s : zs) : Option (Int32 × zs) :=
  Option.bind (f_X1_keep s 74) fun v1 =>
  zlt (zc v1 74 7 ((v1.1 74 7) + 1)) fun s2 =>
  Option.bind (f_X4_touchedNow s2 74) fun v4 =>
  Option.bind (f_X2_leftBy s2 v4 (s2.1 74 3) (s2.1 74 4)) fun v5 =>
  zlt (zc v5.2 74 4 v5.1) fun s6 =>
  some (f_J6_bitCount_0f7a4 (s6.1 74 4), s6)
set_option maxHeartbeats 4000000 in
set_option maxRecDepth 100000 in
theorem c_X6_test {G : zG} {sl : Nat} (s : zs) (R : zr)  {v9 : (Int32 × zs)} (H : f_X6_test s = some v9) : zMv G 6 M_X6_test [.ref 0] sl (zT s R) (fun r h' => r = some (.int v9.1) ∧ h' = zT v9.2 R) := by
  unfold f_X6_test at H
  refine zMv_of (L := [some (.ref 0)]) (by decide) rfl (Nat.le_of_ble_eq_true rfl) rfl ?_
  refine aw_aload_n (q := 1) dX6_test_0 rfl rfl ?_
  refine aw_getr (q := 4) dX6_test_1 rfl e_X6_12 (by decide) (o_X6 s R) rfl ?_
  refine aw_aload_n (q := 5) dX6_test_4 rfl rfl ?_
  refine aw_getr (q := 8) dX6_test_5 rfl e_X6_31 (by decide) (o_X6 s R) rfl ?_
  obtain ⟨v1, hv1, H⟩ := zbd H
  refine aw_cv (M' := M_X1_keep) (as := [.ref 74]) (q := 11) dX6_test_8 rfl W_X1_keep k_X6_50 i_X1_keep v_X1_keep (by decide) (o_X1 s R) rfl rfl rfl (by decide) (Nat.le_of_ble_eq_true rfl) (c_X1_keep s R zX4_74 hv1) (Nat.le_refl _) (Nat.le_refl _) ?_
  rintro r9 h9 ⟨rfl, rfl⟩
  refine aw_aload_n (q := 12) dX6_test_11 rfl rfl ?_
  refine aw_getr (q := 15) dX6_test_12 rfl e_X6_31 (by decide) (o_X6 v1 R) rfl ?_
  refine aw_dup (q := 16) dX6_test_15 rfl rfl ?_
  refine aw_getr (q := 19) dX6_test_16 rfl e_X6_200 (zX4_lt zX4_74) (o_X4 zX4_74 v1 R) rfl ?_
  refine aw_iconst (q := 20) (v := 1) dX6_test_19 rfl (by decide) ?_
  refine aw_iadd (q := 21) dX6_test_20 rfl ?_
  obtain ⟨s2, q3, H⟩ := zltd H
  refine aw_put (q := 24) dX6_test_21 rfl f_X6_200 (zX4_lt zX4_74) (o_X4 zX4_74 v1 R) rfl rfl (Nat.le_of_ble_eq_true rfl) ((p_X4_7 zX4_74).trans (congrArg (fun z => zT z R) q3.symm)) ?_
  refine aw_aload_n (q := 25) dX6_test_24 rfl rfl ?_
  refine aw_getr (q := 28) dX6_test_25 rfl e_X6_31 (by decide) (o_X6 s2 R) rfl ?_
  refine aw_aload_n (q := 29) dX6_test_28 rfl rfl ?_
  refine aw_getr (q := 32) dX6_test_29 rfl e_X6_38 (by decide) (o_X6 s2 R) rfl ?_
  refine aw_aload_n (q := 33) dX6_test_32 rfl rfl ?_
  refine aw_getr (q := 36) dX6_test_33 rfl e_X6_31 (by decide) (o_X6 s2 R) rfl ?_
  obtain ⟨v4, hv4, H⟩ := zbd H
  refine aw_cv (M' := M_X4_touchedNow) (as := []) (q := 39) dX6_test_36 rfl W_X4_touchedNow k_X6_95 i_X4_touchedNow v_X4_touchedNow (zX4_lt zX4_74) (o_X4 zX4_74 s2 R) rfl rfl rfl (by decide) (Nat.le_of_ble_eq_true rfl) (c_X4_touchedNow s2 R zX4_74 hv4) (Nat.le_refl _) (Nat.le_refl _) ?_
  rintro r9 h9 ⟨rfl, rfl⟩
  refine aw_aload_n (q := 40) dX6_test_39 rfl rfl ?_
  refine aw_getr (q := 43) dX6_test_40 rfl e_X6_31 (by decide) (o_X6 s2 R) rfl ?_
  refine aw_getr (q := 46) dX6_test_43 rfl e_X6_191 (zX4_lt zX4_74) (o_X4 zX4_74 s2 R) rfl ?_
  refine aw_aload_n (q := 47) dX6_test_46 rfl rfl ?_
  refine aw_getr (q := 50) dX6_test_47 rfl e_X6_31 (by decide) (o_X6 s2 R) rfl ?_
  refine aw_getr (q := 53) dX6_test_50 rfl e_X6_197 (zX4_lt zX4_74) (o_X4 zX4_74 s2 R) rfl ?_
  obtain ⟨v5, hv5, H⟩ := zbd H
  refine aw_cv (M' := M_X2_leftBy) (as := [.int v4, .int (s2.1 74 3), .int (s2.1 74 4)]) (q := 56) dX6_test_53 rfl W_X2_leftBy k_X6_203 i_X2_leftBy v_X2_leftBy (by decide) (o_X2 s2 R) rfl rfl rfl (by decide) (Nat.le_of_ble_eq_true rfl) (c_X2_leftBy s2 R v4 (s2.1 74 3) (s2.1 74 4) hv5) (Nat.le_refl _) (Nat.le_refl _) ?_
  rintro r9 h9 ⟨rfl, rfl⟩
  obtain ⟨s6, q7, H⟩ := zltd H
  refine aw_put (q := 59) dX6_test_56 rfl f_X6_197 (zX4_lt zX4_74) (o_X4 zX4_74 v5.2 R) rfl rfl (Nat.le_of_ble_eq_true rfl) ((p_X4_4 zX4_74).trans (congrArg (fun z => zT z R) q7.symm)) ?_
  refine aw_aload_n (q := 60) dX6_test_59 rfl rfl ?_
  refine aw_getr (q := 63) dX6_test_60 rfl e_X6_31 (by decide) (o_X6 s6 R) rfl ?_
  refine aw_getr (q := 66) dX6_test_63 rfl e_X6_197 (zX4_lt zX4_74) (o_X4 zX4_74 s6 R) rfl ?_
  refine aw_cs (M' := M_J6_bitCount_0f7a4) (as := [.int (s6.1 74 4)]) (q := 69) dX6_test_66 rfl W_J6_bitCount_0f7a4 k_X6_186 s_J6_bitCount_0f7a4 rfl rfl (by decide) (Nat.le_of_ble_eq_true rfl) (c_J6_bitCount_0f7a4 (zT s6 R) (s6.1 74 4)) (Nat.le_refl _) (Nat.le_refl _) ?_
  rintro r9 h9 ⟨rfl, rfl⟩
  cases H
  exact aw_ret dX6_test_69 rfl rfl rfl rfl ⟨rfl, rfl⟩
def f_X6_vouch (s : zs) (x1 : Int32) : Option (Int32 × zs) :=
  if f_X6_isPin x1 = true then (
    Option.bind (f_X4_touchedNow s 74) fun v2 =>
    if f_X6_hasBit v2 x1 = true then (
      some ((-1000002), s)
    ) else (
      if (s.1 74 5) = 0 then (
        some ((-1000003), s)
      ) else (
        Option.bind (f_X1_keep s 74) fun v5 =>
        zlt (zc v5 74 6 ((v5.1 74 6) ||| ((1 : Int32) <<< (x1 &&& 31)))) fun s6 =>
        zlt (zc s6 74 5 ((s6.1 74 5) - 1)) fun s8 =>
        some (s8.1 74 5, s8)
      )
    )
  ) else (
    some ((-1000001), s)
  )
set_option maxHeartbeats 4000000 in
set_option maxRecDepth 100000 in
theorem c_X6_vouch {G : zG} {sl : Nat} (s : zs) (R : zr) (x1 : Int32) {v9 : (Int32 × zs)} (H : f_X6_vouch s x1 = some v9) : zMv G 5 M_X6_vouch [.ref 0, .int x1] sl (zT s R) (fun r h' => r = some (.int v9.1) ∧ h' = zT v9.2 R) := by
  unfold f_X6_vouch at H
  refine zMv_of (L := [some (.ref 0), some (.int x1)]) (by decide) rfl (Nat.le_of_ble_eq_true rfl) rfl ?_
  refine aw_iload_n (q := 1) dX6_vouch_0 rfl rfl ?_
  refine aw_cs (M' := M_X6_isPin) (as := [.int x1]) (q := 4) dX6_vouch_1 rfl W_X6_isPin k_X6_70 s_X6_isPin rfl rfl (by decide) (Nat.le_of_ble_eq_true rfl) (c_X6_isPin (zT s R) x1) (Nat.le_refl _) (Nat.le_refl _) ?_
  rintro r9 h9 ⟨rfl, rfl⟩
  refine aw_ifneB (q := 7) (t := 10) dX6_vouch_4 rfl (by decide) (fun h1 => ?_) (fun h1 => ?_)
  · replace H := zt h1 H
    refine aw_aload_n (q := 11) dX6_vouch_10 rfl rfl ?_
    refine aw_getr (q := 14) dX6_vouch_11 rfl e_X6_31 (by decide) (o_X6 s R) rfl ?_
    obtain ⟨v2, hv2, H⟩ := zbd H
    refine aw_cv (M' := M_X4_touchedNow) (as := []) (q := 17) dX6_vouch_14 rfl W_X4_touchedNow k_X6_95 i_X4_touchedNow v_X4_touchedNow (zX4_lt zX4_74) (o_X4 zX4_74 s R) rfl rfl rfl (by decide) (Nat.le_of_ble_eq_true rfl) (c_X4_touchedNow s R zX4_74 hv2) (Nat.le_refl _) (Nat.le_refl _) ?_
    rintro r9 h9 ⟨rfl, rfl⟩
    refine aw_iload_n (q := 18) dX6_vouch_17 rfl rfl ?_
    refine aw_cs (M' := M_X6_hasBit) (as := [.int v2, .int x1]) (q := 21) dX6_vouch_18 rfl W_X6_hasBit k_X6_99 s_X6_hasBit rfl rfl (by decide) (Nat.le_of_ble_eq_true rfl) (c_X6_hasBit (zT s R) v2 x1) (Nat.le_refl _) (Nat.le_refl _) ?_
    rintro r9 h9 ⟨rfl, rfl⟩
    refine aw_ifeqB (q := 24) (t := 27) dX6_vouch_21 rfl (by decide) (fun h3 => ?_) (fun h3 => ?_)
    · replace H := zt h3 H
      refine aw_ldc (q := 26) dX6_vouch_24 rfl q_X6_206 ?_
      cases H
      exact aw_ret dX6_vouch_26 rfl rfl rfl rfl ⟨rfl, rfl⟩
    · replace H := zf h3 H
      refine aw_aload_n (q := 28) dX6_vouch_27 rfl rfl ?_
      refine aw_getr (q := 31) dX6_vouch_28 rfl e_X6_31 (by decide) (o_X6 s R) rfl ?_
      refine aw_getr (q := 34) dX6_vouch_31 rfl e_X6_207 (zX4_lt zX4_74) (o_X4 zX4_74 s R) rfl ?_
      refine aw_if_neP (q := 37) (t := 40) dX6_vouch_34 rfl (by decide) (fun h4 => ?_) (fun h4 => ?_)
      · replace H := zt h4 H
        refine aw_ldc (q := 39) dX6_vouch_37 rfl q_X6_210 ?_
        cases H
        exact aw_ret dX6_vouch_39 rfl rfl rfl rfl ⟨rfl, rfl⟩
      · replace H := zf h4 H
        refine aw_aload_n (q := 41) dX6_vouch_40 rfl rfl ?_
        refine aw_getr (q := 44) dX6_vouch_41 rfl e_X6_12 (by decide) (o_X6 s R) rfl ?_
        refine aw_aload_n (q := 45) dX6_vouch_44 rfl rfl ?_
        refine aw_getr (q := 48) dX6_vouch_45 rfl e_X6_31 (by decide) (o_X6 s R) rfl ?_
        obtain ⟨v5, hv5, H⟩ := zbd H
        refine aw_cv (M' := M_X1_keep) (as := [.ref 74]) (q := 51) dX6_vouch_48 rfl W_X1_keep k_X6_50 i_X1_keep v_X1_keep (by decide) (o_X1 s R) rfl rfl rfl (by decide) (Nat.le_of_ble_eq_true rfl) (c_X1_keep s R zX4_74 hv5) (Nat.le_refl _) (Nat.le_refl _) ?_
        rintro r9 h9 ⟨rfl, rfl⟩
        refine aw_aload_n (q := 52) dX6_vouch_51 rfl rfl ?_
        refine aw_getr (q := 55) dX6_vouch_52 rfl e_X6_31 (by decide) (o_X6 v5 R) rfl ?_
        refine aw_dup (q := 56) dX6_vouch_55 rfl rfl ?_
        refine aw_getr (q := 59) dX6_vouch_56 rfl e_X6_211 (zX4_lt zX4_74) (o_X4 zX4_74 v5 R) rfl ?_
        refine aw_iconst (q := 60) (v := 1) dX6_vouch_59 rfl (by decide) ?_
        refine aw_iload_n (q := 61) dX6_vouch_60 rfl rfl ?_
        refine aw_ishl (q := 62) dX6_vouch_61 rfl ?_
        refine aw_ior (q := 63) dX6_vouch_62 rfl ?_
        obtain ⟨s6, q7, H⟩ := zltd H
        refine aw_put (q := 66) dX6_vouch_63 rfl f_X6_211 (zX4_lt zX4_74) (o_X4 zX4_74 v5 R) rfl rfl (Nat.le_of_ble_eq_true rfl) ((p_X4_6 zX4_74).trans (congrArg (fun z => zT z R) q7.symm)) ?_
        refine aw_aload_n (q := 67) dX6_vouch_66 rfl rfl ?_
        refine aw_getr (q := 70) dX6_vouch_67 rfl e_X6_31 (by decide) (o_X6 s6 R) rfl ?_
        refine aw_dup (q := 71) dX6_vouch_70 rfl rfl ?_
        refine aw_getr (q := 74) dX6_vouch_71 rfl e_X6_207 (zX4_lt zX4_74) (o_X4 zX4_74 s6 R) rfl ?_
        refine aw_iconst (q := 75) (v := 1) dX6_vouch_74 rfl (by decide) ?_
        refine aw_isub (q := 76) dX6_vouch_75 rfl ?_
        obtain ⟨s8, q9, H⟩ := zltd H
        refine aw_put (q := 79) dX6_vouch_76 rfl f_X6_207 (zX4_lt zX4_74) (o_X4 zX4_74 s6 R) rfl rfl (Nat.le_of_ble_eq_true rfl) ((p_X4_5 zX4_74).trans (congrArg (fun z => zT z R) q9.symm)) ?_
        refine aw_aload_n (q := 80) dX6_vouch_79 rfl rfl ?_
        refine aw_getr (q := 83) dX6_vouch_80 rfl e_X6_31 (by decide) (o_X6 s8 R) rfl ?_
        refine aw_getr (q := 86) dX6_vouch_83 rfl e_X6_207 (zX4_lt zX4_74) (o_X4 zX4_74 s8 R) rfl ?_
        cases H
        exact aw_ret dX6_vouch_86 rfl rfl rfl rfl ⟨rfl, rfl⟩
  · replace H := zf h1 H
    refine aw_ldc (q := 9) dX6_vouch_7 rfl q_X6_74 ?_
    cases H
    exact aw_ret dX6_vouch_9 rfl rfl rfl rfl ⟨rfl, rfl⟩
def f_X6_vouchers (s : zs) (x1 : Int32) : Option (Int32 × zs) :=
  if x1 < 0 then (
    some ((-1000001), s)
  ) else (
    if x1 ≤ 20 then (
      Option.bind (f_X1_keep s 74) fun v3 =>
      zlt (v3.1 74 5 : Int32) fun y4 =>
      zlt (zc v3 74 5 x1) fun s6 =>
      some (y4, s6)
    ) else (
      some ((-1000001), s)
    )
  )
set_option maxHeartbeats 4000000 in
set_option maxRecDepth 100000 in
theorem c_X6_vouchers {G : zG} {sl : Nat} (s : zs) (R : zr) (x1 : Int32) {v9 : (Int32 × zs)} (H : f_X6_vouchers s x1 = some v9) : zMv G 5 M_X6_vouchers [.ref 0, .int x1] sl (zT s R) (fun r h' => r = some (.int v9.1) ∧ h' = zT v9.2 R) := by
  unfold f_X6_vouchers at H
  refine zMv_of (L := [some (.ref 0), some (.int x1), none]) (by decide) rfl (Nat.le_of_ble_eq_true rfl) rfl ?_
  refine aw_iload_n (q := 1) dX6_vouchers_0 rfl rfl ?_
  refine aw_if_lt (q := 4) (t := 10) dX6_vouchers_1 rfl (by decide) (fun h1 => ?_) (fun h1 => ?_)
  · replace H := zt h1 H
    refine aw_ldc (q := 12) dX6_vouchers_10 rfl q_X6_74 ?_
    cases H
    exact aw_ret dX6_vouchers_12 rfl rfl rfl rfl ⟨rfl, rfl⟩
  · replace H := zf h1 H
    refine aw_iload_n (q := 5) dX6_vouchers_4 rfl rfl ?_
    refine aw_bipush (q := 7) (v := 20) dX6_vouchers_5 rfl (by decide) ?_
    refine aw_icmp_le (q := 10) (t := 13) dX6_vouchers_7 rfl (by decide) (fun h2 => ?_) (fun h2 => ?_)
    · replace H := zt h2 H
      refine aw_aload_n (q := 14) dX6_vouchers_13 rfl rfl ?_
      refine aw_getr (q := 17) dX6_vouchers_14 rfl e_X6_12 (by decide) (o_X6 s R) rfl ?_
      refine aw_aload_n (q := 18) dX6_vouchers_17 rfl rfl ?_
      refine aw_getr (q := 21) dX6_vouchers_18 rfl e_X6_31 (by decide) (o_X6 s R) rfl ?_
      obtain ⟨v3, hv3, H⟩ := zbd H
      refine aw_cv (M' := M_X1_keep) (as := [.ref 74]) (q := 24) dX6_vouchers_21 rfl W_X1_keep k_X6_50 i_X1_keep v_X1_keep (by decide) (o_X1 s R) rfl rfl rfl (by decide) (Nat.le_of_ble_eq_true rfl) (c_X1_keep s R zX4_74 hv3) (Nat.le_refl _) (Nat.le_refl _) ?_
      rintro r9 h9 ⟨rfl, rfl⟩
      refine aw_aload_n (q := 25) dX6_vouchers_24 rfl rfl ?_
      refine aw_getr (q := 28) dX6_vouchers_25 rfl e_X6_31 (by decide) (o_X6 v3 R) rfl ?_
      refine aw_getr (q := 31) dX6_vouchers_28 rfl e_X6_207 (zX4_lt zX4_74) (o_X4 zX4_74 v3 R) rfl ?_
      obtain ⟨y4, q5, H⟩ := zltd H
      refine aw_nm q5 ?_
      refine aw_istore_n (q := 32) (L' := [some (.ref 0), some (.int x1), some (.int y4)]) dX6_vouchers_31 rfl (by decide) rfl rfl ?_
      refine aw_aload_n (q := 33) dX6_vouchers_32 rfl rfl ?_
      refine aw_getr (q := 36) dX6_vouchers_33 rfl e_X6_31 (by decide) (o_X6 v3 R) rfl ?_
      refine aw_iload_n (q := 37) dX6_vouchers_36 rfl rfl ?_
      obtain ⟨s6, q7, H⟩ := zltd H
      refine aw_put (q := 40) dX6_vouchers_37 rfl f_X6_207 (zX4_lt zX4_74) (o_X4 zX4_74 v3 R) rfl rfl (Nat.le_of_ble_eq_true rfl) ((p_X4_5 zX4_74).trans (congrArg (fun z => zT z R) q7.symm)) ?_
      refine aw_iload_n (q := 41) dX6_vouchers_40 rfl rfl ?_
      cases H
      exact aw_ret dX6_vouchers_41 rfl rfl rfl rfl ⟨rfl, rfl⟩
    · replace H := zf h2 H
      refine aw_ldc (q := 12) dX6_vouchers_10 rfl q_X6_74 ?_
      cases H
      exact aw_ret dX6_vouchers_12 rfl rfl rfl rfl ⟨rfl, rfl⟩
def f_X6_pass (s : zs) (x1 : Int32) : Option (Int32 × zs) :=
  if x1 < 1 then (
    some ((-1000001), s)
  ) else (
    if x1 ≤ 60 then (
      if ((s.1 74 2) + x1) ≤ 10000 then (
        Option.bind (f_X1_keep s 74) fun v4 =>
        zlt (zc v4 74 2 ((v4.1 74 2) + x1)) fun s5 =>
        zlt (zc s5 74 6 0) fun s7 =>
        some (f_X4_weekday s7 74, s7)
      ) else (
        some ((-1000003), s)
      )
    ) else (
      some ((-1000001), s)
    )
  )
set_option maxHeartbeats 4000000 in
set_option maxRecDepth 100000 in
theorem c_X6_pass {G : zG} {sl : Nat} (s : zs) (R : zr) (x1 : Int32) {v9 : (Int32 × zs)} (H : f_X6_pass s x1 = some v9) : zMv G 5 M_X6_pass [.ref 0, .int x1] sl (zT s R) (fun r h' => r = some (.int v9.1) ∧ h' = zT v9.2 R) := by
  unfold f_X6_pass at H
  refine zMv_of (L := [some (.ref 0), some (.int x1)]) (by decide) rfl (Nat.le_of_ble_eq_true rfl) rfl ?_
  refine aw_iload_n (q := 1) dX6_pass_0 rfl rfl ?_
  refine aw_iconst (q := 2) (v := 1) dX6_pass_1 rfl (by decide) ?_
  refine aw_icmp_lt (q := 5) (t := 11) dX6_pass_2 rfl (by decide) (fun h1 => ?_) (fun h1 => ?_)
  · replace H := zt h1 H
    refine aw_ldc (q := 13) dX6_pass_11 rfl q_X6_74 ?_
    cases H
    exact aw_ret dX6_pass_13 rfl rfl rfl rfl ⟨rfl, rfl⟩
  · replace H := zf h1 H
    refine aw_iload_n (q := 6) dX6_pass_5 rfl rfl ?_
    refine aw_bipush (q := 8) (v := 60) dX6_pass_6 rfl (by decide) ?_
    refine aw_icmp_le (q := 11) (t := 14) dX6_pass_8 rfl (by decide) (fun h2 => ?_) (fun h2 => ?_)
    · replace H := zt h2 H
      refine aw_aload_n (q := 15) dX6_pass_14 rfl rfl ?_
      refine aw_getr (q := 18) dX6_pass_15 rfl e_X6_31 (by decide) (o_X6 s R) rfl ?_
      refine aw_getr (q := 21) dX6_pass_18 rfl e_X6_214 (zX4_lt zX4_74) (o_X4 zX4_74 s R) rfl ?_
      refine aw_iload_n (q := 22) dX6_pass_21 rfl rfl ?_
      refine aw_iadd (q := 23) dX6_pass_22 rfl ?_
      refine aw_sipush (q := 26) (v := 10000) dX6_pass_23 rfl (by decide) ?_
      refine aw_icmp_le (q := 29) (t := 32) dX6_pass_26 rfl (by decide) (fun h3 => ?_) (fun h3 => ?_)
      · replace H := zt h3 H
        refine aw_aload_n (q := 33) dX6_pass_32 rfl rfl ?_
        refine aw_getr (q := 36) dX6_pass_33 rfl e_X6_12 (by decide) (o_X6 s R) rfl ?_
        refine aw_aload_n (q := 37) dX6_pass_36 rfl rfl ?_
        refine aw_getr (q := 40) dX6_pass_37 rfl e_X6_31 (by decide) (o_X6 s R) rfl ?_
        obtain ⟨v4, hv4, H⟩ := zbd H
        refine aw_cv (M' := M_X1_keep) (as := [.ref 74]) (q := 43) dX6_pass_40 rfl W_X1_keep k_X6_50 i_X1_keep v_X1_keep (by decide) (o_X1 s R) rfl rfl rfl (by decide) (Nat.le_of_ble_eq_true rfl) (c_X1_keep s R zX4_74 hv4) (Nat.le_refl _) (Nat.le_refl _) ?_
        rintro r9 h9 ⟨rfl, rfl⟩
        refine aw_aload_n (q := 44) dX6_pass_43 rfl rfl ?_
        refine aw_getr (q := 47) dX6_pass_44 rfl e_X6_31 (by decide) (o_X6 v4 R) rfl ?_
        refine aw_dup (q := 48) dX6_pass_47 rfl rfl ?_
        refine aw_getr (q := 51) dX6_pass_48 rfl e_X6_214 (zX4_lt zX4_74) (o_X4 zX4_74 v4 R) rfl ?_
        refine aw_iload_n (q := 52) dX6_pass_51 rfl rfl ?_
        refine aw_iadd (q := 53) dX6_pass_52 rfl ?_
        obtain ⟨s5, q6, H⟩ := zltd H
        refine aw_put (q := 56) dX6_pass_53 rfl f_X6_214 (zX4_lt zX4_74) (o_X4 zX4_74 v4 R) rfl rfl (Nat.le_of_ble_eq_true rfl) ((p_X4_2 zX4_74).trans (congrArg (fun z => zT z R) q6.symm)) ?_
        refine aw_aload_n (q := 57) dX6_pass_56 rfl rfl ?_
        refine aw_getr (q := 60) dX6_pass_57 rfl e_X6_31 (by decide) (o_X6 s5 R) rfl ?_
        refine aw_iconst (q := 61) (v := 0) dX6_pass_60 rfl (by decide) ?_
        obtain ⟨s7, q8, H⟩ := zltd H
        refine aw_put (q := 64) dX6_pass_61 rfl f_X6_211 (zX4_lt zX4_74) (o_X4 zX4_74 s5 R) rfl rfl (Nat.le_of_ble_eq_true rfl) ((p_X4_6 zX4_74).trans (congrArg (fun z => zT z R) q8.symm)) ?_
        refine aw_aload_n (q := 65) dX6_pass_64 rfl rfl ?_
        refine aw_getr (q := 68) dX6_pass_65 rfl e_X6_31 (by decide) (o_X6 s7 R) rfl ?_
        refine aw_cv (M' := M_X4_weekday) (as := []) (q := 71) dX6_pass_68 rfl W_X4_weekday k_X6_217 i_X4_weekday v_X4_weekday (zX4_lt zX4_74) (o_X4 zX4_74 s7 R) rfl rfl rfl (by decide) (Nat.le_of_ble_eq_true rfl) (c_X4_weekday s7 R zX4_74) (Nat.le_refl _) (Nat.le_refl _) ?_
        rintro r9 h9 ⟨rfl, rfl⟩
        cases H
        exact aw_ret dX6_pass_71 rfl rfl rfl rfl ⟨rfl, rfl⟩
      · replace H := zf h3 H
        refine aw_ldc (q := 31) dX6_pass_29 rfl q_X6_210 ?_
        cases H
        exact aw_ret dX6_pass_31 rfl rfl rfl rfl ⟨rfl, rfl⟩
    · replace H := zf h2 H
      refine aw_ldc (q := 13) dX6_pass_11 rfl q_X6_74 ?_
      cases H
      exact aw_ret dX6_pass_13 rfl rfl rfl rfl ⟨rfl, rfl⟩
def f_X6_suspects (s : zs) : Int32 :=
  s.1 74 4
set_option maxHeartbeats 4000000 in
set_option maxRecDepth 100000 in
theorem c_X6_suspects {G : zG} {sl : Nat} (s : zs) (R : zr)   : zMv G 0 M_X6_suspects [.ref 0] sl (zT s R) (fun r h' => r = some (.int (f_X6_suspects s)) ∧ h' = (zT s R)) := by
  generalize H : f_X6_suspects s = r0
  unfold f_X6_suspects at H
  refine zMv_of (L := [some (.ref 0)]) (by decide) rfl (Nat.le_of_ble_eq_true rfl) rfl ?_
  refine aw_aload_n (q := 1) dX6_suspects_0 rfl rfl ?_
  refine aw_getr (q := 4) dX6_suspects_1 rfl e_X6_31 (by decide) (o_X6 s R) rfl ?_
  refine aw_getr (q := 7) dX6_suspects_4 rfl e_X6_197 (zX4_lt zX4_74) (o_X4 zX4_74 s R) rfl ?_
  subst H
  exact aw_ret dX6_suspects_7 rfl rfl rfl rfl ⟨rfl, rfl⟩
def f_X6_file (s : zs) (x1 : Int32) (x2 : Int32) : Option (Int32 × zs) :=
  if f_X0_isFault s (sB 74) x1 = true then (
    if x2 < 0 then (
      some ((-1000001), s)
    ) else (
      if x2 < 5 then (
        if zin x1 10 = true then
        if (s.1 (sD 74) x1.toNatClampNeg) = (-1) then (
          if (s.1 (sB 74 + 6) x1.toNatClampNeg) = x2 then (
            Option.bind (f_X4_filedIn s 74 x2) fun v7 =>
            if v7 < 3 then (
              Option.bind (f_X1_keep s 74) fun v9 =>
              zlt (zc v9 (sD 74) x1.toNatClampNeg x2) fun s10 =>
              Option.bind (f_X4_filedIn s10 74 x2) fun v12 =>
              some (v12, s10)
            ) else (
              some ((-1000003), s)
            )
          ) else (
            some ((-1000002), s)
          )
        ) else (
          some ((-1000002), s)
        )
        else none
      ) else (
        some ((-1000001), s)
      )
    )
  ) else (
    some ((-1000001), s)
  )
set_option maxHeartbeats 4000000 in
set_option maxRecDepth 100000 in
theorem c_X6_file {G : zG} {sl : Nat} (s : zs) (R : zr) (x1 : Int32) (x2 : Int32) {v9 : (Int32 × zs)} (H : f_X6_file s x1 x2 = some v9) : zMv G 5 M_X6_file [.ref 0, .int x1, .int x2] sl (zT s R) (fun r h' => r = some (.int v9.1) ∧ h' = zT v9.2 R) := by
  unfold f_X6_file at H
  refine zMv_of (L := [some (.ref 0), some (.int x1), some (.int x2)]) (by decide) rfl (Nat.le_of_ble_eq_true rfl) rfl ?_
  refine aw_aload_n (q := 1) dX6_file_0 rfl rfl ?_
  refine aw_getr (q := 4) dX6_file_1 rfl e_X6_31 (by decide) (o_X6 s R) rfl ?_
  refine aw_getr (q := 7) dX6_file_4 rfl e_X6_42 (zX4_lt zX4_74) (o_X4 zX4_74 s R) rfl ?_
  refine aw_iload_n (q := 8) dX6_file_7 rfl rfl ?_
  refine aw_cv (M' := M_X0_isFault) (as := [.int x1]) (q := 11) dX6_file_8 rfl W_X0_isFault k_X6_103 i_X0_isFault v_X0_isFault (zB_lt0 (zX4_B zX4_74)) (o_X0 (zX4_B zX4_74) s R) rfl rfl rfl (by decide) (Nat.le_of_ble_eq_true rfl) (c_X0_isFault s R (zX4_B zX4_74) x1) (Nat.le_refl _) (Nat.le_refl _) ?_
  rintro r9 h9 ⟨rfl, rfl⟩
  refine aw_ifeqB (q := 14) (t := 23) dX6_file_11 rfl (by decide) (fun h1 => ?_) (fun h1 => ?_)
  · replace H := zt h1 H
    refine aw_iload_n (q := 15) dX6_file_14 rfl rfl ?_
    refine aw_if_lt (q := 18) (t := 23) dX6_file_15 rfl (by decide) (fun h2 => ?_) (fun h2 => ?_)
    · replace H := zt h2 H
      refine aw_ldc (q := 25) dX6_file_23 rfl q_X6_74 ?_
      cases H
      exact aw_ret dX6_file_25 rfl rfl rfl rfl ⟨rfl, rfl⟩
    · replace H := zf h2 H
      refine aw_iload_n (q := 19) dX6_file_18 rfl rfl ?_
      refine aw_iconst (q := 20) (v := 5) dX6_file_19 rfl (by decide) ?_
      refine aw_icmp_lt (q := 23) (t := 26) dX6_file_20 rfl (by decide) (fun h3 => ?_) (fun h3 => ?_)
      · replace H := zt h3 H
        refine aw_aload_n (q := 27) dX6_file_26 rfl rfl ?_
        refine aw_getr (q := 30) dX6_file_27 rfl e_X6_31 (by decide) (o_X6 s R) rfl ?_
        refine aw_getr (q := 33) dX6_file_30 rfl e_X6_116 (zX4_lt zX4_74) (o_X4 zX4_74 s R) rfl ?_
        refine aw_iload_n (q := 34) dX6_file_33 rfl rfl ?_
        obtain ⟨h4, H⟩ := zio H
        refine aw_iald' (q := 35) (v := s.1 (sD 74) x1.toNatClampNeg) dX6_file_34 rfl (zX4_ltD zX4_74) (o_X4a1 zX4_74 s R) (zin_in h4) rfl ?_
        refine aw_iconst (q := 36) (v := (-1)) dX6_file_35 rfl (by decide) ?_
        refine aw_icmp_neP (q := 39) (t := 55) dX6_file_36 rfl (by decide) (fun h5 => ?_) (fun h5 => ?_)
        · replace H := zt h5 H
          refine aw_aload_n (q := 40) dX6_file_39 rfl rfl ?_
          refine aw_getr (q := 43) dX6_file_40 rfl e_X6_31 (by decide) (o_X6 s R) rfl ?_
          refine aw_getr (q := 46) dX6_file_43 rfl e_X6_42 (zX4_lt zX4_74) (o_X4 zX4_74 s R) rfl ?_
          refine aw_getr (q := 49) dX6_file_46 rfl e_X6_106 (zB_lt0 (zX4_B zX4_74)) (o_X0 (zX4_B zX4_74) s R) rfl ?_
          refine aw_iload_n (q := 50) dX6_file_49 rfl rfl ?_
          refine aw_iald' (q := 51) (v := s.1 (sB 74 + 6) x1.toNatClampNeg) dX6_file_50 rfl (zB_lt (k := 6) (zX4_B zX4_74) (by decide)) (o_X0a5 (zX4_B zX4_74) s R) (zin_in h4) rfl ?_
          refine aw_iload_n (q := 52) dX6_file_51 rfl rfl ?_
          refine aw_icmp_eq (q := 55) (t := 58) dX6_file_52 rfl (by decide) (fun h6 => ?_) (fun h6 => ?_)
          · replace H := zt h6 H
            refine aw_aload_n (q := 59) dX6_file_58 rfl rfl ?_
            refine aw_getr (q := 62) dX6_file_59 rfl e_X6_31 (by decide) (o_X6 s R) rfl ?_
            refine aw_iload_n (q := 63) dX6_file_62 rfl rfl ?_
            obtain ⟨v7, hv7, H⟩ := zbd H
            refine aw_cv (M' := M_X4_filedIn) (as := [.int x2]) (q := 66) dX6_file_63 rfl W_X4_filedIn k_X6_223 i_X4_filedIn v_X4_filedIn (zX4_lt zX4_74) (o_X4 zX4_74 s R) rfl rfl rfl (by decide) (Nat.le_of_ble_eq_true rfl) (c_X4_filedIn s R zX4_74 x2 hv7) (Nat.le_refl _) (Nat.le_refl _) ?_
            rintro r9 h9 ⟨rfl, rfl⟩
            refine aw_iconst (q := 67) (v := 3) dX6_file_66 rfl (by decide) ?_
            refine aw_icmp_lt (q := 70) (t := 73) dX6_file_67 rfl (by decide) (fun h8 => ?_) (fun h8 => ?_)
            · replace H := zt h8 H
              refine aw_aload_n (q := 74) dX6_file_73 rfl rfl ?_
              refine aw_getr (q := 77) dX6_file_74 rfl e_X6_12 (by decide) (o_X6 s R) rfl ?_
              refine aw_aload_n (q := 78) dX6_file_77 rfl rfl ?_
              refine aw_getr (q := 81) dX6_file_78 rfl e_X6_31 (by decide) (o_X6 s R) rfl ?_
              obtain ⟨v9, hv9, H⟩ := zbd H
              refine aw_cv (M' := M_X1_keep) (as := [.ref 74]) (q := 84) dX6_file_81 rfl W_X1_keep k_X6_50 i_X1_keep v_X1_keep (by decide) (o_X1 s R) rfl rfl rfl (by decide) (Nat.le_of_ble_eq_true rfl) (c_X1_keep s R zX4_74 hv9) (Nat.le_refl _) (Nat.le_refl _) ?_
              rintro r9 h9 ⟨rfl, rfl⟩
              refine aw_aload_n (q := 85) dX6_file_84 rfl rfl ?_
              refine aw_getr (q := 88) dX6_file_85 rfl e_X6_31 (by decide) (o_X6 v9 R) rfl ?_
              refine aw_getr (q := 91) dX6_file_88 rfl e_X6_116 (zX4_lt zX4_74) (o_X4 zX4_74 v9 R) rfl ?_
              refine aw_iload_n (q := 92) dX6_file_91 rfl rfl ?_
              refine aw_iload_n (q := 93) dX6_file_92 rfl rfl ?_
              obtain ⟨s10, q11, H⟩ := zltd H
              refine aw_iast (q := 94) dX6_file_93 rfl (zX4_ltD zX4_74) (o_X4a1 zX4_74 v9 R) (zin_in h4) ((p_X4a1 zX4_74).trans (congrArg (fun z => zT z R) q11.symm)) ?_
              refine aw_aload_n (q := 95) dX6_file_94 rfl rfl ?_
              refine aw_getr (q := 98) dX6_file_95 rfl e_X6_31 (by decide) (o_X6 s10 R) rfl ?_
              refine aw_iload_n (q := 99) dX6_file_98 rfl rfl ?_
              obtain ⟨v12, hv12, H⟩ := zbd H
              refine aw_cv (M' := M_X4_filedIn) (as := [.int x2]) (q := 102) dX6_file_99 rfl W_X4_filedIn k_X6_223 i_X4_filedIn v_X4_filedIn (zX4_lt zX4_74) (o_X4 zX4_74 s10 R) rfl rfl rfl (by decide) (Nat.le_of_ble_eq_true rfl) (c_X4_filedIn s10 R zX4_74 x2 hv12) (Nat.le_refl _) (Nat.le_refl _) ?_
              rintro r9 h9 ⟨rfl, rfl⟩
              cases H
              exact aw_ret dX6_file_102 rfl rfl rfl rfl ⟨rfl, rfl⟩
            · replace H := zf h8 H
              refine aw_ldc (q := 72) dX6_file_70 rfl q_X6_210 ?_
              cases H
              exact aw_ret dX6_file_72 rfl rfl rfl rfl ⟨rfl, rfl⟩
          · replace H := zf h6 H
            refine aw_ldc (q := 57) dX6_file_55 rfl q_X6_206 ?_
            cases H
            exact aw_ret dX6_file_57 rfl rfl rfl rfl ⟨rfl, rfl⟩
        · replace H := zf h5 H
          refine aw_ldc (q := 57) dX6_file_55 rfl q_X6_206 ?_
          cases H
          exact aw_ret dX6_file_57 rfl rfl rfl rfl ⟨rfl, rfl⟩
      · replace H := zf h3 H
        refine aw_ldc (q := 25) dX6_file_23 rfl q_X6_74 ?_
        cases H
        exact aw_ret dX6_file_25 rfl rfl rfl rfl ⟨rfl, rfl⟩
  · replace H := zf h1 H
    refine aw_ldc (q := 25) dX6_file_23 rfl q_X6_74 ?_
    cases H
    exact aw_ret dX6_file_25 rfl rfl rfl rfl ⟨rfl, rfl⟩
def f_X6_reachedNow (s : zs) : Option (Int32 × zs) :=
  Option.bind (f_X2_suppose s 10) fun v1 =>
  Option.bind (f_X4_touchedNow v1.2 74) fun v2 =>
  Option.bind (f_X5_probe v1.2 v1.1 v2) fun v3 =>
  some (f_J6_bitCount_0f7a4 (v3.1 v1.1 6), v3)
set_option maxHeartbeats 4000000 in
set_option maxRecDepth 100000 in
theorem c_X6_reachedNow {G : zG} {sl : Nat} (s : zs) (R : zr)  {v9 : (Int32 × zs)} (H : f_X6_reachedNow s = some v9) : zMv G 5 M_X6_reachedNow [.ref 0] sl (zT s R) (fun r h' => r = some (.int v9.1) ∧ h' = zT v9.2 R) := by
  unfold f_X6_reachedNow at H
  refine zMv_of (L := [some (.ref 0), none]) (by decide) rfl (Nat.le_of_ble_eq_true rfl) rfl ?_
  refine aw_aload_n (q := 1) dX6_reachedNow_0 rfl rfl ?_
  refine aw_getr (q := 4) dX6_reachedNow_1 rfl e_X6_38 (by decide) (o_X6 s R) rfl ?_
  refine aw_bipush (q := 6) (v := 10) dX6_reachedNow_4 rfl (by decide) ?_
  obtain ⟨v1, hv1, H⟩ := zbd H
  refine aw_cv (M' := M_X2_suppose) (as := [.int 10]) (q := 9) dX6_reachedNow_6 rfl W_X2_suppose k_X6_128 i_X2_suppose v_X2_suppose (by decide) (o_X2 s R) rfl rfl rfl (by decide) (Nat.le_of_ble_eq_true rfl) (c_X2_suppose s R 10 hv1) (Nat.le_refl _) (Nat.le_refl _) ?_
  rintro r9 h9 ⟨rfl, rfl⟩
  refine aw_astore_n (q := 10) (L' := [some (.ref 0), some (.ref v1.1)]) dX6_reachedNow_9 rfl (by decide) rfl rfl ?_
  refine aw_aload_n (q := 11) dX6_reachedNow_10 rfl rfl ?_
  refine aw_aload_n (q := 12) dX6_reachedNow_11 rfl rfl ?_
  refine aw_getr (q := 15) dX6_reachedNow_12 rfl e_X6_31 (by decide) (o_X6 v1.2 R) rfl ?_
  obtain ⟨v2, hv2, H⟩ := zbd H
  refine aw_cv (M' := M_X4_touchedNow) (as := []) (q := 18) dX6_reachedNow_15 rfl W_X4_touchedNow k_X6_95 i_X4_touchedNow v_X4_touchedNow (zX4_lt zX4_74) (o_X4 zX4_74 v1.2 R) rfl rfl rfl (by decide) (Nat.le_of_ble_eq_true rfl) (c_X4_touchedNow v1.2 R zX4_74 hv2) (Nat.le_refl _) (Nat.le_refl _) ?_
  rintro r9 h9 ⟨rfl, rfl⟩
  obtain ⟨v3, hv3, H⟩ := zbd H
  refine aw_cv (M' := M_X5_probe) (as := [.int v2]) (q := 21) dX6_reachedNow_18 rfl W_X5_probe k_X6_135 i_X5_probe v_X5_probe (zU_lt (k := 0) (U_X2_suppose hv1) (by decide)) (o_X5 (U_X2_suppose hv1) v1.2 R) rfl rfl rfl (by decide) (Nat.le_of_ble_eq_true rfl) (c_X5_probe v1.2 R (U_X2_suppose hv1) v2 hv3) (Nat.le_refl _) (Nat.le_refl _) ?_
  rintro r9 h9 ⟨rfl, rfl⟩
  refine aw_aload_n (q := 22) dX6_reachedNow_21 rfl rfl ?_
  refine aw_getr (q := 25) dX6_reachedNow_22 rfl e_X6_141 (zU_lt (k := 0) (U_X2_suppose hv1) (by decide)) (o_X5 (U_X2_suppose hv1) v3 R) rfl ?_
  refine aw_cs (M' := M_J6_bitCount_0f7a4) (as := [.int (v3.1 v1.1 6)]) (q := 28) dX6_reachedNow_25 rfl W_J6_bitCount_0f7a4 k_X6_186 s_J6_bitCount_0f7a4 rfl rfl (by decide) (Nat.le_of_ble_eq_true rfl) (c_J6_bitCount_0f7a4 (zT v3 R) (v3.1 v1.1 6)) (Nat.le_refl _) (Nat.le_refl _) ?_
  rintro r9 h9 ⟨rfl, rfl⟩
  cases H
  exact aw_ret dX6_reachedNow_28 rfl rfl rfl rfl ⟨rfl, rfl⟩
