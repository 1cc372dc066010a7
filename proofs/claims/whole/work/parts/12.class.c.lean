def f_X5_sameOutcome_36 : Nat → zs → Nat → Nat → Int32 → Option ((Unit) ⊕ (Bool))
  | 0, _, _, _, _ => none
  | k + 1, s, u, x1, x2 =>
    if (16 : Int32) ≤ x2 then (
      some (Sum.inl ())
    ) else (
      if f_X6_hasBit (s.1 u 6) x2 = true then (
        Option.bind (f_X5_pinsAtOne s u x2 1) fun v3 =>
        Option.bind (f_X5_pinsAtOne s x1 x2 1) fun v4 =>
        if v3 = v4 then (
          f_X5_sameOutcome_36 k s u x1 (x2 + 1)
        ) else (
          some (Sum.inr false)
        )
      ) else (
        f_X5_sameOutcome_36 k s u x1 (x2 + 1)
      )
    )
set_option maxHeartbeats 4000000 in
set_option maxRecDepth 100000 in
theorem L_X5_sameOutcome_36 {G : zG} {sl : Nat} {P : Option Value → zH → Prop} (R : zr) {u : Nat} (hu : zU u) {x1 : Nat} (hx1 : zU x1) : ∀ (k : Nat) (s : zs) (x2 : Int32) (e : (Unit) ⊕ (Bool)), f_X5_sameOutcome_36 k s u x1 x2 = some e → (∀ x9, e = Sum.inl x9 → AV G M_X5_sameOutcome 1 sl P 76 [none, none, none] [] (zT s R)) → (∀ v9, e = Sum.inr v9 → P (some (.int (zb v9))) (zT s R)) → AV G M_X5_sameOutcome 1 sl P 36 [some (.ref u), some (.ref x1), some (.int x2)] [] (zT s R) := by
  intro k
  induction k with
  | zero =>
    intro s x2 e H
    unfold f_X5_sameOutcome_36 at H
    cases H
  | succ k ih =>
    intro s x2 e H KE KR
    unfold f_X5_sameOutcome_36 at H
    refine aw_iload_n (q := 37) dX5_sameOutcome_36 rfl rfl ?_
    refine aw_bipush (q := 39) (v := 16) dX5_sameOutcome_37 rfl (by decide) ?_
    refine aw_icmp_ge (q := 42) (t := 76) dX5_sameOutcome_39 rfl (by decide) (fun h1 => ?_) (fun h1 => ?_)
    · replace H := zt h1 H
      cases H
      exact aw_fewer (L' := [none, none, none]) trivial (KE _ rfl)
    · replace H := zf h1 H
      refine aw_aload_n (q := 43) dX5_sameOutcome_42 rfl rfl ?_
      refine aw_getr (q := 46) dX5_sameOutcome_43 rfl e_X5_85 (zU_lt (k := 0) hu (by decide)) (o_X5 hu s R) rfl ?_
      refine aw_iload_n (q := 47) dX5_sameOutcome_46 rfl rfl ?_
      refine aw_csN (M' := M_X6_hasBit) (as := [.int (s.1 u 6), .int x2]) (q := 50) dX5_sameOutcome_47 rfl W_X6_hasBit (show (RX5, 78, yX6_hasBit) ∈ zNl by decide) s_X6_hasBit rfl rfl (by decide) (Nat.le_of_ble_eq_true rfl) (c_X6_hasBit (zT s R) (s.1 u 6) x2) (Nat.le_refl _) (Nat.le_refl _) ?_
      rintro r9 h9 ⟨rfl, rfl⟩
      refine aw_ifeqB (q := 53) (t := 70) dX5_sameOutcome_50 rfl (by decide) (fun h2 => ?_) (fun h2 => ?_)
      · replace H := zt h2 H
        refine aw_aload_n (q := 54) dX5_sameOutcome_53 rfl rfl ?_
        refine aw_iload_n (q := 55) dX5_sameOutcome_54 rfl rfl ?_
        refine aw_iconst (q := 56) (v := 1) dX5_sameOutcome_55 rfl (by decide) ?_
        obtain ⟨v3, hv3, H⟩ := zbd H
        refine aw_cv (M' := M_X5_pinsAtOne) (as := [.int x2, .int 1]) (q := 59) dX5_sameOutcome_56 rfl W_X5_pinsAtOne k_X5_91 i_X5_pinsAtOne v_X5_pinsAtOne (zU_lt (k := 0) hu (by decide)) (o_X5 hu s R) rfl rfl rfl (by decide) (Nat.le_of_ble_eq_true rfl) (c_X5_pinsAtOne s R hu x2 1 hv3) (Nat.le_refl _) (Nat.le_refl _) ?_
        rintro r9 h9 ⟨rfl, rfl⟩
        refine aw_aload_n (q := 60) dX5_sameOutcome_59 rfl rfl ?_
        refine aw_iload_n (q := 61) dX5_sameOutcome_60 rfl rfl ?_
        refine aw_iconst (q := 62) (v := 1) dX5_sameOutcome_61 rfl (by decide) ?_
        obtain ⟨v4, hv4, H⟩ := zbd H
        refine aw_cv (M' := M_X5_pinsAtOne) (as := [.int x2, .int 1]) (q := 65) dX5_sameOutcome_62 rfl W_X5_pinsAtOne k_X5_91 i_X5_pinsAtOne v_X5_pinsAtOne (zU_lt (k := 0) hx1 (by decide)) (o_X5 hx1 s R) rfl rfl rfl (by decide) (Nat.le_of_ble_eq_true rfl) (c_X5_pinsAtOne s R hx1 x2 1 hv4) (Nat.le_refl _) (Nat.le_refl _) ?_
        rintro r9 h9 ⟨rfl, rfl⟩
        refine aw_icmp_eq (q := 68) (t := 70) dX5_sameOutcome_65 rfl (by decide) (fun h5 => ?_) (fun h5 => ?_)
        · replace H := zt h5 H
          refine aw_iinc (q := 73) (v := x2 + 1) (L' := [some (.ref u), some (.ref x1), some (.int (x2 + 1))]) dX5_sameOutcome_70 rfl rfl (by first | rfl | decide) (by decide) rfl rfl ?_
          refine aw_goto (q := 36) dX5_sameOutcome_73 (by decide) ?_
          exact aw_fewer (L' := [some (.ref u), some (.ref x1), some (.int (x2 + 1))]) ⟨rfl, ⟨rfl, ⟨rfl, trivial⟩⟩⟩ (ih s (x2 + 1) _ H KE KR)
        · replace H := zf h5 H
          refine aw_iconst (q := 69) (v := 0) dX5_sameOutcome_68 rfl (by decide) ?_
          cases H
          exact aw_ret dX5_sameOutcome_69 rfl rfl rfl rfl (KR _ rfl)
      · replace H := zf h2 H
        refine aw_iinc (q := 73) (v := x2 + 1) (L' := [some (.ref u), some (.ref x1), some (.int (x2 + 1))]) dX5_sameOutcome_70 rfl rfl (by first | rfl | decide) (by decide) rfl rfl ?_
        refine aw_goto (q := 36) dX5_sameOutcome_73 (by decide) ?_
        exact aw_fewer (L' := [some (.ref u), some (.ref x1), some (.int (x2 + 1))]) ⟨rfl, ⟨rfl, ⟨rfl, trivial⟩⟩⟩ (ih s (x2 + 1) _ H KE KR)
def f_X5_sameOutcome (s : zs) (u : Nat) (x1 : Nat) : Option Bool :=
  if (s.1 u 6) = (s.1 x1 6) then (
    if ((s.1 u 4) &&& (s.1 u 6)) = ((s.1 x1 4) &&& (s.1 u 6)) then (
      Option.bind (f_X5_sameOutcome_36 zFu s u x1 0) fun e3 => match e3 with
      | Sum.inr r4 => some r4
      | Sum.inl e3i =>
      some true
    ) else (
      some false
    )
  ) else (
    some false
  )
set_option maxHeartbeats 4000000 in
set_option maxRecDepth 100000 in
theorem c_X5_sameOutcome {G : zG} {sl : Nat} (s : zs) (R : zr) {u : Nat} (hu : zU u) {x1 : Nat} (hx1 : zU x1) {v9 : Bool} (H : f_X5_sameOutcome s u x1 = some v9) : zMv G 1 M_X5_sameOutcome [.ref u, .ref x1] sl (zT s R) (fun r h' => r = some (.int (zb v9)) ∧ h' = (zT s R)) := by
  unfold f_X5_sameOutcome at H
  refine zMv_of (L := [some (.ref u), some (.ref x1), none]) (by decide) rfl (Nat.le_of_ble_eq_true rfl) rfl ?_
  refine aw_aload_n (q := 1) dX5_sameOutcome_0 rfl rfl ?_
  refine aw_getr (q := 4) dX5_sameOutcome_1 rfl e_X5_85 (zU_lt (k := 0) hu (by decide)) (o_X5 hu s R) rfl ?_
  refine aw_aload_n (q := 5) dX5_sameOutcome_4 rfl rfl ?_
  refine aw_getr (q := 8) dX5_sameOutcome_5 rfl e_X5_85 (zU_lt (k := 0) hx1 (by decide)) (o_X5 hx1 s R) rfl ?_
  refine aw_icmp_neP (q := 11) (t := 32) dX5_sameOutcome_8 rfl (by decide) (fun h1 => ?_) (fun h1 => ?_)
  · replace H := zt h1 H
    refine aw_aload_n (q := 12) dX5_sameOutcome_11 rfl rfl ?_
    refine aw_getr (q := 15) dX5_sameOutcome_12 rfl e_X5_41 (zU_lt (k := 0) hu (by decide)) (o_X5 hu s R) rfl ?_
    refine aw_aload_n (q := 16) dX5_sameOutcome_15 rfl rfl ?_
    refine aw_getr (q := 19) dX5_sameOutcome_16 rfl e_X5_85 (zU_lt (k := 0) hu (by decide)) (o_X5 hu s R) rfl ?_
    refine aw_iand (q := 20) dX5_sameOutcome_19 rfl ?_
    refine aw_aload_n (q := 21) dX5_sameOutcome_20 rfl rfl ?_
    refine aw_getr (q := 24) dX5_sameOutcome_21 rfl e_X5_41 (zU_lt (k := 0) hx1 (by decide)) (o_X5 hx1 s R) rfl ?_
    refine aw_aload_n (q := 25) dX5_sameOutcome_24 rfl rfl ?_
    refine aw_getr (q := 28) dX5_sameOutcome_25 rfl e_X5_85 (zU_lt (k := 0) hu (by decide)) (o_X5 hu s R) rfl ?_
    refine aw_iand (q := 29) dX5_sameOutcome_28 rfl ?_
    refine aw_icmp_eq (q := 32) (t := 34) dX5_sameOutcome_29 rfl (by decide) (fun h2 => ?_) (fun h2 => ?_)
    · replace H := zt h2 H
      refine aw_iconst (q := 35) (v := 0) dX5_sameOutcome_34 rfl (by decide) ?_
      refine aw_istore_n (q := 36) (L' := [some (.ref u), some (.ref x1), some (.int 0)]) dX5_sameOutcome_35 rfl (by decide) rfl rfl ?_
      obtain ⟨e3, he3, H⟩ := zbd H
      refine aw_fewer (L' := [some (.ref u), some (.ref x1), some (.int 0)]) ⟨rfl, ⟨rfl, ⟨rfl, trivial⟩⟩⟩ ?_
      refine L_X5_sameOutcome_36 R hu hx1 zFu s 0 e3 he3 (fun e3i h9 => ?_) (fun r4 h9 => ?_)
      · subst h9
        replace H : _ = _ := H
        refine aw_iconst (q := 77) (v := 1) dX5_sameOutcome_76 rfl (by decide) ?_
        cases H
        exact aw_ret dX5_sameOutcome_77 rfl rfl rfl rfl ⟨rfl, rfl⟩
      · subst h9
        cases H
        exact ⟨rfl, rfl⟩
    · replace H := zf h2 H
      refine aw_iconst (q := 33) (v := 0) dX5_sameOutcome_32 rfl (by decide) ?_
      cases H
      exact aw_ret dX5_sameOutcome_33 rfl rfl rfl rfl ⟨rfl, rfl⟩
  · replace H := zf h1 H
    refine aw_iconst (q := 33) (v := 0) dX5_sameOutcome_32 rfl (by decide) ?_
    cases H
    exact aw_ret dX5_sameOutcome_33 rfl rfl rfl rfl ⟨rfl, rfl⟩
def f_X2_probedLike_5 : Nat → zs → Int32 → Int32 → Int32 → Int32 → Option (Int32)
  | 0, _, _, _, _, _ => none
  | k + 1, s, x1, x2, x3, x4 =>
    if (11 : Int32) ≤ x4 then (
      some x3
    ) else (
      if f_X6_hasBit x2 x4 = true then (
        if zin x1 11 = true then
        if zin x4 11 = true then
        Option.bind (f_X5_sameOutcome s (87 + 3 * x1.toNatClampNeg) (87 + 3 * x4.toNatClampNeg)) fun v5 =>
        if v5 = true then (
          zlt (x3 ||| ((1 : Int32) <<< (x4 &&& 31)) : Int32) fun y7 =>
          f_X2_probedLike_5 k s x1 x2 y7 (x4 + 1)
        ) else (
          f_X2_probedLike_5 k s x1 x2 x3 (x4 + 1)
        )
        else none
        else none
      ) else (
        f_X2_probedLike_5 k s x1 x2 x3 (x4 + 1)
      )
    )
set_option maxHeartbeats 4000000 in
set_option maxRecDepth 100000 in
theorem L_X2_probedLike_5 {G : zG} {sl : Nat} {P : Option Value → zH → Prop} (R : zr) (x1 : Int32) (x2 : Int32) : ∀ (k : Nat) (s : zs) (x3 : Int32) (x4 : Int32) (e : Int32), f_X2_probedLike_5 k s x1 x2 x3 x4 = some e → (AV G M_X2_probedLike 2 sl P 53 [none, none, none, some (.int e), none] [] (zT s R)) → AV G M_X2_probedLike 2 sl P 5 [some (.ref 76), some (.int x1), some (.int x2), some (.int x3), some (.int x4)] [] (zT s R) := by
  intro k
  induction k with
  | zero =>
    intro s x3 x4 e H
    unfold f_X2_probedLike_5 at H
    cases H
  | succ k ih =>
    intro s x3 x4 e H KE
    unfold f_X2_probedLike_5 at H
    refine aw_iload (q := 7) dX2_probedLike_5 rfl rfl ?_
    refine aw_bipush (q := 9) (v := 11) dX2_probedLike_7 rfl (by decide) ?_
    refine aw_icmp_ge (q := 12) (t := 53) dX2_probedLike_9 rfl (by decide) (fun h1 => ?_) (fun h1 => ?_)
    · replace H := zt h1 H
      cases H
      exact aw_fewer (L' := [none, none, none, some (.int x3), none]) ⟨rfl, trivial⟩ KE
    · replace H := zf h1 H
      refine aw_iload_n (q := 13) dX2_probedLike_12 rfl rfl ?_
      refine aw_iload (q := 15) dX2_probedLike_13 rfl rfl ?_
      refine aw_csN (M' := M_X6_hasBit) (as := [.int x2, .int x4]) (q := 18) dX2_probedLike_15 rfl W_X6_hasBit (show (RX2, 36, yX6_hasBit) ∈ zNl by decide) s_X6_hasBit rfl rfl (by decide) (Nat.le_of_ble_eq_true rfl) (c_X6_hasBit (zT s R) x2 x4) (Nat.le_refl _) (Nat.le_refl _) ?_
      rintro r9 h9 ⟨rfl, rfl⟩
      refine aw_ifeqB (q := 21) (t := 47) dX2_probedLike_18 rfl (by decide) (fun h2 => ?_) (fun h2 => ?_)
      · replace H := zt h2 H
        refine aw_aload_n (q := 22) dX2_probedLike_21 rfl rfl ?_
        refine aw_getr (q := 25) dX2_probedLike_22 rfl e_X2_11 (by decide) (o_X2 s R) rfl ?_
        refine aw_iload_n (q := 26) dX2_probedLike_25 rfl rfl ?_
        obtain ⟨h3, H⟩ := zio H
        refine aw_aald (q := 27) (b := 87 + 3 * x1.toNatClampNeg) dX2_probedLike_26 rfl (by decide) (Or.inr (Or.inl rfl)) (o_X2a1 s R) (zin_in h3) rfl ?_
        refine aw_aload_n (q := 28) dX2_probedLike_27 rfl rfl ?_
        refine aw_getr (q := 31) dX2_probedLike_28 rfl e_X2_11 (by decide) (o_X2 s R) rfl ?_
        refine aw_iload (q := 33) dX2_probedLike_31 rfl rfl ?_
        obtain ⟨h4, H⟩ := zio H
        refine aw_aald (q := 34) (b := 87 + 3 * x4.toNatClampNeg) dX2_probedLike_33 rfl (by decide) (Or.inr (Or.inl rfl)) (o_X2a1 s R) (zin_in h4) rfl ?_
        obtain ⟨v5, hv5, H⟩ := zbd H
        refine aw_cv (M' := M_X5_sameOutcome) (as := [.ref (87 + 3 * x4.toNatClampNeg)]) (q := 37) dX2_probedLike_34 rfl W_X5_sameOutcome k_X2_44 i_X5_sameOutcome v_X5_sameOutcome (zU_lt (k := 0) (zU_of h3) (by decide)) (o_X5 (zU_of h3) s R) rfl rfl rfl (by decide) (Nat.le_of_ble_eq_true rfl) (c_X5_sameOutcome s R (zU_of h3) (zU_of h4) hv5) (Nat.le_refl _) (Nat.le_refl _) ?_
        rintro r9 h9 ⟨rfl, rfl⟩
        refine aw_ifeqB (q := 40) (t := 47) dX2_probedLike_37 rfl (by decide) (fun h6 => ?_) (fun h6 => ?_)
        · replace H := zt h6 H
          refine aw_iload_n (q := 41) dX2_probedLike_40 rfl rfl ?_
          refine aw_iconst (q := 42) (v := 1) dX2_probedLike_41 rfl (by decide) ?_
          refine aw_iload (q := 44) dX2_probedLike_42 rfl rfl ?_
          refine aw_ishl (q := 45) dX2_probedLike_44 rfl ?_
          refine aw_ior (q := 46) dX2_probedLike_45 rfl ?_
          obtain ⟨y7, q8, H⟩ := zltd H
          refine aw_nm q8 ?_
          refine aw_istore_n (q := 47) (L' := [some (.ref 76), some (.int x1), some (.int x2), some (.int y7), some (.int x4)]) dX2_probedLike_46 rfl (by decide) rfl rfl ?_
          refine aw_iinc (q := 50) (v := x4 + 1) (L' := [some (.ref 76), some (.int x1), some (.int x2), some (.int y7), some (.int (x4 + 1))]) dX2_probedLike_47 rfl rfl (by first | rfl | decide) (by decide) rfl rfl ?_
          refine aw_goto (q := 5) dX2_probedLike_50 (by decide) ?_
          exact aw_fewer (L' := [some (.ref 76), some (.int x1), some (.int x2), some (.int y7), some (.int (x4 + 1))]) ⟨rfl, ⟨rfl, ⟨rfl, ⟨rfl, ⟨rfl, trivial⟩⟩⟩⟩⟩ (ih s y7 (x4 + 1) _ H KE)
        · replace H := zf h6 H
          refine aw_iinc (q := 50) (v := x4 + 1) (L' := [some (.ref 76), some (.int x1), some (.int x2), some (.int x3), some (.int (x4 + 1))]) dX2_probedLike_47 rfl rfl (by first | rfl | decide) (by decide) rfl rfl ?_
          refine aw_goto (q := 5) dX2_probedLike_50 (by decide) ?_
          exact aw_fewer (L' := [some (.ref 76), some (.int x1), some (.int x2), some (.int x3), some (.int (x4 + 1))]) ⟨rfl, ⟨rfl, ⟨rfl, ⟨rfl, ⟨rfl, trivial⟩⟩⟩⟩⟩ (ih s x3 (x4 + 1) _ H KE)
      · replace H := zf h2 H
        refine aw_iinc (q := 50) (v := x4 + 1) (L' := [some (.ref 76), some (.int x1), some (.int x2), some (.int x3), some (.int (x4 + 1))]) dX2_probedLike_47 rfl rfl (by first | rfl | decide) (by decide) rfl rfl ?_
        refine aw_goto (q := 5) dX2_probedLike_50 (by decide) ?_
        exact aw_fewer (L' := [some (.ref 76), some (.int x1), some (.int x2), some (.int x3), some (.int (x4 + 1))]) ⟨rfl, ⟨rfl, ⟨rfl, ⟨rfl, ⟨rfl, trivial⟩⟩⟩⟩⟩ (ih s x3 (x4 + 1) _ H KE)
def f_X2_probedLike (s : zs) (x1 : Int32) (x2 : Int32) : Option Int32 :=
  Option.bind (f_X2_probedLike_5 zFu s x1 x2 0 0) fun e1 =>
  some e1
set_option maxHeartbeats 4000000 in
set_option maxRecDepth 100000 in
theorem c_X2_probedLike {G : zG} {sl : Nat} (s : zs) (R : zr) (x1 : Int32) (x2 : Int32) {v9 : Int32} (H : f_X2_probedLike s x1 x2 = some v9) : zMv G 2 M_X2_probedLike [.ref 76, .int x1, .int x2] sl (zT s R) (fun r h' => r = some (.int v9) ∧ h' = (zT s R)) := by
  unfold f_X2_probedLike at H
  refine zMv_of (L := [some (.ref 76), some (.int x1), some (.int x2), none, none]) (by decide) rfl (Nat.le_of_ble_eq_true rfl) rfl ?_
  refine aw_iconst (q := 1) (v := 0) dX2_probedLike_0 rfl (by decide) ?_
  refine aw_istore_n (q := 2) (L' := [some (.ref 76), some (.int x1), some (.int x2), some (.int 0), none]) dX2_probedLike_1 rfl (by decide) rfl rfl ?_
  refine aw_iconst (q := 3) (v := 0) dX2_probedLike_2 rfl (by decide) ?_
  refine aw_istore (q := 5) (L' := [some (.ref 76), some (.int x1), some (.int x2), some (.int 0), some (.int 0)]) dX2_probedLike_3 rfl (by decide) rfl rfl ?_
  obtain ⟨e1, he1, H⟩ := zbd H
  refine aw_fewer (L' := [some (.ref 76), some (.int x1), some (.int x2), some (.int 0), some (.int 0)]) ⟨rfl, ⟨rfl, ⟨rfl, ⟨rfl, ⟨rfl, trivial⟩⟩⟩⟩⟩ ?_
  refine L_X2_probedLike_5 R x1 x2 zFu s 0 0 e1 he1 ?_
  refine aw_iload_n (q := 54) dX2_probedLike_53 rfl rfl ?_
  cases H
  exact aw_ret dX2_probedLike_54 rfl rfl rfl rfl ⟨rfl, rfl⟩
def f_X2_leftBy (s : zs) (x1 : Int32) (x2 : Int32) (x3 : Int32) : Option (Int32 × zs) :=
  Option.bind (f_X2_supposeAll s (x3 ||| ((1 : Int32) <<< (x2 &&& 31)))) fun v1 =>
  Option.bind (f_X2_probeAll v1 (x3 ||| ((1 : Int32) <<< (x2 &&& 31))) x1) fun v2 =>
  Option.bind (f_X2_probedLike v2 x2 x3) fun v3 =>
  some (v3, v2)
set_option maxHeartbeats 4000000 in
set_option maxRecDepth 100000 in
theorem c_X2_leftBy {G : zG} {sl : Nat} (s : zs) (R : zr) (x1 : Int32) (x2 : Int32) (x3 : Int32) {v9 : (Int32 × zs)} (H : f_X2_leftBy s x1 x2 x3 = some v9) : zMv G 5 M_X2_leftBy [.ref 76, .int x1, .int x2, .int x3] sl (zT s R) (fun r h' => r = some (.int v9.1) ∧ h' = zT v9.2 R) := by
  unfold f_X2_leftBy at H
  refine zMv_of (L := [some (.ref 76), some (.int x1), some (.int x2), some (.int x3)]) (by decide) rfl (Nat.le_of_ble_eq_true rfl) rfl ?_
  refine aw_aload_n (q := 1) dX2_leftBy_0 rfl rfl ?_
  refine aw_iload_n (q := 2) dX2_leftBy_1 rfl rfl ?_
  refine aw_iconst (q := 3) (v := 1) dX2_leftBy_2 rfl (by decide) ?_
  refine aw_iload_n (q := 4) dX2_leftBy_3 rfl rfl ?_
  refine aw_ishl (q := 5) dX2_leftBy_4 rfl ?_
  refine aw_ior (q := 6) dX2_leftBy_5 rfl ?_
  obtain ⟨v1, hv1, H⟩ := zbd H
  refine aw_cv (M' := M_X2_supposeAll) (as := [.int (x3 ||| ((1 : Int32) <<< (x2 &&& 31)))]) (q := 9) dX2_leftBy_6 rfl W_X2_supposeAll k_X2_48 i_X2_supposeAll v_X2_supposeAll (by decide) (o_X2 s R) rfl rfl rfl (by decide) (Nat.le_of_ble_eq_true rfl) (c_X2_supposeAll s R (x3 ||| ((1 : Int32) <<< (x2 &&& 31))) hv1) (Nat.le_refl _) (Nat.le_refl _) ?_
  rintro r9 h9 ⟨rfl, rfl⟩
  refine aw_aload_n (q := 10) dX2_leftBy_9 rfl rfl ?_
  refine aw_iload_n (q := 11) dX2_leftBy_10 rfl rfl ?_
  refine aw_iconst (q := 12) (v := 1) dX2_leftBy_11 rfl (by decide) ?_
  refine aw_iload_n (q := 13) dX2_leftBy_12 rfl rfl ?_
  refine aw_ishl (q := 14) dX2_leftBy_13 rfl ?_
  refine aw_ior (q := 15) dX2_leftBy_14 rfl ?_
  refine aw_iload_n (q := 16) dX2_leftBy_15 rfl rfl ?_
  obtain ⟨v2, hv2, H⟩ := zbd H
  refine aw_cv (M' := M_X2_probeAll) (as := [.int (x3 ||| ((1 : Int32) <<< (x2 &&& 31))), .int x1]) (q := 19) dX2_leftBy_16 rfl W_X2_probeAll k_X2_51 i_X2_probeAll v_X2_probeAll (by decide) (o_X2 v1 R) rfl rfl rfl (by decide) (Nat.le_of_ble_eq_true rfl) (c_X2_probeAll v1 R (x3 ||| ((1 : Int32) <<< (x2 &&& 31))) x1 hv2) (Nat.le_refl _) (Nat.le_refl _) ?_
  rintro r9 h9 ⟨rfl, rfl⟩
  refine aw_aload_n (q := 20) dX2_leftBy_19 rfl rfl ?_
  refine aw_iload_n (q := 21) dX2_leftBy_20 rfl rfl ?_
  refine aw_iload_n (q := 22) dX2_leftBy_21 rfl rfl ?_
  obtain ⟨v3, hv3, H⟩ := zbd H
  refine aw_cv (M' := M_X2_probedLike) (as := [.int x2, .int x3]) (q := 25) dX2_leftBy_22 rfl W_X2_probedLike k_X2_55 i_X2_probedLike v_X2_probedLike (by decide) (o_X2 v2 R) rfl rfl rfl (by decide) (Nat.le_of_ble_eq_true rfl) (c_X2_probedLike v2 R x2 x3 hv3) (Nat.le_refl _) (Nat.le_refl _) ?_
  rintro r9 h9 ⟨rfl, rfl⟩
  cases H
  exact aw_ret dX2_leftBy_25 rfl rfl rfl rfl ⟨rfl, rfl⟩
def f_X2_firstProbedLike_2 : Nat → zs → Int32 → Int32 → Int32 → Option ((Unit) ⊕ (Int32))
  | 0, _, _, _, _ => none
  | k + 1, s, x1, x2, x3 =>
    if x1 ≤ x3 then (
      some (Sum.inl ())
    ) else (
      if f_X6_hasBit x2 x3 = true then (
        if zin x1 11 = true then
        if zin x3 11 = true then
        Option.bind (f_X5_sameOutcome s (87 + 3 * x1.toNatClampNeg) (87 + 3 * x3.toNatClampNeg)) fun v5 =>
        if v5 = true then (
          some (Sum.inr x3)
        ) else (
          f_X2_firstProbedLike_2 k s x1 x2 (x3 + 1)
        )
        else none
        else none
      ) else (
        f_X2_firstProbedLike_2 k s x1 x2 (x3 + 1)
      )
    )
set_option maxHeartbeats 4000000 in
set_option maxRecDepth 100000 in
theorem L_X2_firstProbedLike_2 {G : zG} {sl : Nat} {P : Option Value → zH → Prop} (R : zr) (x1 : Int32) (x2 : Int32) : ∀ (k : Nat) (s : zs) (x3 : Int32) (e : (Unit) ⊕ (Int32)), f_X2_firstProbedLike_2 k s x1 x2 x3 = some e → (∀ x9, e = Sum.inl x9 → AV G M_X2_firstProbedLike 2 sl P 41 [none, some (.int x1), none, none] [] (zT s R)) → (∀ v9, e = Sum.inr v9 → P (some (.int v9)) (zT s R)) → AV G M_X2_firstProbedLike 2 sl P 2 [some (.ref 76), some (.int x1), some (.int x2), some (.int x3)] [] (zT s R) := by
  intro k
  induction k with
  | zero =>
    intro s x3 e H
    unfold f_X2_firstProbedLike_2 at H
    cases H
  | succ k ih =>
    intro s x3 e H KE KR
    unfold f_X2_firstProbedLike_2 at H
    refine aw_iload_n (q := 3) dX2_firstProbedLike_2 rfl rfl ?_
    refine aw_iload_n (q := 4) dX2_firstProbedLike_3 rfl rfl ?_
    refine aw_icmp_ge (q := 7) (t := 41) dX2_firstProbedLike_4 rfl (by decide) (fun h1 => ?_) (fun h1 => ?_)
    · replace H := zt h1 H
      cases H
      exact aw_fewer (L' := [none, some (.int x1), none, none]) ⟨rfl, trivial⟩ (KE _ rfl)
    · replace H := zf h1 H
      refine aw_iload_n (q := 8) dX2_firstProbedLike_7 rfl rfl ?_
      refine aw_iload_n (q := 9) dX2_firstProbedLike_8 rfl rfl ?_
      refine aw_csN (M' := M_X6_hasBit) (as := [.int x2, .int x3]) (q := 12) dX2_firstProbedLike_9 rfl W_X6_hasBit (show (RX2, 36, yX6_hasBit) ∈ zNl by decide) s_X6_hasBit rfl rfl (by decide) (Nat.le_of_ble_eq_true rfl) (c_X6_hasBit (zT s R) x2 x3) (Nat.le_refl _) (Nat.le_refl _) ?_
      rintro r9 h9 ⟨rfl, rfl⟩
      refine aw_ifeqB (q := 15) (t := 35) dX2_firstProbedLike_12 rfl (by decide) (fun h2 => ?_) (fun h2 => ?_)
      · replace H := zt h2 H
        refine aw_aload_n (q := 16) dX2_firstProbedLike_15 rfl rfl ?_
        refine aw_getr (q := 19) dX2_firstProbedLike_16 rfl e_X2_11 (by decide) (o_X2 s R) rfl ?_
        refine aw_iload_n (q := 20) dX2_firstProbedLike_19 rfl rfl ?_
        obtain ⟨h3, H⟩ := zio H
        refine aw_aald (q := 21) (b := 87 + 3 * x1.toNatClampNeg) dX2_firstProbedLike_20 rfl (by decide) (Or.inr (Or.inl rfl)) (o_X2a1 s R) (zin_in h3) rfl ?_
        refine aw_aload_n (q := 22) dX2_firstProbedLike_21 rfl rfl ?_
        refine aw_getr (q := 25) dX2_firstProbedLike_22 rfl e_X2_11 (by decide) (o_X2 s R) rfl ?_
        refine aw_iload_n (q := 26) dX2_firstProbedLike_25 rfl rfl ?_
        obtain ⟨h4, H⟩ := zio H
        refine aw_aald (q := 27) (b := 87 + 3 * x3.toNatClampNeg) dX2_firstProbedLike_26 rfl (by decide) (Or.inr (Or.inl rfl)) (o_X2a1 s R) (zin_in h4) rfl ?_
        obtain ⟨v5, hv5, H⟩ := zbd H
        refine aw_cv (M' := M_X5_sameOutcome) (as := [.ref (87 + 3 * x3.toNatClampNeg)]) (q := 30) dX2_firstProbedLike_27 rfl W_X5_sameOutcome k_X2_44 i_X5_sameOutcome v_X5_sameOutcome (zU_lt (k := 0) (zU_of h3) (by decide)) (o_X5 (zU_of h3) s R) rfl rfl rfl (by decide) (Nat.le_of_ble_eq_true rfl) (c_X5_sameOutcome s R (zU_of h3) (zU_of h4) hv5) (Nat.le_refl _) (Nat.le_refl _) ?_
        rintro r9 h9 ⟨rfl, rfl⟩
        refine aw_ifeqB (q := 33) (t := 35) dX2_firstProbedLike_30 rfl (by decide) (fun h6 => ?_) (fun h6 => ?_)
        · replace H := zt h6 H
          refine aw_iload_n (q := 34) dX2_firstProbedLike_33 rfl rfl ?_
          cases H
          exact aw_ret dX2_firstProbedLike_34 rfl rfl rfl rfl (KR _ rfl)
        · replace H := zf h6 H
          refine aw_iinc (q := 38) (v := x3 + 1) (L' := [some (.ref 76), some (.int x1), some (.int x2), some (.int (x3 + 1))]) dX2_firstProbedLike_35 rfl rfl (by first | rfl | decide) (by decide) rfl rfl ?_
          refine aw_goto (q := 2) dX2_firstProbedLike_38 (by decide) ?_
          exact aw_fewer (L' := [some (.ref 76), some (.int x1), some (.int x2), some (.int (x3 + 1))]) ⟨rfl, ⟨rfl, ⟨rfl, ⟨rfl, trivial⟩⟩⟩⟩ (ih s (x3 + 1) _ H KE KR)
      · replace H := zf h2 H
        refine aw_iinc (q := 38) (v := x3 + 1) (L' := [some (.ref 76), some (.int x1), some (.int x2), some (.int (x3 + 1))]) dX2_firstProbedLike_35 rfl rfl (by first | rfl | decide) (by decide) rfl rfl ?_
        refine aw_goto (q := 2) dX2_firstProbedLike_38 (by decide) ?_
        exact aw_fewer (L' := [some (.ref 76), some (.int x1), some (.int x2), some (.int (x3 + 1))]) ⟨rfl, ⟨rfl, ⟨rfl, ⟨rfl, trivial⟩⟩⟩⟩ (ih s (x3 + 1) _ H KE KR)
def f_X2_firstProbedLike (s : zs) (x1 : Int32) (x2 : Int32) : Option Int32 :=
  Option.bind (f_X2_firstProbedLike_2 zFu s x1 x2 0) fun e1 => match e1 with
  | Sum.inr r2 => some r2
  | Sum.inl e1i =>
  some x1
set_option maxHeartbeats 4000000 in
set_option maxRecDepth 100000 in
theorem c_X2_firstProbedLike {G : zG} {sl : Nat} (s : zs) (R : zr) (x1 : Int32) (x2 : Int32) {v9 : Int32} (H : f_X2_firstProbedLike s x1 x2 = some v9) : zMv G 2 M_X2_firstProbedLike [.ref 76, .int x1, .int x2] sl (zT s R) (fun r h' => r = some (.int v9) ∧ h' = (zT s R)) := by
  unfold f_X2_firstProbedLike at H
  refine zMv_of (L := [some (.ref 76), some (.int x1), some (.int x2), none]) (by decide) rfl (Nat.le_of_ble_eq_true rfl) rfl ?_
  refine aw_iconst (q := 1) (v := 0) dX2_firstProbedLike_0 rfl (by decide) ?_
  refine aw_istore_n (q := 2) (L' := [some (.ref 76), some (.int x1), some (.int x2), some (.int 0)]) dX2_firstProbedLike_1 rfl (by decide) rfl rfl ?_
  obtain ⟨e1, he1, H⟩ := zbd H
  refine aw_fewer (L' := [some (.ref 76), some (.int x1), some (.int x2), some (.int 0)]) ⟨rfl, ⟨rfl, ⟨rfl, ⟨rfl, trivial⟩⟩⟩⟩ ?_
  refine L_X2_firstProbedLike_2 R x1 x2 zFu s 0 e1 he1 (fun e1i h9 => ?_) (fun r2 h9 => ?_)
  · subst h9
    replace H : _ = _ := H
    refine aw_iload_n (q := 42) dX2_firstProbedLike_41 rfl rfl ?_
    cases H
    exact aw_ret dX2_firstProbedLike_42 rfl rfl rfl rfl ⟨rfl, rfl⟩
  · subst h9
    cases H
    exact ⟨rfl, rfl⟩
def f_X2_measureWeek_36 : Nat → zs → Int32 → Int32 → Int32 → Option (zs)
  | 0, _, _, _, _ => none
  | k + 1, s, x1, x2, x3 =>
    if (11 : Int32) ≤ x3 then (
      some s
    ) else (
      if zin x2 7 = true then
      if f_X6_hasBit x1 x3 = true then (
        Option.bind (f_X2_firstProbedLike s x3 x1) fun v4 =>
        if zin x3 11 = true then
        zlt (zc s (79 + x2.toNatClampNeg) x3.toNatClampNeg v4) fun s6 =>
        f_X2_measureWeek_36 k s6 x1 x2 (x3 + 1)
        else none
      ) else (
        if zin x3 11 = true then
        zlt (zc s (79 + x2.toNatClampNeg) x3.toNatClampNeg (-1)) fun s9 =>
        f_X2_measureWeek_36 k s9 x1 x2 (x3 + 1)
        else none
      )
      else none
    )
set_option maxHeartbeats 4000000 in
set_option maxRecDepth 100000 in
theorem L_X2_measureWeek_36 {G : zG} {sl : Nat} {P : Option Value → zH → Prop} (R : zr) (x1 : Int32) (x2 : Int32) : ∀ (k : Nat) (s : zs) (x3 : Int32) (e : zs), f_X2_measureWeek_36 k s x1 x2 x3 = some e → (AV G M_X2_measureWeek 5 sl P 74 [some (.ref 76), some (.int x1), some (.int x2), none] [] (zT e R)) → AV G M_X2_measureWeek 5 sl P 36 [some (.ref 76), some (.int x1), some (.int x2), some (.int x3)] [] (zT s R) := by
  intro k
  induction k with
  | zero =>
    intro s x3 e H
    unfold f_X2_measureWeek_36 at H
    cases H
  | succ k ih =>
    intro s x3 e H KE
    unfold f_X2_measureWeek_36 at H
    refine aw_iload_n (q := 37) dX2_measureWeek_36 rfl rfl ?_
    refine aw_bipush (q := 39) (v := 11) dX2_measureWeek_37 rfl (by decide) ?_
    refine aw_icmp_ge (q := 42) (t := 74) dX2_measureWeek_39 rfl (by decide) (fun h1 => ?_) (fun h1 => ?_)
    · replace H := zt h1 H
      cases H
      exact aw_fewer (L' := [some (.ref 76), some (.int x1), some (.int x2), none]) ⟨rfl, ⟨rfl, ⟨rfl, trivial⟩⟩⟩ KE
    · replace H := zf h1 H
      refine aw_aload_n (q := 43) dX2_measureWeek_42 rfl rfl ?_
      refine aw_getr (q := 46) dX2_measureWeek_43 rfl e_X2_19 (by decide) (o_X2 s R) rfl ?_
      refine aw_iload_n (q := 47) dX2_measureWeek_46 rfl rfl ?_
      obtain ⟨h2, H⟩ := zio H
      refine aw_aald (q := 48) (b := 79 + x2.toNatClampNeg) dX2_measureWeek_47 rfl (by decide) (Or.inr (Or.inr rfl)) (o_X2a2 s R) (zin_in h2) rfl ?_
      refine aw_iload_n (q := 49) dX2_measureWeek_48 rfl rfl ?_
      refine aw_iload_n (q := 50) dX2_measureWeek_49 rfl rfl ?_
      refine aw_iload_n (q := 51) dX2_measureWeek_50 rfl rfl ?_
      refine aw_csN (M' := M_X6_hasBit) (as := [.int x1, .int x3]) (q := 54) dX2_measureWeek_51 rfl W_X6_hasBit (show (RX2, 36, yX6_hasBit) ∈ zNl by decide) s_X6_hasBit rfl rfl (by decide) (Nat.le_of_ble_eq_true rfl) (c_X6_hasBit (zT s R) x1 x3) (Nat.le_refl _) (Nat.le_refl _) ?_
      rintro r9 h9 ⟨rfl, rfl⟩
      refine aw_ifeqB (q := 57) (t := 66) dX2_measureWeek_54 rfl (by decide) (fun h3 => ?_) (fun h3 => ?_)
      · replace H := zt h3 H
        refine aw_aload_n (q := 58) dX2_measureWeek_57 rfl rfl ?_
        refine aw_iload_n (q := 59) dX2_measureWeek_58 rfl rfl ?_
        refine aw_iload_n (q := 60) dX2_measureWeek_59 rfl rfl ?_
        obtain ⟨v4, hv4, H⟩ := zbd H
        refine aw_cv (M' := M_X2_firstProbedLike) (as := [.int x3, .int x1]) (q := 63) dX2_measureWeek_60 rfl W_X2_firstProbedLike k_X2_69 i_X2_firstProbedLike v_X2_firstProbedLike (by decide) (o_X2 s R) rfl rfl rfl (by decide) (Nat.le_of_ble_eq_true rfl) (c_X2_firstProbedLike s R x3 x1 hv4) (Nat.le_refl _) (Nat.le_refl _) ?_
        rintro r9 h9 ⟨rfl, rfl⟩
        refine aw_goto (q := 67) dX2_measureWeek_63 (by decide) ?_
        obtain ⟨h5, H⟩ := zio H
        obtain ⟨s6, q7, H⟩ := zltd H
        refine aw_iast (q := 68) dX2_measureWeek_67 rfl (by have z9 := (zin_lt h2); omega) (o_row (zin_lt h2) s R) (zin_in h5) ((p_row (zin_lt h2)).trans (congrArg (fun z => zT z R) q7.symm)) ?_
        refine aw_iinc (q := 71) (v := x3 + 1) (L' := [some (.ref 76), some (.int x1), some (.int x2), some (.int (x3 + 1))]) dX2_measureWeek_68 rfl rfl (by first | rfl | decide) (by decide) rfl rfl ?_
        refine aw_goto (q := 36) dX2_measureWeek_71 (by decide) ?_
        exact aw_fewer (L' := [some (.ref 76), some (.int x1), some (.int x2), some (.int (x3 + 1))]) ⟨rfl, ⟨rfl, ⟨rfl, ⟨rfl, trivial⟩⟩⟩⟩ (ih s6 (x3 + 1) _ H KE)
      · replace H := zf h3 H
        refine aw_iconst (q := 67) (v := (-1)) dX2_measureWeek_66 rfl (by decide) ?_
        obtain ⟨h8, H⟩ := zio H
        obtain ⟨s9, q10, H⟩ := zltd H
        refine aw_iast (q := 68) dX2_measureWeek_67 rfl (by have z9 := (zin_lt h2); omega) (o_row (zin_lt h2) s R) (zin_in h8) ((p_row (zin_lt h2)).trans (congrArg (fun z => zT z R) q10.symm)) ?_
        refine aw_iinc (q := 71) (v := x3 + 1) (L' := [some (.ref 76), some (.int x1), some (.int x2), some (.int (x3 + 1))]) dX2_measureWeek_68 rfl rfl (by first | rfl | decide) (by decide) rfl rfl ?_
        refine aw_goto (q := 36) dX2_measureWeek_71 (by decide) ?_
        exact aw_fewer (L' := [some (.ref 76), some (.int x1), some (.int x2), some (.int (x3 + 1))]) ⟨rfl, ⟨rfl, ⟨rfl, ⟨rfl, trivial⟩⟩⟩⟩ (ih s9 (x3 + 1) _ H KE)
def f_X2_measureWeek_15 : Nat → zs → Int32 → Int32 → Option (zs)
  | 0, _, _, _ => none
  | k + 1, s, x1, x2 =>
    if (7 : Int32) ≤ x2 then (
      some s
    ) else (
      Option.bind (f_X0_blessedOn s 64 x2) fun v2 =>
      Option.bind (f_X2_probeAll s x1 v2) fun v3 =>
      Option.bind (f_X2_measureWeek_36 zFu v3 x1 x2 0) fun e4 =>
      f_X2_measureWeek_15 k e4 x1 (x2 + 1)
    )
set_option maxHeartbeats 4000000 in
set_option maxRecDepth 100000 in
theorem L_X2_measureWeek_15 {G : zG} {sl : Nat} {P : Option Value → zH → Prop} (R : zr) (x1 : Int32) : ∀ (k : Nat) (s : zs) (x2 : Int32) (e : zs), f_X2_measureWeek_15 k s x1 x2 = some e → (AV G M_X2_measureWeek 5 sl P 80 [none, none, none, none] [] (zT e R)) → AV G M_X2_measureWeek 5 sl P 15 [some (.ref 76), some (.int x1), some (.int x2), none] [] (zT s R) := by
  intro k
  induction k with
  | zero =>
    intro s x2 e H
    unfold f_X2_measureWeek_15 at H
    cases H
  | succ k ih =>
    intro s x2 e H KE
    unfold f_X2_measureWeek_15 at H
    refine aw_iload_n (q := 16) dX2_measureWeek_15 rfl rfl ?_
    refine aw_bipush (q := 18) (v := 7) dX2_measureWeek_16 rfl (by decide) ?_
    refine aw_icmp_ge (q := 21) (t := 80) dX2_measureWeek_18 rfl (by decide) (fun h1 => ?_) (fun h1 => ?_)
    · replace H := zt h1 H
      cases H
      exact aw_fewer (L' := [none, none, none, none]) trivial KE
    · replace H := zf h1 H
      refine aw_aload_n (q := 22) dX2_measureWeek_21 rfl rfl ?_
      refine aw_iload_n (q := 23) dX2_measureWeek_22 rfl rfl ?_
      refine aw_aload_n (q := 24) dX2_measureWeek_23 rfl rfl ?_
      refine aw_getr (q := 27) dX2_measureWeek_24 rfl e_X2_26 (by decide) (o_X2 s R) rfl ?_
      refine aw_iload_n (q := 28) dX2_measureWeek_27 rfl rfl ?_
      obtain ⟨v2, hv2, H⟩ := zbd H
      refine aw_cv (M' := M_X0_blessedOn) (as := [.int x2]) (q := 31) dX2_measureWeek_28 rfl W_X0_blessedOn k_X2_65 i_X0_blessedOn v_X0_blessedOn (zB_lt0 zB64) (o_X0 zB64 s R) rfl rfl rfl (by decide) (Nat.le_of_ble_eq_true rfl) (c_X0_blessedOn s R zB64 x2 hv2) (Nat.le_refl _) (Nat.le_refl _) ?_
      rintro r9 h9 ⟨rfl, rfl⟩
      obtain ⟨v3, hv3, H⟩ := zbd H
      refine aw_cv (M' := M_X2_probeAll) (as := [.int x1, .int v2]) (q := 34) dX2_measureWeek_31 rfl W_X2_probeAll k_X2_51 i_X2_probeAll v_X2_probeAll (by decide) (o_X2 s R) rfl rfl rfl (by decide) (Nat.le_of_ble_eq_true rfl) (c_X2_probeAll s R x1 v2 hv3) (Nat.le_refl _) (Nat.le_refl _) ?_
      rintro r9 h9 ⟨rfl, rfl⟩
      refine aw_iconst (q := 35) (v := 0) dX2_measureWeek_34 rfl (by decide) ?_
      refine aw_istore_n (q := 36) (L' := [some (.ref 76), some (.int x1), some (.int x2), some (.int 0)]) dX2_measureWeek_35 rfl (by decide) rfl rfl ?_
      obtain ⟨e4, he4, H⟩ := zbd H
      refine aw_fewer (L' := [some (.ref 76), some (.int x1), some (.int x2), some (.int 0)]) ⟨rfl, ⟨rfl, ⟨rfl, ⟨rfl, trivial⟩⟩⟩⟩ ?_
      refine L_X2_measureWeek_36 R x1 x2 zFu v3 0 e4 he4 ?_
      refine aw_iinc (q := 77) (v := x2 + 1) (L' := [some (.ref 76), some (.int x1), some (.int (x2 + 1)), none]) dX2_measureWeek_74 rfl rfl (by first | rfl | decide) (by decide) rfl rfl ?_
      refine aw_goto (q := 15) dX2_measureWeek_77 (by decide) ?_
      exact aw_fewer (L' := [some (.ref 76), some (.int x1), some (.int (x2 + 1)), none]) ⟨rfl, ⟨rfl, ⟨rfl, trivial⟩⟩⟩ (ih e4 (x2 + 1) _ H KE)
def f_X2_measureWeek (s : zs) : Option zs :=
  zlt (f_X0_allSuspects s 64 : Int32) fun y1 =>
  Option.bind (f_X2_supposeAll s y1) fun v3 =>
  Option.bind (f_X2_measureWeek_15 zFu v3 y1 0) fun e4 =>
  some e4
set_option maxHeartbeats 4000000 in
set_option maxRecDepth 100000 in
theorem c_X2_measureWeek {G : zG} {sl : Nat} (s : zs) (R : zr)  {v9 : zs} (H : f_X2_measureWeek s = some v9) : zMv G 5 M_X2_measureWeek [.ref 76] sl (zT s R) (fun r h' => r = none ∧ h' = zT v9 R) := by
  unfold f_X2_measureWeek at H
  refine zMv_of (L := [some (.ref 76), none, none, none]) (by decide) rfl (Nat.le_of_ble_eq_true rfl) rfl ?_
  refine aw_aload_n (q := 1) dX2_measureWeek_0 rfl rfl ?_
  refine aw_getr (q := 4) dX2_measureWeek_1 rfl e_X2_26 (by decide) (o_X2 s R) rfl ?_
  refine aw_cv (M' := M_X0_allSuspects) (as := []) (q := 7) dX2_measureWeek_4 rfl W_X0_allSuspects k_X2_59 i_X0_allSuspects v_X0_allSuspects (zB_lt0 zB64) (o_X0 zB64 s R) rfl rfl rfl (by decide) (Nat.le_of_ble_eq_true rfl) (c_X0_allSuspects s R zB64) (Nat.le_refl _) (Nat.le_refl _) ?_
  rintro r9 h9 ⟨rfl, rfl⟩
  obtain ⟨y1, q2, H⟩ := zltd H
  refine aw_nm q2 ?_
  refine aw_istore_n (q := 8) (L' := [some (.ref 76), some (.int y1), none, none]) dX2_measureWeek_7 rfl (by decide) rfl rfl ?_
  refine aw_aload_n (q := 9) dX2_measureWeek_8 rfl rfl ?_
  refine aw_iload_n (q := 10) dX2_measureWeek_9 rfl rfl ?_
  obtain ⟨v3, hv3, H⟩ := zbd H
  refine aw_cv (M' := M_X2_supposeAll) (as := [.int y1]) (q := 13) dX2_measureWeek_10 rfl W_X2_supposeAll k_X2_48 i_X2_supposeAll v_X2_supposeAll (by decide) (o_X2 s R) rfl rfl rfl (by decide) (Nat.le_of_ble_eq_true rfl) (c_X2_supposeAll s R y1 hv3) (Nat.le_refl _) (Nat.le_refl _) ?_
  rintro r9 h9 ⟨rfl, rfl⟩
  refine aw_iconst (q := 14) (v := 0) dX2_measureWeek_13 rfl (by decide) ?_
  refine aw_istore_n (q := 15) (L' := [some (.ref 76), some (.int y1), some (.int 0), none]) dX2_measureWeek_14 rfl (by decide) rfl rfl ?_
  obtain ⟨e4, he4, H⟩ := zbd H
  refine aw_fewer (L' := [some (.ref 76), some (.int y1), some (.int 0), none]) ⟨rfl, ⟨rfl, ⟨rfl, trivial⟩⟩⟩ ?_
  refine L_X2_measureWeek_15 R y1 zFu v3 0 e4 he4 ?_
  cases H
  exact aw_vret dX2_measureWeek_80 rfl rfl rfl ⟨rfl, rfl⟩
def f_X2_daysAlike_5 : Nat → zs → Int32 → Int32 → Int32 → Int32 → Option (Int32)
  | 0, _, _, _, _, _ => none
  | k + 1, s, x1, x2, x3, x4 =>
    if (7 : Int32) ≤ x4 then (
      some x3
    ) else (
      if zin x4 7 = true then
      if zin x1 11 = true then
      if zin x2 11 = true then
      if (s.1 (79 + x4.toNatClampNeg) x1.toNatClampNeg) = (s.1 (79 + x4.toNatClampNeg) x2.toNatClampNeg) then (
        zlt (x3 ||| ((1 : Int32) <<< (x4 &&& 31)) : Int32) fun y6 =>
        f_X2_daysAlike_5 k s x1 x2 y6 (x4 + 1)
      ) else (
        f_X2_daysAlike_5 k s x1 x2 x3 (x4 + 1)
      )
      else none
      else none
      else none
    )
set_option maxHeartbeats 4000000 in
set_option maxRecDepth 100000 in
theorem L_X2_daysAlike_5 {G : zG} {sl : Nat} {P : Option Value → zH → Prop} (R : zr) (x1 : Int32) (x2 : Int32) : ∀ (k : Nat) (s : zs) (x3 : Int32) (x4 : Int32) (e : Int32), f_X2_daysAlike_5 k s x1 x2 x3 x4 = some e → (AV G M_X2_daysAlike 0 sl P 46 [none, none, none, some (.int e), none] [] (zT s R)) → AV G M_X2_daysAlike 0 sl P 5 [some (.ref 76), some (.int x1), some (.int x2), some (.int x3), some (.int x4)] [] (zT s R) := by
  intro k
  induction k with
  | zero =>
    intro s x3 x4 e H
    unfold f_X2_daysAlike_5 at H
    cases H
  | succ k ih =>
    intro s x3 x4 e H KE
    unfold f_X2_daysAlike_5 at H
    refine aw_iload (q := 7) dX2_daysAlike_5 rfl rfl ?_
    refine aw_bipush (q := 9) (v := 7) dX2_daysAlike_7 rfl (by decide) ?_
    refine aw_icmp_ge (q := 12) (t := 46) dX2_daysAlike_9 rfl (by decide) (fun h1 => ?_) (fun h1 => ?_)
    · replace H := zt h1 H
      cases H
      exact aw_fewer (L' := [none, none, none, some (.int x3), none]) ⟨rfl, trivial⟩ KE
    · replace H := zf h1 H
      refine aw_aload_n (q := 13) dX2_daysAlike_12 rfl rfl ?_
      refine aw_getr (q := 16) dX2_daysAlike_13 rfl e_X2_19 (by decide) (o_X2 s R) rfl ?_
      refine aw_iload (q := 18) dX2_daysAlike_16 rfl rfl ?_
      obtain ⟨h2, H⟩ := zio H
      refine aw_aald (q := 19) (b := 79 + x4.toNatClampNeg) dX2_daysAlike_18 rfl (by decide) (Or.inr (Or.inr rfl)) (o_X2a2 s R) (zin_in h2) rfl ?_
      refine aw_iload_n (q := 20) dX2_daysAlike_19 rfl rfl ?_
      obtain ⟨h3, H⟩ := zio H
      refine aw_iald' (q := 21) (v := s.1 (79 + x4.toNatClampNeg) x1.toNatClampNeg) dX2_daysAlike_20 rfl (by have z9 := (zin_lt h2); omega) (o_row (zin_lt h2) s R) (zin_in h3) rfl ?_
      refine aw_aload_n (q := 22) dX2_daysAlike_21 rfl rfl ?_
      refine aw_getr (q := 25) dX2_daysAlike_22 rfl e_X2_19 (by decide) (o_X2 s R) rfl ?_
      refine aw_iload (q := 27) dX2_daysAlike_25 rfl rfl ?_
      refine aw_aald (q := 28) (b := 79 + x4.toNatClampNeg) dX2_daysAlike_27 rfl (by decide) (Or.inr (Or.inr rfl)) (o_X2a2 s R) (zin_in h2) rfl ?_
      refine aw_iload_n (q := 29) dX2_daysAlike_28 rfl rfl ?_
      obtain ⟨h4, H⟩ := zio H
      refine aw_iald' (q := 30) (v := s.1 (79 + x4.toNatClampNeg) x2.toNatClampNeg) dX2_daysAlike_29 rfl (by have z9 := (zin_lt h2); omega) (o_row (zin_lt h2) s R) (zin_in h4) rfl ?_
      refine aw_icmp_neP (q := 33) (t := 40) dX2_daysAlike_30 rfl (by decide) (fun h5 => ?_) (fun h5 => ?_)
      · replace H := zt h5 H
        refine aw_iload_n (q := 34) dX2_daysAlike_33 rfl rfl ?_
        refine aw_iconst (q := 35) (v := 1) dX2_daysAlike_34 rfl (by decide) ?_
        refine aw_iload (q := 37) dX2_daysAlike_35 rfl rfl ?_
        refine aw_ishl (q := 38) dX2_daysAlike_37 rfl ?_
        refine aw_ior (q := 39) dX2_daysAlike_38 rfl ?_
        obtain ⟨y6, q7, H⟩ := zltd H
        refine aw_nm q7 ?_
        refine aw_istore_n (q := 40) (L' := [some (.ref 76), some (.int x1), some (.int x2), some (.int y6), some (.int x4)]) dX2_daysAlike_39 rfl (by decide) rfl rfl ?_
        refine aw_iinc (q := 43) (v := x4 + 1) (L' := [some (.ref 76), some (.int x1), some (.int x2), some (.int y6), some (.int (x4 + 1))]) dX2_daysAlike_40 rfl rfl (by first | rfl | decide) (by decide) rfl rfl ?_
        refine aw_goto (q := 5) dX2_daysAlike_43 (by decide) ?_
        exact aw_fewer (L' := [some (.ref 76), some (.int x1), some (.int x2), some (.int y6), some (.int (x4 + 1))]) ⟨rfl, ⟨rfl, ⟨rfl, ⟨rfl, ⟨rfl, trivial⟩⟩⟩⟩⟩ (ih s y6 (x4 + 1) _ H KE)
      · replace H := zf h5 H
        refine aw_iinc (q := 43) (v := x4 + 1) (L' := [some (.ref 76), some (.int x1), some (.int x2), some (.int x3), some (.int (x4 + 1))]) dX2_daysAlike_40 rfl rfl (by first | rfl | decide) (by decide) rfl rfl ?_
        refine aw_goto (q := 5) dX2_daysAlike_43 (by decide) ?_
        exact aw_fewer (L' := [some (.ref 76), some (.int x1), some (.int x2), some (.int x3), some (.int (x4 + 1))]) ⟨rfl, ⟨rfl, ⟨rfl, ⟨rfl, ⟨rfl, trivial⟩⟩⟩⟩⟩ (ih s x3 (x4 + 1) _ H KE)
def f_X2_daysAlike (s : zs) (x1 : Int32) (x2 : Int32) : Option Int32 :=
  Option.bind (f_X2_daysAlike_5 zFu s x1 x2 0 0) fun e1 =>
  some e1
set_option maxHeartbeats 4000000 in
set_option maxRecDepth 100000 in
theorem c_X2_daysAlike {G : zG} {sl : Nat} (s : zs) (R : zr) (x1 : Int32) (x2 : Int32) {v9 : Int32} (H : f_X2_daysAlike s x1 x2 = some v9) : zMv G 0 M_X2_daysAlike [.ref 76, .int x1, .int x2] sl (zT s R) (fun r h' => r = some (.int v9) ∧ h' = (zT s R)) := by
  unfold f_X2_daysAlike at H
  refine zMv_of (L := [some (.ref 76), some (.int x1), some (.int x2), none, none]) (by decide) rfl (Nat.le_of_ble_eq_true rfl) rfl ?_
  refine aw_iconst (q := 1) (v := 0) dX2_daysAlike_0 rfl (by decide) ?_
  refine aw_istore_n (q := 2) (L' := [some (.ref 76), some (.int x1), some (.int x2), some (.int 0), none]) dX2_daysAlike_1 rfl (by decide) rfl rfl ?_
  refine aw_iconst (q := 3) (v := 0) dX2_daysAlike_2 rfl (by decide) ?_
  refine aw_istore (q := 5) (L' := [some (.ref 76), some (.int x1), some (.int x2), some (.int 0), some (.int 0)]) dX2_daysAlike_3 rfl (by decide) rfl rfl ?_
  obtain ⟨e1, he1, H⟩ := zbd H
  refine aw_fewer (L' := [some (.ref 76), some (.int x1), some (.int x2), some (.int 0), some (.int 0)]) ⟨rfl, ⟨rfl, ⟨rfl, ⟨rfl, ⟨rfl, trivial⟩⟩⟩⟩⟩ ?_
  refine L_X2_daysAlike_5 R x1 x2 zFu s 0 0 e1 he1 ?_
  refine aw_iload_n (q := 47) dX2_daysAlike_46 rfl rfl ?_
  cases H
  exact aw_ret dX2_daysAlike_47 rfl rfl rfl rfl ⟨rfl, rfl⟩
def f_X2_daysUnlike (s : zs) (x1 : Int32) (x2 : Int32) : Option Int32 :=
  Option.bind (f_X2_daysAlike s x1 x2) fun v1 =>
  some ((127 : Int32) &&& (v1 ^^^ (-1)))
set_option maxHeartbeats 4000000 in
set_option maxRecDepth 100000 in
theorem c_X2_daysUnlike {G : zG} {sl : Nat} (s : zs) (R : zr) (x1 : Int32) (x2 : Int32) {v9 : Int32} (H : f_X2_daysUnlike s x1 x2 = some v9) : zMv G 1 M_X2_daysUnlike [.ref 76, .int x1, .int x2] sl (zT s R) (fun r h' => r = some (.int v9) ∧ h' = (zT s R)) := by
  unfold f_X2_daysUnlike at H
  refine zMv_of (L := [some (.ref 76), some (.int x1), some (.int x2)]) (by decide) rfl (Nat.le_of_ble_eq_true rfl) rfl ?_
  refine aw_bipush (q := 2) (v := 127) dX2_daysUnlike_0 rfl (by decide) ?_
  refine aw_aload_n (q := 3) dX2_daysUnlike_2 rfl rfl ?_
  refine aw_iload_n (q := 4) dX2_daysUnlike_3 rfl rfl ?_
  refine aw_iload_n (q := 5) dX2_daysUnlike_4 rfl rfl ?_
  obtain ⟨v1, hv1, H⟩ := zbd H
  refine aw_cv (M' := M_X2_daysAlike) (as := [.int x1, .int x2]) (q := 8) dX2_daysUnlike_5 rfl W_X2_daysAlike k_X2_72 i_X2_daysAlike v_X2_daysAlike (by decide) (o_X2 s R) rfl rfl rfl (by decide) (Nat.le_of_ble_eq_true rfl) (c_X2_daysAlike s R x1 x2 hv1) (Nat.le_refl _) (Nat.le_refl _) ?_
  rintro r9 h9 ⟨rfl, rfl⟩
  refine aw_iconst (q := 9) (v := (-1)) dX2_daysUnlike_8 rfl (by decide) ?_
  refine aw_ixor (q := 10) dX2_daysUnlike_9 rfl ?_
  refine aw_iand (q := 11) dX2_daysUnlike_10 rfl ?_
  cases H
  exact aw_ret dX2_daysUnlike_11 rfl rfl rfl rfl ⟨rfl, rfl⟩
def f_X2_suspectsLike_5 : Nat → zs → Int32 → Int32 → Int32 → Int32 → Option (Int32)
  | 0, _, _, _, _, _ => none
  | k + 1, s, x1, x2, x3, x4 =>
    if (11 : Int32) ≤ x4 then (
      some x3
    ) else (
      if zin x1 7 = true then
      if zin x4 11 = true then
      if zin x2 11 = true then
      if (s.1 (79 + x1.toNatClampNeg) x4.toNatClampNeg) = (s.1 (79 + x1.toNatClampNeg) x2.toNatClampNeg) then (
        zlt (x3 ||| ((1 : Int32) <<< (x4 &&& 31)) : Int32) fun y6 =>
        f_X2_suspectsLike_5 k s x1 x2 y6 (x4 + 1)
      ) else (
        f_X2_suspectsLike_5 k s x1 x2 x3 (x4 + 1)
      )
      else none
      else none
      else none
    )
set_option maxHeartbeats 4000000 in
set_option maxRecDepth 100000 in
theorem L_X2_suspectsLike_5 {G : zG} {sl : Nat} {P : Option Value → zH → Prop} (R : zr) (x1 : Int32) (x2 : Int32) : ∀ (k : Nat) (s : zs) (x3 : Int32) (x4 : Int32) (e : Int32), f_X2_suspectsLike_5 k s x1 x2 x3 x4 = some e → (AV G M_X2_suspectsLike 0 sl P 45 [none, none, none, some (.int e), none] [] (zT s R)) → AV G M_X2_suspectsLike 0 sl P 5 [some (.ref 76), some (.int x1), some (.int x2), some (.int x3), some (.int x4)] [] (zT s R) := by
  intro k
  induction k with
  | zero =>
    intro s x3 x4 e H
    unfold f_X2_suspectsLike_5 at H
    cases H
  | succ k ih =>
    intro s x3 x4 e H KE
    unfold f_X2_suspectsLike_5 at H
    refine aw_iload (q := 7) dX2_suspectsLike_5 rfl rfl ?_
    refine aw_bipush (q := 9) (v := 11) dX2_suspectsLike_7 rfl (by decide) ?_
    refine aw_icmp_ge (q := 12) (t := 45) dX2_suspectsLike_9 rfl (by decide) (fun h1 => ?_) (fun h1 => ?_)
    · replace H := zt h1 H
      cases H
      exact aw_fewer (L' := [none, none, none, some (.int x3), none]) ⟨rfl, trivial⟩ KE
    · replace H := zf h1 H
      refine aw_aload_n (q := 13) dX2_suspectsLike_12 rfl rfl ?_
      refine aw_getr (q := 16) dX2_suspectsLike_13 rfl e_X2_19 (by decide) (o_X2 s R) rfl ?_
      refine aw_iload_n (q := 17) dX2_suspectsLike_16 rfl rfl ?_
      obtain ⟨h2, H⟩ := zio H
      refine aw_aald (q := 18) (b := 79 + x1.toNatClampNeg) dX2_suspectsLike_17 rfl (by decide) (Or.inr (Or.inr rfl)) (o_X2a2 s R) (zin_in h2) rfl ?_
      refine aw_iload (q := 20) dX2_suspectsLike_18 rfl rfl ?_
      obtain ⟨h3, H⟩ := zio H
      refine aw_iald' (q := 21) (v := s.1 (79 + x1.toNatClampNeg) x4.toNatClampNeg) dX2_suspectsLike_20 rfl (by have z9 := (zin_lt h2); omega) (o_row (zin_lt h2) s R) (zin_in h3) rfl ?_
      refine aw_aload_n (q := 22) dX2_suspectsLike_21 rfl rfl ?_
      refine aw_getr (q := 25) dX2_suspectsLike_22 rfl e_X2_19 (by decide) (o_X2 s R) rfl ?_
      refine aw_iload_n (q := 26) dX2_suspectsLike_25 rfl rfl ?_
      refine aw_aald (q := 27) (b := 79 + x1.toNatClampNeg) dX2_suspectsLike_26 rfl (by decide) (Or.inr (Or.inr rfl)) (o_X2a2 s R) (zin_in h2) rfl ?_
      refine aw_iload_n (q := 28) dX2_suspectsLike_27 rfl rfl ?_
      obtain ⟨h4, H⟩ := zio H
      refine aw_iald' (q := 29) (v := s.1 (79 + x1.toNatClampNeg) x2.toNatClampNeg) dX2_suspectsLike_28 rfl (by have z9 := (zin_lt h2); omega) (o_row (zin_lt h2) s R) (zin_in h4) rfl ?_
      refine aw_icmp_neP (q := 32) (t := 39) dX2_suspectsLike_29 rfl (by decide) (fun h5 => ?_) (fun h5 => ?_)
      · replace H := zt h5 H
        refine aw_iload_n (q := 33) dX2_suspectsLike_32 rfl rfl ?_
        refine aw_iconst (q := 34) (v := 1) dX2_suspectsLike_33 rfl (by decide) ?_
        refine aw_iload (q := 36) dX2_suspectsLike_34 rfl rfl ?_
        refine aw_ishl (q := 37) dX2_suspectsLike_36 rfl ?_
        refine aw_ior (q := 38) dX2_suspectsLike_37 rfl ?_
        obtain ⟨y6, q7, H⟩ := zltd H
        refine aw_nm q7 ?_
        refine aw_istore_n (q := 39) (L' := [some (.ref 76), some (.int x1), some (.int x2), some (.int y6), some (.int x4)]) dX2_suspectsLike_38 rfl (by decide) rfl rfl ?_
        refine aw_iinc (q := 42) (v := x4 + 1) (L' := [some (.ref 76), some (.int x1), some (.int x2), some (.int y6), some (.int (x4 + 1))]) dX2_suspectsLike_39 rfl rfl (by first | rfl | decide) (by decide) rfl rfl ?_
        refine aw_goto (q := 5) dX2_suspectsLike_42 (by decide) ?_
        exact aw_fewer (L' := [some (.ref 76), some (.int x1), some (.int x2), some (.int y6), some (.int (x4 + 1))]) ⟨rfl, ⟨rfl, ⟨rfl, ⟨rfl, ⟨rfl, trivial⟩⟩⟩⟩⟩ (ih s y6 (x4 + 1) _ H KE)
      · replace H := zf h5 H
        refine aw_iinc (q := 42) (v := x4 + 1) (L' := [some (.ref 76), some (.int x1), some (.int x2), some (.int x3), some (.int (x4 + 1))]) dX2_suspectsLike_39 rfl rfl (by first | rfl | decide) (by decide) rfl rfl ?_
        refine aw_goto (q := 5) dX2_suspectsLike_42 (by decide) ?_
        exact aw_fewer (L' := [some (.ref 76), some (.int x1), some (.int x2), some (.int x3), some (.int (x4 + 1))]) ⟨rfl, ⟨rfl, ⟨rfl, ⟨rfl, ⟨rfl, trivial⟩⟩⟩⟩⟩ (ih s x3 (x4 + 1) _ H KE)
def f_X2_suspectsLike (s : zs) (x1 : Int32) (x2 : Int32) : Option Int32 :=
  Option.bind (f_X2_suspectsLike_5 zFu s x1 x2 0 0) fun e1 =>
  some e1
set_option maxHeartbeats 4000000 in
set_option maxRecDepth 100000 in
theorem c_X2_suspectsLike {G : zG} {sl : Nat} (s : zs) (R : zr) (x1 : Int32) (x2 : Int32) {v9 : Int32} (H : f_X2_suspectsLike s x1 x2 = some v9) : zMv G 0 M_X2_suspectsLike [.ref 76, .int x1, .int x2] sl (zT s R) (fun r h' => r = some (.int v9) ∧ h' = (zT s R)) := by
  unfold f_X2_suspectsLike at H
  refine zMv_of (L := [some (.ref 76), some (.int x1), some (.int x2), none, none]) (by decide) rfl (Nat.le_of_ble_eq_true rfl) rfl ?_
  refine aw_iconst (q := 1) (v := 0) dX2_suspectsLike_0 rfl (by decide) ?_
  refine aw_istore_n (q := 2) (L' := [some (.ref 76), some (.int x1), some (.int x2), some (.int 0), none]) dX2_suspectsLike_1 rfl (by decide) rfl rfl ?_
  refine aw_iconst (q := 3) (v := 0) dX2_suspectsLike_2 rfl (by decide) ?_
  refine aw_istore (q := 5) (L' := [some (.ref 76), some (.int x1), some (.int x2), some (.int 0), some (.int 0)]) dX2_suspectsLike_3 rfl (by decide) rfl rfl ?_
  obtain ⟨e1, he1, H⟩ := zbd H
  refine aw_fewer (L' := [some (.ref 76), some (.int x1), some (.int x2), some (.int 0), some (.int 0)]) ⟨rfl, ⟨rfl, ⟨rfl, ⟨rfl, ⟨rfl, trivial⟩⟩⟩⟩⟩ ?_
  refine L_X2_suspectsLike_5 R x1 x2 zFu s 0 0 e1 he1 ?_
  refine aw_iload_n (q := 46) dX2_suspectsLike_45 rfl rfl ?_
  cases H
  exact aw_ret dX2_suspectsLike_46 rfl rfl rfl rfl ⟨rfl, rfl⟩
def f_X2_unlikeOutcomes_4 : Nat → zs → Int32 → Int32 → Int32 → Option (Int32)
  | 0, _, _, _, _ => none
  | k + 1, s, x1, x2, x3 =>
    if (11 : Int32) ≤ x3 then (
      some x2
    ) else (
      if zin x1 7 = true then
      if zin x3 11 = true then
      if (s.1 (79 + x1.toNatClampNeg) x3.toNatClampNeg) = x3 then (
        f_X2_unlikeOutcomes_4 k s x1 (x2 + 1) (x3 + 1)
      ) else (
        f_X2_unlikeOutcomes_4 k s x1 x2 (x3 + 1)
      )
      else none
      else none
    )
set_option maxHeartbeats 4000000 in
set_option maxRecDepth 100000 in
theorem L_X2_unlikeOutcomes_4 {G : zG} {sl : Nat} {P : Option Value → zH → Prop} (R : zr) (x1 : Int32) : ∀ (k : Nat) (s : zs) (x2 : Int32) (x3 : Int32) (e : Int32), f_X2_unlikeOutcomes_4 k s x1 x2 x3 = some e → (AV G M_X2_unlikeOutcomes 0 sl P 31 [none, none, some (.int e), none] [] (zT s R)) → AV G M_X2_unlikeOutcomes 0 sl P 4 [some (.ref 76), some (.int x1), some (.int x2), some (.int x3)] [] (zT s R) := by
  intro k
  induction k with
  | zero =>
    intro s x2 x3 e H
    unfold f_X2_unlikeOutcomes_4 at H
    cases H
  | succ k ih =>
    intro s x2 x3 e H KE
    unfold f_X2_unlikeOutcomes_4 at H
    refine aw_iload_n (q := 5) dX2_unlikeOutcomes_4 rfl rfl ?_
    refine aw_bipush (q := 7) (v := 11) dX2_unlikeOutcomes_5 rfl (by decide) ?_
    refine aw_icmp_ge (q := 10) (t := 31) dX2_unlikeOutcomes_7 rfl (by decide) (fun h1 => ?_) (fun h1 => ?_)
    · replace H := zt h1 H
      cases H
      exact aw_fewer (L' := [none, none, some (.int x2), none]) ⟨rfl, trivial⟩ KE
    · replace H := zf h1 H
      refine aw_aload_n (q := 11) dX2_unlikeOutcomes_10 rfl rfl ?_
      refine aw_getr (q := 14) dX2_unlikeOutcomes_11 rfl e_X2_19 (by decide) (o_X2 s R) rfl ?_
      refine aw_iload_n (q := 15) dX2_unlikeOutcomes_14 rfl rfl ?_
      obtain ⟨h2, H⟩ := zio H
      refine aw_aald (q := 16) (b := 79 + x1.toNatClampNeg) dX2_unlikeOutcomes_15 rfl (by decide) (Or.inr (Or.inr rfl)) (o_X2a2 s R) (zin_in h2) rfl ?_
      refine aw_iload_n (q := 17) dX2_unlikeOutcomes_16 rfl rfl ?_
      obtain ⟨h3, H⟩ := zio H
      refine aw_iald' (q := 18) (v := s.1 (79 + x1.toNatClampNeg) x3.toNatClampNeg) dX2_unlikeOutcomes_17 rfl (by have z9 := (zin_lt h2); omega) (o_row (zin_lt h2) s R) (zin_in h3) rfl ?_
      refine aw_iload_n (q := 19) dX2_unlikeOutcomes_18 rfl rfl ?_
      refine aw_icmp_neP (q := 22) (t := 25) dX2_unlikeOutcomes_19 rfl (by decide) (fun h4 => ?_) (fun h4 => ?_)
      · replace H := zt h4 H
        refine aw_iinc (q := 25) (v := x2 + 1) (L' := [some (.ref 76), some (.int x1), some (.int (x2 + 1)), some (.int x3)]) dX2_unlikeOutcomes_22 rfl rfl (by first | rfl | decide) (by decide) rfl rfl ?_
        refine aw_iinc (q := 28) (v := x3 + 1) (L' := [some (.ref 76), some (.int x1), some (.int (x2 + 1)), some (.int (x3 + 1))]) dX2_unlikeOutcomes_25 rfl rfl (by first | rfl | decide) (by decide) rfl rfl ?_
        refine aw_goto (q := 4) dX2_unlikeOutcomes_28 (by decide) ?_
        exact aw_fewer (L' := [some (.ref 76), some (.int x1), some (.int (x2 + 1)), some (.int (x3 + 1))]) ⟨rfl, ⟨rfl, ⟨rfl, ⟨rfl, trivial⟩⟩⟩⟩ (ih s (x2 + 1) (x3 + 1) _ H KE)
      · replace H := zf h4 H
        refine aw_iinc (q := 28) (v := x3 + 1) (L' := [some (.ref 76), some (.int x1), some (.int x2), some (.int (x3 + 1))]) dX2_unlikeOutcomes_25 rfl rfl (by first | rfl | decide) (by decide) rfl rfl ?_
        refine aw_goto (q := 4) dX2_unlikeOutcomes_28 (by decide) ?_
        exact aw_fewer (L' := [some (.ref 76), some (.int x1), some (.int x2), some (.int (x3 + 1))]) ⟨rfl, ⟨rfl, ⟨rfl, ⟨rfl, trivial⟩⟩⟩⟩ (ih s x2 (x3 + 1) _ H KE)
def f_X2_unlikeOutcomes (s : zs) (x1 : Int32) : Option Int32 :=
  Option.bind (f_X2_unlikeOutcomes_4 zFu s x1 0 0) fun e1 =>
  some e1
set_option maxHeartbeats 4000000 in
set_option maxRecDepth 100000 in
theorem c_X2_unlikeOutcomes {G : zG} {sl : Nat} (s : zs) (R : zr) (x1 : Int32) {v9 : Int32} (H : f_X2_unlikeOutcomes s x1 = some v9) : zMv G 0 M_X2_unlikeOutcomes [.ref 76, .int x1] sl (zT s R) (fun r h' => r = some (.int v9) ∧ h' = (zT s R)) := by
  unfold f_X2_unlikeOutcomes at H
  refine zMv_of (L := [some (.ref 76), some (.int x1), none, none]) (by decide) rfl (Nat.le_of_ble_eq_true rfl) rfl ?_
  refine aw_iconst (q := 1) (v := 0) dX2_unlikeOutcomes_0 rfl (by decide) ?_
  refine aw_istore_n (q := 2) (L' := [some (.ref 76), some (.int x1), some (.int 0), none]) dX2_unlikeOutcomes_1 rfl (by decide) rfl rfl ?_
  refine aw_iconst (q := 3) (v := 0) dX2_unlikeOutcomes_2 rfl (by decide) ?_
  refine aw_istore_n (q := 4) (L' := [some (.ref 76), some (.int x1), some (.int 0), some (.int 0)]) dX2_unlikeOutcomes_3 rfl (by decide) rfl rfl ?_
  obtain ⟨e1, he1, H⟩ := zbd H
  refine aw_fewer (L' := [some (.ref 76), some (.int x1), some (.int 0), some (.int 0)]) ⟨rfl, ⟨rfl, ⟨rfl, ⟨rfl, trivial⟩⟩⟩⟩ ?_
  refine L_X2_unlikeOutcomes_4 R x1 zFu s 0 0 e1 he1 ?_
  refine aw_iload_n (q := 32) dX2_unlikeOutcomes_31 rfl rfl ?_
  cases H
  exact aw_ret dX2_unlikeOutcomes_32 rfl rfl rfl rfl ⟨rfl, rfl⟩
def f_X2_worstOn_5 : Nat → zs → Int32 → Int32 → Int32 → Int32 → Option (Int32)
  | 0, _, _, _, _, _ => none
  | k + 1, s, x1, x2, x3, x4 =>
    if (11 : Int32) ≤ x4 then (
      some x3
    ) else (
      if f_X6_hasBit x2 x4 = true then (
        Option.bind (f_X2_suspectsLike s x1 x4) fun v3 =>
        zlt (if x3 < (f_J6_bitCount_0f7a4 (v3 &&& x2)) then f_J6_bitCount_0f7a4 (v3 &&& x2) else x3 : Int32) fun y4 =>
        f_X2_worstOn_5 k s x1 x2 y4 (x4 + 1)
      ) else (
        f_X2_worstOn_5 k s x1 x2 x3 (x4 + 1)
      )
    )
set_option maxHeartbeats 4000000 in
set_option maxRecDepth 100000 in
theorem L_X2_worstOn_5 {G : zG} {sl : Nat} {P : Option Value → zH → Prop} (R : zr) (x1 : Int32) (x2 : Int32) : ∀ (k : Nat) (s : zs) (x3 : Int32) (x4 : Int32) (e : Int32), f_X2_worstOn_5 k s x1 x2 x3 x4 = some e → (AV G M_X2_worstOn 1 sl P 44 [none, none, none, some (.int e), none] [] (zT s R)) → AV G M_X2_worstOn 1 sl P 5 [some (.ref 76), some (.int x1), some (.int x2), some (.int x3), some (.int x4)] [] (zT s R) := by
  intro k
  induction k with
  | zero =>
    intro s x3 x4 e H
    unfold f_X2_worstOn_5 at H
    cases H
  | succ k ih =>
    intro s x3 x4 e H KE
    unfold f_X2_worstOn_5 at H
    refine aw_iload (q := 7) dX2_worstOn_5 rfl rfl ?_
    refine aw_bipush (q := 9) (v := 11) dX2_worstOn_7 rfl (by decide) ?_
    refine aw_icmp_ge (q := 12) (t := 44) dX2_worstOn_9 rfl (by decide) (fun h1 => ?_) (fun h1 => ?_)
    · replace H := zt h1 H
      cases H
      exact aw_fewer (L' := [none, none, none, some (.int x3), none]) ⟨rfl, trivial⟩ KE
    · replace H := zf h1 H
      refine aw_iload_n (q := 13) dX2_worstOn_12 rfl rfl ?_
      refine aw_iload (q := 15) dX2_worstOn_13 rfl rfl ?_
      refine aw_csN (M' := M_X6_hasBit) (as := [.int x2, .int x4]) (q := 18) dX2_worstOn_15 rfl W_X6_hasBit (show (RX2, 36, yX6_hasBit) ∈ zNl by decide) s_X6_hasBit rfl rfl (by decide) (Nat.le_of_ble_eq_true rfl) (c_X6_hasBit (zT s R) x2 x4) (Nat.le_refl _) (Nat.le_refl _) ?_
      rintro r9 h9 ⟨rfl, rfl⟩
      refine aw_ifeqB (q := 21) (t := 38) dX2_worstOn_18 rfl (by decide) (fun h2 => ?_) (fun h2 => ?_)
      · replace H := zt h2 H
        refine aw_iload_n (q := 22) dX2_worstOn_21 rfl rfl ?_
        refine aw_aload_n (q := 23) dX2_worstOn_22 rfl rfl ?_
        refine aw_iload_n (q := 24) dX2_worstOn_23 rfl rfl ?_
        refine aw_iload (q := 26) dX2_worstOn_24 rfl rfl ?_
        obtain ⟨v3, hv3, H⟩ := zbd H
        refine aw_cv (M' := M_X2_suspectsLike) (as := [.int x1, .int x4]) (q := 29) dX2_worstOn_26 rfl W_X2_suspectsLike k_X2_75 i_X2_suspectsLike v_X2_suspectsLike (by decide) (o_X2 s R) rfl rfl rfl (by decide) (Nat.le_of_ble_eq_true rfl) (c_X2_suspectsLike s R x1 x4 hv3) (Nat.le_refl _) (Nat.le_refl _) ?_
        rintro r9 h9 ⟨rfl, rfl⟩
        refine aw_iload_n (q := 30) dX2_worstOn_29 rfl rfl ?_
        refine aw_iand (q := 31) dX2_worstOn_30 rfl ?_
        refine aw_cs (M' := M_J6_bitCount_0f7a4) (as := [.int (v3 &&& x2)]) (q := 34) dX2_worstOn_31 rfl W_J6_bitCount_0f7a4 k_X2_78 s_J6_bitCount_0f7a4 rfl rfl (by decide) (Nat.le_of_ble_eq_true rfl) (c_J6_bitCount_0f7a4 (zT s R) (v3 &&& x2)) (Nat.le_refl _) (Nat.le_refl _) ?_
        rintro r9 h9 ⟨rfl, rfl⟩
        refine aw_max (q := 37) dX2_worstOn_34 rfl k_X2_83 (by decide) (Nat.le_of_ble_eq_true rfl) ?_
        obtain ⟨y4, q5, H⟩ := zltd H
        refine aw_nm q5 ?_
        refine aw_istore_n (q := 38) (L' := [some (.ref 76), some (.int x1), some (.int x2), some (.int y4), some (.int x4)]) dX2_worstOn_37 rfl (by decide) rfl rfl ?_
        refine aw_iinc (q := 41) (v := x4 + 1) (L' := [some (.ref 76), some (.int x1), some (.int x2), some (.int y4), some (.int (x4 + 1))]) dX2_worstOn_38 rfl rfl (by first | rfl | decide) (by decide) rfl rfl ?_
        refine aw_goto (q := 5) dX2_worstOn_41 (by decide) ?_
        exact aw_fewer (L' := [some (.ref 76), some (.int x1), some (.int x2), some (.int y4), some (.int (x4 + 1))]) ⟨rfl, ⟨rfl, ⟨rfl, ⟨rfl, ⟨rfl, trivial⟩⟩⟩⟩⟩ (ih s y4 (x4 + 1) _ H KE)
      · replace H := zf h2 H
        refine aw_iinc (q := 41) (v := x4 + 1) (L' := [some (.ref 76), some (.int x1), some (.int x2), some (.int x3), some (.int (x4 + 1))]) dX2_worstOn_38 rfl rfl (by first | rfl | decide) (by decide) rfl rfl ?_
        refine aw_goto (q := 5) dX2_worstOn_41 (by decide) ?_
        exact aw_fewer (L' := [some (.ref 76), some (.int x1), some (.int x2), some (.int x3), some (.int (x4 + 1))]) ⟨rfl, ⟨rfl, ⟨rfl, ⟨rfl, ⟨rfl, trivial⟩⟩⟩⟩⟩ (ih s x3 (x4 + 1) _ H KE)
def f_X2_worstOn (s : zs) (x1 : Int32) (x2 : Int32) : Option Int32 :=
  Option.bind (f_X2_worstOn_5 zFu s x1 x2 0 0) fun e1 =>
  some e1
set_option maxHeartbeats 4000000 in
set_option maxRecDepth 100000 in
theorem c_X2_worstOn {G : zG} {sl : Nat} (s : zs) (R : zr) (x1 : Int32) (x2 : Int32) {v9 : Int32} (H : f_X2_worstOn s x1 x2 = some v9) : zMv G 1 M_X2_worstOn [.ref 76, .int x1, .int x2] sl (zT s R) (fun r h' => r = some (.int v9) ∧ h' = (zT s R)) := by
  unfold f_X2_worstOn at H
  refine zMv_of (L := [some (.ref 76), some (.int x1), some (.int x2), none, none]) (by decide) rfl (Nat.le_of_ble_eq_true rfl) rfl ?_
  refine aw_iconst (q := 1) (v := 0) dX2_worstOn_0 rfl (by decide) ?_
  refine aw_istore_n (q := 2) (L' := [some (.ref 76), some (.int x1), some (.int x2), some (.int 0), none]) dX2_worstOn_1 rfl (by decide) rfl rfl ?_
  refine aw_iconst (q := 3) (v := 0) dX2_worstOn_2 rfl (by decide) ?_
  refine aw_istore (q := 5) (L' := [some (.ref 76), some (.int x1), some (.int x2), some (.int 0), some (.int 0)]) dX2_worstOn_3 rfl (by decide) rfl rfl ?_
  obtain ⟨e1, he1, H⟩ := zbd H
  refine aw_fewer (L' := [some (.ref 76), some (.int x1), some (.int x2), some (.int 0), some (.int 0)]) ⟨rfl, ⟨rfl, ⟨rfl, ⟨rfl, ⟨rfl, trivial⟩⟩⟩⟩⟩ ?_
  refine L_X2_worstOn_5 R x1 x2 zFu s 0 0 e1 he1 ?_
  refine aw_iload_n (q := 45) dX2_worstOn_44 rfl rfl ?_
  cases H
  exact aw_ret dX2_worstOn_45 rfl rfl rfl rfl ⟨rfl, rfl⟩
def f_X2_collectDaysWanted_24 : Nat → zs → Bool → Int32 → Int32 → Int32 → Option (zs)
  | 0, _, _, _, _, _ => none
  | k + 1, s, x1, x2, x3, x4 =>
    if x3 ≤ x4 then (
      some s
    ) else (
      if f_X6_hasBit x2 x4 = true then (
        if f_X6_hasBit x2 x3 = true then (
          if x1 = true then (
            Option.bind (f_X2_daysUnlike s x4 x3) fun v5 =>
            if zin (s.1 76 4) 55 = true then
            zlt (zc s 86 ((s.1 76 4).toNatClampNeg) v5) fun s7 =>
            zlt (zc s7 76 4 ((s7.1 76 4) + 1)) fun s9 =>
            f_X2_collectDaysWanted_24 k s9 x1 x2 x3 (x4 + 1)
            else none
          ) else (
            if x3 = 10 then (
              Option.bind (f_X2_daysUnlike s x4 x3) fun v12 =>
              if zin (s.1 76 4) 55 = true then
              zlt (zc s 86 ((s.1 76 4).toNatClampNeg) v12) fun s14 =>
              zlt (zc s14 76 4 ((s14.1 76 4) + 1)) fun s16 =>
              f_X2_collectDaysWanted_24 k s16 x1 x2 x3 (x4 + 1)
              else none
            ) else (
              f_X2_collectDaysWanted_24 k s x1 x2 x3 (x4 + 1)
            )
          )
        ) else (
          f_X2_collectDaysWanted_24 k s x1 x2 x3 (x4 + 1)
        )
      ) else (
        f_X2_collectDaysWanted_24 k s x1 x2 x3 (x4 + 1)
      )
    )
set_option maxHeartbeats 4000000 in
set_option maxRecDepth 100000 in
theorem L_X2_collectDaysWanted_24 {G : zG} {sl : Nat} {P : Option Value → zH → Prop} (R : zr) (x1 : Bool) (x2 : Int32) (x3 : Int32) : ∀ (k : Nat) (s : zs) (x4 : Int32) (e : zs), f_X2_collectDaysWanted_24 k s x1 x2 x3 x4 = some e → (AV G M_X2_collectDaysWanted 2 sl P 101 [some (.ref 76), some (.int (zb x1)), some (.int x2), some (.int x3), none, none] [] (zT e R)) → AV G M_X2_collectDaysWanted 2 sl P 24 [some (.ref 76), some (.int (zb x1)), some (.int x2), some (.int x3), some (.int x4), none] [] (zT s R) := by
  intro k
  induction k with
  | zero =>
    intro s x4 e H
    unfold f_X2_collectDaysWanted_24 at H
    cases H
  | succ k ih =>
    intro s x4 e H KE
    unfold f_X2_collectDaysWanted_24 at H
    refine aw_iload (q := 26) dX2_collectDaysWanted_24 rfl rfl ?_
    refine aw_iload_n (q := 27) dX2_collectDaysWanted_26 rfl rfl ?_
    refine aw_icmp_ge (q := 30) (t := 101) dX2_collectDaysWanted_27 rfl (by decide) (fun h1 => ?_) (fun h1 => ?_)
    · replace H := zt h1 H
      cases H
      exact aw_fewer (L' := [some (.ref 76), some (.int (zb x1)), some (.int x2), some (.int x3), none, none]) ⟨rfl, ⟨rfl, ⟨rfl, ⟨rfl, trivial⟩⟩⟩⟩ KE
    · replace H := zf h1 H
      refine aw_iload_n (q := 31) dX2_collectDaysWanted_30 rfl rfl ?_
      refine aw_iload (q := 33) dX2_collectDaysWanted_31 rfl rfl ?_
      refine aw_csN (M' := M_X6_hasBit) (as := [.int x2, .int x4]) (q := 36) dX2_collectDaysWanted_33 rfl W_X6_hasBit (show (RX2, 36, yX6_hasBit) ∈ zNl by decide) s_X6_hasBit rfl rfl (by decide) (Nat.le_of_ble_eq_true rfl) (c_X6_hasBit (zT s R) x2 x4) (Nat.le_refl _) (Nat.le_refl _) ?_
      rintro r9 h9 ⟨rfl, rfl⟩
      refine aw_ifeqB (q := 39) (t := 51) dX2_collectDaysWanted_36 rfl (by decide) (fun h2 => ?_) (fun h2 => ?_)
      · replace H := zt h2 H
        refine aw_iload_n (q := 40) dX2_collectDaysWanted_39 rfl rfl ?_
        refine aw_iload_n (q := 41) dX2_collectDaysWanted_40 rfl rfl ?_
        refine aw_csN (M' := M_X6_hasBit) (as := [.int x2, .int x3]) (q := 44) dX2_collectDaysWanted_41 rfl W_X6_hasBit (show (RX2, 36, yX6_hasBit) ∈ zNl by decide) s_X6_hasBit rfl rfl (by decide) (Nat.le_of_ble_eq_true rfl) (c_X6_hasBit (zT s R) x2 x3) (Nat.le_refl _) (Nat.le_refl _) ?_
        rintro r9 h9 ⟨rfl, rfl⟩
        refine aw_ifeqB (q := 47) (t := 51) dX2_collectDaysWanted_44 rfl (by decide) (fun h3 => ?_) (fun h3 => ?_)
        · replace H := zt h3 H
          refine aw_iconst (q := 48) (v := 1) dX2_collectDaysWanted_47 rfl (by decide) ?_
          refine aw_goto (q := 52) dX2_collectDaysWanted_48 (by decide) ?_
          refine aw_istore (q := 54) (L' := [some (.ref 76), some (.int (zb x1)), some (.int x2), some (.int x3), some (.int x4), some (.int 1)]) dX2_collectDaysWanted_52 rfl (by decide) rfl rfl ?_
          refine aw_iload (q := 56) dX2_collectDaysWanted_54 rfl rfl ?_
          refine aw_if_eq (q := 59) (t := 95) dX2_collectDaysWanted_56 rfl (by decide) (fun z => absurd z (by decide)) (fun _ => ?_)
          refine aw_iload_n (q := 60) dX2_collectDaysWanted_59 rfl rfl ?_
          refine aw_ifneB (q := 63) (t := 69) dX2_collectDaysWanted_60 rfl (by decide) (fun h4 => ?_) (fun h4 => ?_)
          · replace H := zt h4 H
            refine aw_aload_n (q := 70) dX2_collectDaysWanted_69 rfl rfl ?_
            refine aw_getr (q := 73) dX2_collectDaysWanted_70 rfl e_X2_22 (by decide) (o_X2 s R) rfl ?_
            refine aw_aload_n (q := 74) dX2_collectDaysWanted_73 rfl rfl ?_
            refine aw_getr (q := 77) dX2_collectDaysWanted_74 rfl e_X2_96 (by decide) (o_X2 s R) rfl ?_
            refine aw_aload_n (q := 78) dX2_collectDaysWanted_77 rfl rfl ?_
            refine aw_iload (q := 80) dX2_collectDaysWanted_78 rfl rfl ?_
            refine aw_iload_n (q := 81) dX2_collectDaysWanted_80 rfl rfl ?_
            obtain ⟨v5, hv5, H⟩ := zbd H
            refine aw_cv (M' := M_X2_daysUnlike) (as := [.int x4, .int x3]) (q := 84) dX2_collectDaysWanted_81 rfl W_X2_daysUnlike k_X2_100 i_X2_daysUnlike v_X2_daysUnlike (by decide) (o_X2 s R) rfl rfl rfl (by decide) (Nat.le_of_ble_eq_true rfl) (c_X2_daysUnlike s R x4 x3 hv5) (Nat.le_refl _) (Nat.le_refl _) ?_
            rintro r9 h9 ⟨rfl, rfl⟩
            obtain ⟨h6, H⟩ := zio H
            obtain ⟨s7, q8, H⟩ := zltd H
            refine aw_iast (q := 85) dX2_collectDaysWanted_84 rfl (by decide) (o_X2a3 s R) (zin_in h6) ((p_X2a3).trans (congrArg (fun z => zT z R) q8.symm)) ?_
            refine aw_aload_n (q := 86) dX2_collectDaysWanted_85 rfl rfl ?_
            refine aw_dup (q := 87) dX2_collectDaysWanted_86 rfl rfl ?_
            refine aw_getr (q := 90) dX2_collectDaysWanted_87 rfl e_X2_96 (by decide) (o_X2 s7 R) rfl ?_
            refine aw_iconst (q := 91) (v := 1) dX2_collectDaysWanted_90 rfl (by decide) ?_
            refine aw_iadd (q := 92) dX2_collectDaysWanted_91 rfl ?_
            obtain ⟨s9, q10, H⟩ := zltd H
            refine aw_put (q := 95) dX2_collectDaysWanted_92 rfl f_X2_96 (by decide) (o_X2 s7 R) rfl rfl (Nat.le_of_ble_eq_true rfl) ((p_X2_4).trans (congrArg (fun z => zT z R) q10.symm)) ?_
            refine aw_iinc (q := 98) (v := x4 + 1) (L' := [some (.ref 76), some (.int (zb x1)), some (.int x2), some (.int x3), some (.int (x4 + 1)), some (.int 1)]) dX2_collectDaysWanted_95 rfl rfl (by first | rfl | decide) (by decide) rfl rfl ?_
            refine aw_goto (q := 24) dX2_collectDaysWanted_98 (by decide) ?_
            exact aw_fewer (L' := [some (.ref 76), some (.int (zb x1)), some (.int x2), some (.int x3), some (.int (x4 + 1)), none]) ⟨rfl, ⟨rfl, ⟨rfl, ⟨rfl, ⟨rfl, trivial⟩⟩⟩⟩⟩ (ih s9 (x4 + 1) _ H KE)
          · replace H := zf h4 H
            refine aw_iload_n (q := 64) dX2_collectDaysWanted_63 rfl rfl ?_
            refine aw_bipush (q := 66) (v := 10) dX2_collectDaysWanted_64 rfl (by decide) ?_
            refine aw_icmp_neP (q := 69) (t := 95) dX2_collectDaysWanted_66 rfl (by decide) (fun h11 => ?_) (fun h11 => ?_)
            · replace H := zt h11 H
              refine aw_aload_n (q := 70) dX2_collectDaysWanted_69 rfl rfl ?_
              refine aw_getr (q := 73) dX2_collectDaysWanted_70 rfl e_X2_22 (by decide) (o_X2 s R) rfl ?_
              refine aw_aload_n (q := 74) dX2_collectDaysWanted_73 rfl rfl ?_
              refine aw_getr (q := 77) dX2_collectDaysWanted_74 rfl e_X2_96 (by decide) (o_X2 s R) rfl ?_
              refine aw_aload_n (q := 78) dX2_collectDaysWanted_77 rfl rfl ?_
              refine aw_iload (q := 80) dX2_collectDaysWanted_78 rfl rfl ?_
              refine aw_iload_n (q := 81) dX2_collectDaysWanted_80 rfl rfl ?_
              obtain ⟨v12, hv12, H⟩ := zbd H
              refine aw_cv (M' := M_X2_daysUnlike) (as := [.int x4, .int x3]) (q := 84) dX2_collectDaysWanted_81 rfl W_X2_daysUnlike k_X2_100 i_X2_daysUnlike v_X2_daysUnlike (by decide) (o_X2 s R) rfl rfl rfl (by decide) (Nat.le_of_ble_eq_true rfl) (c_X2_daysUnlike s R x4 x3 hv12) (Nat.le_refl _) (Nat.le_refl _) ?_
              rintro r9 h9 ⟨rfl, rfl⟩
              obtain ⟨h13, H⟩ := zio H
              obtain ⟨s14, q15, H⟩ := zltd H
              refine aw_iast (q := 85) dX2_collectDaysWanted_84 rfl (by decide) (o_X2a3 s R) (zin_in h13) ((p_X2a3).trans (congrArg (fun z => zT z R) q15.symm)) ?_
              refine aw_aload_n (q := 86) dX2_collectDaysWanted_85 rfl rfl ?_
              refine aw_dup (q := 87) dX2_collectDaysWanted_86 rfl rfl ?_
              refine aw_getr (q := 90) dX2_collectDaysWanted_87 rfl e_X2_96 (by decide) (o_X2 s14 R) rfl ?_
              refine aw_iconst (q := 91) (v := 1) dX2_collectDaysWanted_90 rfl (by decide) ?_
              refine aw_iadd (q := 92) dX2_collectDaysWanted_91 rfl ?_
              obtain ⟨s16, q17, H⟩ := zltd H
              refine aw_put (q := 95) dX2_collectDaysWanted_92 rfl f_X2_96 (by decide) (o_X2 s14 R) rfl rfl (Nat.le_of_ble_eq_true rfl) ((p_X2_4).trans (congrArg (fun z => zT z R) q17.symm)) ?_
              refine aw_iinc (q := 98) (v := x4 + 1) (L' := [some (.ref 76), some (.int (zb x1)), some (.int x2), some (.int x3), some (.int (x4 + 1)), some (.int 1)]) dX2_collectDaysWanted_95 rfl rfl (by first | rfl | decide) (by decide) rfl rfl ?_
              refine aw_goto (q := 24) dX2_collectDaysWanted_98 (by decide) ?_
              exact aw_fewer (L' := [some (.ref 76), some (.int (zb x1)), some (.int x2), some (.int x3), some (.int (x4 + 1)), none]) ⟨rfl, ⟨rfl, ⟨rfl, ⟨rfl, ⟨rfl, trivial⟩⟩⟩⟩⟩ (ih s16 (x4 + 1) _ H KE)
            · replace H := zf h11 H
              refine aw_iinc (q := 98) (v := x4 + 1) (L' := [some (.ref 76), some (.int (zb x1)), some (.int x2), some (.int x3), some (.int (x4 + 1)), some (.int 1)]) dX2_collectDaysWanted_95 rfl rfl (by first | rfl | decide) (by decide) rfl rfl ?_
              refine aw_goto (q := 24) dX2_collectDaysWanted_98 (by decide) ?_
              exact aw_fewer (L' := [some (.ref 76), some (.int (zb x1)), some (.int x2), some (.int x3), some (.int (x4 + 1)), none]) ⟨rfl, ⟨rfl, ⟨rfl, ⟨rfl, ⟨rfl, trivial⟩⟩⟩⟩⟩ (ih s (x4 + 1) _ H KE)
        · replace H := zf h3 H
          refine aw_iconst (q := 52) (v := 0) dX2_collectDaysWanted_51 rfl (by decide) ?_
          refine aw_istore (q := 54) (L' := [some (.ref 76), some (.int (zb x1)), some (.int x2), some (.int x3), some (.int x4), some (.int 0)]) dX2_collectDaysWanted_52 rfl (by decide) rfl rfl ?_
          refine aw_iload (q := 56) dX2_collectDaysWanted_54 rfl rfl ?_
          refine aw_if_eq (q := 59) (t := 95) dX2_collectDaysWanted_56 rfl (by decide) (fun _ => ?_) (fun z => absurd (by decide) z)
          refine aw_iinc (q := 98) (v := x4 + 1) (L' := [some (.ref 76), some (.int (zb x1)), some (.int x2), some (.int x3), some (.int (x4 + 1)), some (.int 0)]) dX2_collectDaysWanted_95 rfl rfl (by first | rfl | decide) (by decide) rfl rfl ?_
          refine aw_goto (q := 24) dX2_collectDaysWanted_98 (by decide) ?_
          exact aw_fewer (L' := [some (.ref 76), some (.int (zb x1)), some (.int x2), some (.int x3), some (.int (x4 + 1)), none]) ⟨rfl, ⟨rfl, ⟨rfl, ⟨rfl, ⟨rfl, trivial⟩⟩⟩⟩⟩ (ih s (x4 + 1) _ H KE)
      · replace H := zf h2 H
        refine aw_iconst (q := 52) (v := 0) dX2_collectDaysWanted_51 rfl (by decide) ?_
        refine aw_istore (q := 54) (L' := [some (.ref 76), some (.int (zb x1)), some (.int x2), some (.int x3), some (.int x4), some (.int 0)]) dX2_collectDaysWanted_52 rfl (by decide) rfl rfl ?_
        refine aw_iload (q := 56) dX2_collectDaysWanted_54 rfl rfl ?_
        refine aw_if_eq (q := 59) (t := 95) dX2_collectDaysWanted_56 rfl (by decide) (fun _ => ?_) (fun z => absurd (by decide) z)
        refine aw_iinc (q := 98) (v := x4 + 1) (L' := [some (.ref 76), some (.int (zb x1)), some (.int x2), some (.int x3), some (.int (x4 + 1)), some (.int 0)]) dX2_collectDaysWanted_95 rfl rfl (by first | rfl | decide) (by decide) rfl rfl ?_
        refine aw_goto (q := 24) dX2_collectDaysWanted_98 (by decide) ?_
        exact aw_fewer (L' := [some (.ref 76), some (.int (zb x1)), some (.int x2), some (.int x3), some (.int (x4 + 1)), none]) ⟨rfl, ⟨rfl, ⟨rfl, ⟨rfl, ⟨rfl, trivial⟩⟩⟩⟩⟩ (ih s (x4 + 1) _ H KE)
def f_X2_collectDaysWanted_15 : Nat → zs → Bool → Int32 → Int32 → Option (zs)
  | 0, _, _, _, _ => none
  | k + 1, s, x1, x2, x3 =>
    if (11 : Int32) ≤ x3 then (
      some s
    ) else (
      Option.bind (f_X2_collectDaysWanted_24 zFu s x1 x2 x3 0) fun e2 =>
      f_X2_collectDaysWanted_15 k e2 x1 x2 (x3 + 1)
    )
set_option maxHeartbeats 4000000 in
set_option maxRecDepth 100000 in
theorem L_X2_collectDaysWanted_15 {G : zG} {sl : Nat} {P : Option Value → zH → Prop} (R : zr) (x1 : Bool) (x2 : Int32) : ∀ (k : Nat) (s : zs) (x3 : Int32) (e : zs), f_X2_collectDaysWanted_15 k s x1 x2 x3 = some e → (AV G M_X2_collectDaysWanted 2 sl P 107 [none, none, none, none, none, none] [] (zT e R)) → AV G M_X2_collectDaysWanted 2 sl P 15 [some (.ref 76), some (.int (zb x1)), some (.int x2), some (.int x3), none, none] [] (zT s R) := by
  intro k
  induction k with
  | zero =>
    intro s x3 e H
    unfold f_X2_collectDaysWanted_15 at H
    cases H
  | succ k ih =>
    intro s x3 e H KE
    unfold f_X2_collectDaysWanted_15 at H
    refine aw_iload_n (q := 16) dX2_collectDaysWanted_15 rfl rfl ?_
    refine aw_bipush (q := 18) (v := 11) dX2_collectDaysWanted_16 rfl (by decide) ?_
    refine aw_icmp_ge (q := 21) (t := 107) dX2_collectDaysWanted_18 rfl (by decide) (fun h1 => ?_) (fun h1 => ?_)
    · replace H := zt h1 H
      cases H
      exact aw_fewer (L' := [none, none, none, none, none, none]) trivial KE
    · replace H := zf h1 H
      refine aw_iconst (q := 22) (v := 0) dX2_collectDaysWanted_21 rfl (by decide) ?_
      refine aw_istore (q := 24) (L' := [some (.ref 76), some (.int (zb x1)), some (.int x2), some (.int x3), some (.int 0), none]) dX2_collectDaysWanted_22 rfl (by decide) rfl rfl ?_
      obtain ⟨e2, he2, H⟩ := zbd H
      refine aw_fewer (L' := [some (.ref 76), some (.int (zb x1)), some (.int x2), some (.int x3), some (.int 0), none]) ⟨rfl, ⟨rfl, ⟨rfl, ⟨rfl, ⟨rfl, trivial⟩⟩⟩⟩⟩ ?_
      refine L_X2_collectDaysWanted_24 R x1 x2 x3 zFu s 0 e2 he2 ?_
      refine aw_iinc (q := 104) (v := x3 + 1) (L' := [some (.ref 76), some (.int (zb x1)), some (.int x2), some (.int (x3 + 1)), none, none]) dX2_collectDaysWanted_101 rfl rfl (by first | rfl | decide) (by decide) rfl rfl ?_
      refine aw_goto (q := 15) dX2_collectDaysWanted_104 (by decide) ?_
      exact aw_fewer (L' := [some (.ref 76), some (.int (zb x1)), some (.int x2), some (.int (x3 + 1)), none, none]) ⟨rfl, ⟨rfl, ⟨rfl, ⟨rfl, trivial⟩⟩⟩⟩ (ih e2 (x3 + 1) _ H KE)
def f_X2_collectDaysWanted (s : zs) (x1 : Bool) : Option zs :=
  zlt (f_X0_allSuspects s 64 : Int32) fun y1 =>
  zlt (zc s 76 4 0) fun s3 =>
  Option.bind (f_X2_collectDaysWanted_15 zFu s3 x1 y1 1) fun e5 =>
  some e5
set_option maxHeartbeats 4000000 in
set_option maxRecDepth 100000 in
theorem c_X2_collectDaysWanted {G : zG} {sl : Nat} (s : zs) (R : zr) (x1 : Bool) {v9 : zs} (H : f_X2_collectDaysWanted s x1 = some v9) : zMv G 2 M_X2_collectDaysWanted [.ref 76, .int (zb x1)] sl (zT s R) (fun r h' => r = none ∧ h' = zT v9 R) := by
  unfold f_X2_collectDaysWanted at H
  refine zMv_of (L := [some (.ref 76), some (.int (zb x1)), none, none, none, none]) (by decide) rfl (Nat.le_of_ble_eq_true rfl) rfl ?_
  refine aw_aload_n (q := 1) dX2_collectDaysWanted_0 rfl rfl ?_
  refine aw_getr (q := 4) dX2_collectDaysWanted_1 rfl e_X2_26 (by decide) (o_X2 s R) rfl ?_
  refine aw_cv (M' := M_X0_allSuspects) (as := []) (q := 7) dX2_collectDaysWanted_4 rfl W_X0_allSuspects k_X2_59 i_X0_allSuspects v_X0_allSuspects (zB_lt0 zB64) (o_X0 zB64 s R) rfl rfl rfl (by decide) (Nat.le_of_ble_eq_true rfl) (c_X0_allSuspects s R zB64) (Nat.le_refl _) (Nat.le_refl _) ?_
  rintro r9 h9 ⟨rfl, rfl⟩
  obtain ⟨y1, q2, H⟩ := zltd H
  refine aw_nm q2 ?_
  refine aw_istore_n (q := 8) (L' := [some (.ref 76), some (.int (zb x1)), some (.int y1), none, none, none]) dX2_collectDaysWanted_7 rfl (by decide) rfl rfl ?_
  refine aw_aload_n (q := 9) dX2_collectDaysWanted_8 rfl rfl ?_
  refine aw_iconst (q := 10) (v := 0) dX2_collectDaysWanted_9 rfl (by decide) ?_
  obtain ⟨s3, q4, H⟩ := zltd H
  refine aw_put (q := 13) dX2_collectDaysWanted_10 rfl f_X2_96 (by decide) (o_X2 s R) rfl rfl (Nat.le_of_ble_eq_true rfl) ((p_X2_4).trans (congrArg (fun z => zT z R) q4.symm)) ?_
  refine aw_iconst (q := 14) (v := 1) dX2_collectDaysWanted_13 rfl (by decide) ?_
  refine aw_istore_n (q := 15) (L' := [some (.ref 76), some (.int (zb x1)), some (.int y1), some (.int 1), none, none]) dX2_collectDaysWanted_14 rfl (by decide) rfl rfl ?_
  obtain ⟨e5, he5, H⟩ := zbd H
  refine aw_fewer (L' := [some (.ref 76), some (.int (zb x1)), some (.int y1), some (.int 1), none, none]) ⟨rfl, ⟨rfl, ⟨rfl, ⟨rfl, trivial⟩⟩⟩⟩ ?_
  refine L_X2_collectDaysWanted_15 R x1 y1 zFu s3 1 e5 he5 ?_
  cases H
  exact aw_vret dX2_collectDaysWanted_107 rfl rfl rfl ⟨rfl, rfl⟩
def f_X2_suffice_2 : Nat → zs → Int32 → Int32 → Option ((Unit) ⊕ (Bool))
  | 0, _, _, _ => none
  | k + 1, s, x1, x2 =>
    if (s.1 76 4) ≤ x2 then (
      some (Sum.inl ())
    ) else (
      if zin x2 55 = true then
      if (s.1 86 x2.toNatClampNeg) = 0 then (
        f_X2_suffice_2 k s x1 (x2 + 1)
      ) else (
        if ((s.1 86 x2.toNatClampNeg) &&& x1) = 0 then (
          some (Sum.inr false)
        ) else (
          f_X2_suffice_2 k s x1 (x2 + 1)
        )
      )
      else none
    )
set_option maxHeartbeats 4000000 in
set_option maxRecDepth 100000 in
theorem L_X2_suffice_2 {G : zG} {sl : Nat} {P : Option Value → zH → Prop} (R : zr) (x1 : Int32) : ∀ (k : Nat) (s : zs) (x2 : Int32) (e : (Unit) ⊕ (Bool)), f_X2_suffice_2 k s x1 x2 = some e → (∀ x9, e = Sum.inl x9 → AV G M_X2_suffice 0 sl P 38 [none, none, none] [] (zT s R)) → (∀ v9, e = Sum.inr v9 → P (some (.int (zb v9))) (zT s R)) → AV G M_X2_suffice 0 sl P 2 [some (.ref 76), some (.int x1), some (.int x2)] [] (zT s R) := by
  intro k
  induction k with
  | zero =>
    intro s x2 e H
    unfold f_X2_suffice_2 at H
    cases H
  | succ k ih =>
    intro s x2 e H KE KR
    unfold f_X2_suffice_2 at H
    refine aw_iload_n (q := 3) dX2_suffice_2 rfl rfl ?_
    refine aw_aload_n (q := 4) dX2_suffice_3 rfl rfl ?_
    refine aw_getr (q := 7) dX2_suffice_4 rfl e_X2_96 (by decide) (o_X2 s R) rfl ?_
    refine aw_icmp_ge (q := 10) (t := 38) dX2_suffice_7 rfl (by decide) (fun h1 => ?_) (fun h1 => ?_)
    · replace H := zt h1 H
      cases H
      exact aw_fewer (L' := [none, none, none]) trivial (KE _ rfl)
    · replace H := zf h1 H
      refine aw_aload_n (q := 11) dX2_suffice_10 rfl rfl ?_
      refine aw_getr (q := 14) dX2_suffice_11 rfl e_X2_22 (by decide) (o_X2 s R) rfl ?_
      refine aw_iload_n (q := 15) dX2_suffice_14 rfl rfl ?_
      obtain ⟨h2, H⟩ := zio H
      refine aw_iald' (q := 16) (v := s.1 86 x2.toNatClampNeg) dX2_suffice_15 rfl (by decide) (o_X2a3 s R) (zin_in h2) rfl ?_
      refine aw_if_eq (q := 19) (t := 32) dX2_suffice_16 rfl (by decide) (fun h3 => ?_) (fun h3 => ?_)
      · replace H := zt h3 H
        refine aw_iinc (q := 35) (v := x2 + 1) (L' := [some (.ref 76), some (.int x1), some (.int (x2 + 1))]) dX2_suffice_32 rfl rfl (by first | rfl | decide) (by decide) rfl rfl ?_
        refine aw_goto (q := 2) dX2_suffice_35 (by decide) ?_
        exact aw_fewer (L' := [some (.ref 76), some (.int x1), some (.int (x2 + 1))]) ⟨rfl, ⟨rfl, ⟨rfl, trivial⟩⟩⟩ (ih s (x2 + 1) _ H KE KR)
      · replace H := zf h3 H
        refine aw_aload_n (q := 20) dX2_suffice_19 rfl rfl ?_
        refine aw_getr (q := 23) dX2_suffice_20 rfl e_X2_22 (by decide) (o_X2 s R) rfl ?_
        refine aw_iload_n (q := 24) dX2_suffice_23 rfl rfl ?_
        refine aw_iald' (q := 25) (v := s.1 86 x2.toNatClampNeg) dX2_suffice_24 rfl (by decide) (o_X2a3 s R) (zin_in h2) rfl ?_
        refine aw_iload_n (q := 26) dX2_suffice_25 rfl rfl ?_
        refine aw_iand (q := 27) dX2_suffice_26 rfl ?_
        refine aw_if_neP (q := 30) (t := 32) dX2_suffice_27 rfl (by decide) (fun h4 => ?_) (fun h4 => ?_)
        · replace H := zt h4 H
          refine aw_iconst (q := 31) (v := 0) dX2_suffice_30 rfl (by decide) ?_
          cases H
          exact aw_ret dX2_suffice_31 rfl rfl rfl rfl (KR _ rfl)
        · replace H := zf h4 H
          refine aw_iinc (q := 35) (v := x2 + 1) (L' := [some (.ref 76), some (.int x1), some (.int (x2 + 1))]) dX2_suffice_32 rfl rfl (by first | rfl | decide) (by decide) rfl rfl ?_
          refine aw_goto (q := 2) dX2_suffice_35 (by decide) ?_
          exact aw_fewer (L' := [some (.ref 76), some (.int x1), some (.int (x2 + 1))]) ⟨rfl, ⟨rfl, ⟨rfl, trivial⟩⟩⟩ (ih s (x2 + 1) _ H KE KR)
def f_X2_suffice (s : zs) (x1 : Int32) : Option Bool :=
  Option.bind (f_X2_suffice_2 zFu s x1 0) fun e1 => match e1 with
  | Sum.inr r2 => some r2
  | Sum.inl e1i =>
  some true
set_option maxHeartbeats 4000000 in
set_option maxRecDepth 100000 in
theorem c_X2_suffice {G : zG} {sl : Nat} (s : zs) (R : zr) (x1 : Int32) {v9 : Bool} (H : f_X2_suffice s x1 = some v9) : zMv G 0 M_X2_suffice [.ref 76, .int x1] sl (zT s R) (fun r h' => r = some (.int (zb v9)) ∧ h' = (zT s R)) := by
  unfold f_X2_suffice at H
  refine zMv_of (L := [some (.ref 76), some (.int x1), none]) (by decide) rfl (Nat.le_of_ble_eq_true rfl) rfl ?_
  refine aw_iconst (q := 1) (v := 0) dX2_suffice_0 rfl (by decide) ?_
  refine aw_istore_n (q := 2) (L' := [some (.ref 76), some (.int x1), some (.int 0)]) dX2_suffice_1 rfl (by decide) rfl rfl ?_
  obtain ⟨e1, he1, H⟩ := zbd H
  refine aw_fewer (L' := [some (.ref 76), some (.int x1), some (.int 0)]) ⟨rfl, ⟨rfl, ⟨rfl, trivial⟩⟩⟩ ?_
  refine L_X2_suffice_2 R x1 zFu s 0 e1 he1 (fun e1i h9 => ?_) (fun r2 h9 => ?_)
  · subst h9
    replace H : _ = _ := H
    refine aw_iconst (q := 39) (v := 1) dX2_suffice_38 rfl (by decide) ?_
    cases H
    exact aw_ret dX2_suffice_39 rfl rfl rfl rfl ⟨rfl, rfl⟩
  · subst h9
    cases H
    exact ⟨rfl, rfl⟩
def f_X2_fewestDaysFor_10 : Nat → zs → Int32 → Int32 → Option (Int32)
  | 0, _, _, _ => none
  | k + 1, s, x2, x3 =>
    if (127 : Int32) ≤ x3 then (
      some x2
    ) else (
      if (f_J6_bitCount_0f7a4 x2) ≤ (f_J6_bitCount_0f7a4 x3) then (
        f_X2_fewestDaysFor_10 k s x2 (x3 + 1)
      ) else (
        Option.bind (f_X2_suffice s x3) fun v3 =>
        if v3 = true then (
          f_X2_fewestDaysFor_10 k s x3 (x3 + 1)
        ) else (
          f_X2_fewestDaysFor_10 k s x2 (x3 + 1)
        )
      )
    )
set_option maxHeartbeats 4000000 in
set_option maxRecDepth 100000 in
theorem L_X2_fewestDaysFor_10 {G : zG} {sl : Nat} {P : Option Value → zH → Prop} (R : zr)  : ∀ (k : Nat) (s : zs) (x2 : Int32) (x3 : Int32) (e : Int32), f_X2_fewestDaysFor_10 k s x2 x3 = some e → (AV G M_X2_fewestDaysFor 3 sl P 43 [none, none, some (.int e), none] [] (zT s R)) → AV G M_X2_fewestDaysFor 3 sl P 10 [some (.ref 76), none, some (.int x2), some (.int x3)] [] (zT s R) := by
  intro k
  induction k with
  | zero =>
    intro s x2 x3 e H
    unfold f_X2_fewestDaysFor_10 at H
    cases H
  | succ k ih =>
    intro s x2 x3 e H KE
    unfold f_X2_fewestDaysFor_10 at H
    refine aw_iload_n (q := 11) dX2_fewestDaysFor_10 rfl rfl ?_
    refine aw_bipush (q := 13) (v := 127) dX2_fewestDaysFor_11 rfl (by decide) ?_
    refine aw_icmp_ge (q := 16) (t := 43) dX2_fewestDaysFor_13 rfl (by decide) (fun h1 => ?_) (fun h1 => ?_)
    · replace H := zt h1 H
      cases H
      exact aw_fewer (L' := [none, none, some (.int x2), none]) ⟨rfl, trivial⟩ KE
    · replace H := zf h1 H
      refine aw_iload_n (q := 17) dX2_fewestDaysFor_16 rfl rfl ?_
      refine aw_cs (M' := M_J6_bitCount_0f7a4) (as := [.int x3]) (q := 20) dX2_fewestDaysFor_17 rfl W_J6_bitCount_0f7a4 k_X2_78 s_J6_bitCount_0f7a4 rfl rfl (by decide) (Nat.le_of_ble_eq_true rfl) (c_J6_bitCount_0f7a4 (zT s R) x3) (Nat.le_refl _) (Nat.le_refl _) ?_
      rintro r9 h9 ⟨rfl, rfl⟩
      refine aw_iload_n (q := 21) dX2_fewestDaysFor_20 rfl rfl ?_
      refine aw_cs (M' := M_J6_bitCount_0f7a4) (as := [.int x2]) (q := 24) dX2_fewestDaysFor_21 rfl W_J6_bitCount_0f7a4 k_X2_78 s_J6_bitCount_0f7a4 rfl rfl (by decide) (Nat.le_of_ble_eq_true rfl) (c_J6_bitCount_0f7a4 (zT s R) x2) (Nat.le_refl _) (Nat.le_refl _) ?_
      rintro r9 h9 ⟨rfl, rfl⟩
      refine aw_icmp_ge (q := 27) (t := 37) dX2_fewestDaysFor_24 rfl (by decide) (fun h2 => ?_) (fun h2 => ?_)
      · replace H := zt h2 H
        refine aw_iinc (q := 40) (v := x3 + 1) (L' := [some (.ref 76), none, some (.int x2), some (.int (x3 + 1))]) dX2_fewestDaysFor_37 rfl rfl (by first | rfl | decide) (by decide) rfl rfl ?_
        refine aw_goto (q := 10) dX2_fewestDaysFor_40 (by decide) ?_
        exact aw_fewer (L' := [some (.ref 76), none, some (.int x2), some (.int (x3 + 1))]) ⟨rfl, ⟨rfl, ⟨rfl, trivial⟩⟩⟩ (ih s x2 (x3 + 1) _ H KE)
      · replace H := zf h2 H
        refine aw_aload_n (q := 28) dX2_fewestDaysFor_27 rfl rfl ?_
        refine aw_iload_n (q := 29) dX2_fewestDaysFor_28 rfl rfl ?_
        obtain ⟨v3, hv3, H⟩ := zbd H
        refine aw_cv (M' := M_X2_suffice) (as := [.int x3]) (q := 32) dX2_fewestDaysFor_29 rfl W_X2_suffice k_X2_92 i_X2_suffice v_X2_suffice (by decide) (o_X2 s R) rfl rfl rfl (by decide) (Nat.le_of_ble_eq_true rfl) (c_X2_suffice s R x3 hv3) (Nat.le_refl _) (Nat.le_refl _) ?_
        rintro r9 h9 ⟨rfl, rfl⟩
        refine aw_ifeqB (q := 35) (t := 37) dX2_fewestDaysFor_32 rfl (by decide) (fun h4 => ?_) (fun h4 => ?_)
        · replace H := zt h4 H
          refine aw_iload_n (q := 36) dX2_fewestDaysFor_35 rfl rfl ?_
          refine aw_istore_n (q := 37) (L' := [some (.ref 76), none, some (.int x3), some (.int x3)]) dX2_fewestDaysFor_36 rfl (by decide) rfl rfl ?_
          refine aw_iinc (q := 40) (v := x3 + 1) (L' := [some (.ref 76), none, some (.int x3), some (.int (x3 + 1))]) dX2_fewestDaysFor_37 rfl rfl (by first | rfl | decide) (by decide) rfl rfl ?_
          refine aw_goto (q := 10) dX2_fewestDaysFor_40 (by decide) ?_
          exact aw_fewer (L' := [some (.ref 76), none, some (.int x3), some (.int (x3 + 1))]) ⟨rfl, ⟨rfl, ⟨rfl, trivial⟩⟩⟩ (ih s x3 (x3 + 1) _ H KE)
        · replace H := zf h4 H
          refine aw_iinc (q := 40) (v := x3 + 1) (L' := [some (.ref 76), none, some (.int x2), some (.int (x3 + 1))]) dX2_fewestDaysFor_37 rfl rfl (by first | rfl | decide) (by decide) rfl rfl ?_
          refine aw_goto (q := 10) dX2_fewestDaysFor_40 (by decide) ?_
          exact aw_fewer (L' := [some (.ref 76), none, some (.int x2), some (.int (x3 + 1))]) ⟨rfl, ⟨rfl, ⟨rfl, trivial⟩⟩⟩ (ih s x2 (x3 + 1) _ H KE)
def f_X2_fewestDaysFor (s : zs) (x1 : Bool) : Option (Int32 × zs) :=
  Option.bind (f_X2_collectDaysWanted s x1) fun v1 =>
  Option.bind (f_X2_fewestDaysFor_10 zFu v1 127 0) fun e2 =>
  some (e2, v1)
set_option maxHeartbeats 4000000 in
set_option maxRecDepth 100000 in
theorem c_X2_fewestDaysFor {G : zG} {sl : Nat} (s : zs) (R : zr) (x1 : Bool) {v9 : (Int32 × zs)} (H : f_X2_fewestDaysFor s x1 = some v9) : zMv G 3 M_X2_fewestDaysFor [.ref 76, .int (zb x1)] sl (zT s R) (fun r h' => r = some (.int v9.1) ∧ h' = zT v9.2 R) := by
  unfold f_X2_fewestDaysFor at H
  refine zMv_of (L := [some (.ref 76), some (.int (zb x1)), none, none]) (by decide) rfl (Nat.le_of_ble_eq_true rfl) rfl ?_
  refine aw_aload_n (q := 1) dX2_fewestDaysFor_0 rfl rfl ?_
  refine aw_iload_n (q := 2) dX2_fewestDaysFor_1 rfl rfl ?_
  obtain ⟨v1, hv1, H⟩ := zbd H
  refine aw_cv (M' := M_X2_collectDaysWanted) (as := [.int (zb x1)]) (q := 5) dX2_fewestDaysFor_2 rfl W_X2_collectDaysWanted k_X2_88 i_X2_collectDaysWanted v_X2_collectDaysWanted (by decide) (o_X2 s R) rfl rfl rfl (by decide) (Nat.le_of_ble_eq_true rfl) (c_X2_collectDaysWanted s R x1 hv1) (Nat.le_refl _) (Nat.le_refl _) ?_
  rintro r9 h9 ⟨rfl, rfl⟩
  refine aw_bipush (q := 7) (v := 127) dX2_fewestDaysFor_5 rfl (by decide) ?_
  refine aw_istore_n (q := 8) (L' := [some (.ref 76), some (.int (zb x1)), some (.int 127), none]) dX2_fewestDaysFor_7 rfl (by decide) rfl rfl ?_
  refine aw_iconst (q := 9) (v := 0) dX2_fewestDaysFor_8 rfl (by decide) ?_
  refine aw_istore_n (q := 10) (L' := [some (.ref 76), some (.int (zb x1)), some (.int 127), some (.int 0)]) dX2_fewestDaysFor_9 rfl (by decide) rfl rfl ?_
  obtain ⟨e2, he2, H⟩ := zbd H
  refine aw_fewer (L' := [some (.ref 76), none, some (.int 127), some (.int 0)]) ⟨rfl, ⟨rfl, ⟨rfl, trivial⟩⟩⟩ ?_
  refine L_X2_fewestDaysFor_10 R  zFu v1 127 0 e2 he2 ?_
  refine aw_iload_n (q := 44) dX2_fewestDaysFor_43 rfl rfl ?_
  cases H
  exact aw_ret dX2_fewestDaysFor_44 rfl rfl rfl rfl ⟨rfl, rfl⟩
def f_X2_tells (s : zs) (x1 : Int32) (x2 : Int32) : Option (Bool × zs) :=
  if zin x2 11 = true then
  Option.bind (f_X5_probe s (87 + 3 * x2.toNatClampNeg) x1) fun v2 =>
  Option.bind (f_X5_probe v2 117 x1) fun v3 =>
  Option.bind (f_X5_sameOutcome v3 (87 + 3 * x2.toNatClampNeg) 117) fun v4 =>
  if v4 = true then (
    some (false, v3)
  ) else (
    some (true, v3)
  )
  else none
set_option maxHeartbeats 4000000 in
set_option maxRecDepth 100000 in
theorem c_X2_tells {G : zG} {sl : Nat} (s : zs) (R : zr) (x1 : Int32) (x2 : Int32) {v9 : (Bool × zs)} (H : f_X2_tells s x1 x2 = some v9) : zMv G 4 M_X2_tells [.ref 76, .int x1, .int x2] sl (zT s R) (fun r h' => r = some (.int (zb v9.1)) ∧ h' = zT v9.2 R) := by
  unfold f_X2_tells at H
  refine zMv_of (L := [some (.ref 76), some (.int x1), some (.int x2)]) (by decide) rfl (Nat.le_of_ble_eq_true rfl) rfl ?_
  refine aw_aload_n (q := 1) dX2_tells_0 rfl rfl ?_
  refine aw_getr (q := 4) dX2_tells_1 rfl e_X2_11 (by decide) (o_X2 s R) rfl ?_
  refine aw_iload_n (q := 5) dX2_tells_4 rfl rfl ?_
  obtain ⟨h1, H⟩ := zio H
  refine aw_aald (q := 6) (b := 87 + 3 * x2.toNatClampNeg) dX2_tells_5 rfl (by decide) (Or.inr (Or.inl rfl)) (o_X2a1 s R) (zin_in h1) rfl ?_
  refine aw_iload_n (q := 7) dX2_tells_6 rfl rfl ?_
  obtain ⟨v2, hv2, H⟩ := zbd H
  refine aw_cv (M' := M_X5_probe) (as := [.int x1]) (q := 10) dX2_tells_7 rfl W_X5_probe k_X2_40 i_X5_probe v_X5_probe (zU_lt (k := 0) (zU_of h1) (by decide)) (o_X5 (zU_of h1) s R) rfl rfl rfl (by decide) (Nat.le_of_ble_eq_true rfl) (c_X5_probe s R (zU_of h1) x1 hv2) (Nat.le_refl _) (Nat.le_refl _) ?_
  rintro r9 h9 ⟨rfl, rfl⟩
  refine aw_aload_n (q := 11) dX2_tells_10 rfl rfl ?_
  refine aw_getr (q := 14) dX2_tells_11 rfl e_X2_11 (by decide) (o_X2 v2 R) rfl ?_
  refine aw_bipush (q := 16) (v := 10) dX2_tells_14 rfl (by decide) ?_
  refine aw_aald (q := 17) (b := 117) dX2_tells_16 rfl (by decide) (Or.inr (Or.inl rfl)) (o_X2a1 v2 R) (zin_in (by decide)) rfl ?_
  refine aw_iload_n (q := 18) dX2_tells_17 rfl rfl ?_
  obtain ⟨v3, hv3, H⟩ := zbd H
  refine aw_cv (M' := M_X5_probe) (as := [.int x1]) (q := 21) dX2_tells_18 rfl W_X5_probe k_X2_40 i_X5_probe v_X5_probe (zU_lt (k := 0) (show zU 117 from ⟨10, by decide, rfl⟩) (by decide)) (o_X5 (show zU 117 from ⟨10, by decide, rfl⟩) v2 R) rfl rfl rfl (by decide) (Nat.le_of_ble_eq_true rfl) (c_X5_probe v2 R (show zU 117 from ⟨10, by decide, rfl⟩) x1 hv3) (Nat.le_refl _) (Nat.le_refl _) ?_
  rintro r9 h9 ⟨rfl, rfl⟩
  refine aw_aload_n (q := 22) dX2_tells_21 rfl rfl ?_
  refine aw_getr (q := 25) dX2_tells_22 rfl e_X2_11 (by decide) (o_X2 v3 R) rfl ?_
  refine aw_iload_n (q := 26) dX2_tells_25 rfl rfl ?_
  refine aw_aald (q := 27) (b := 87 + 3 * x2.toNatClampNeg) dX2_tells_26 rfl (by decide) (Or.inr (Or.inl rfl)) (o_X2a1 v3 R) (zin_in h1) rfl ?_
  refine aw_aload_n (q := 28) dX2_tells_27 rfl rfl ?_
  refine aw_getr (q := 31) dX2_tells_28 rfl e_X2_11 (by decide) (o_X2 v3 R) rfl ?_
  refine aw_bipush (q := 33) (v := 10) dX2_tells_31 rfl (by decide) ?_
  refine aw_aald (q := 34) (b := 117) dX2_tells_33 rfl (by decide) (Or.inr (Or.inl rfl)) (o_X2a1 v3 R) (zin_in (by decide)) rfl ?_
  obtain ⟨v4, hv4, H⟩ := zbd H
  refine aw_cv (M' := M_X5_sameOutcome) (as := [.ref 117]) (q := 37) dX2_tells_34 rfl W_X5_sameOutcome k_X2_44 i_X5_sameOutcome v_X5_sameOutcome (zU_lt (k := 0) (zU_of h1) (by decide)) (o_X5 (zU_of h1) v3 R) rfl rfl rfl (by decide) (Nat.le_of_ble_eq_true rfl) (c_X5_sameOutcome v3 R (zU_of h1) (show zU 117 from ⟨10, by decide, rfl⟩) hv4) (Nat.le_refl _) (Nat.le_refl _) ?_
  rintro r9 h9 ⟨rfl, rfl⟩
  refine aw_ifneB (q := 40) (t := 44) dX2_tells_37 rfl (by decide) (fun h5 => ?_) (fun h5 => ?_)
  · replace H := zt h5 H
    refine aw_iconst (q := 45) (v := 0) dX2_tells_44 rfl (by decide) ?_
    cases H
    exact aw_ret dX2_tells_45 rfl rfl rfl rfl ⟨rfl, rfl⟩
  · replace H := zf h5 H
    refine aw_iconst (q := 41) (v := 1) dX2_tells_40 rfl (by decide) ?_
    refine aw_goto (q := 45) dX2_tells_41 (by decide) ?_
    cases H
    exact aw_ret dX2_tells_45 rfl rfl rfl rfl ⟨rfl, rfl⟩
