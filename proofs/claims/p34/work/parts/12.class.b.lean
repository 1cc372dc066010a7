def f_X1_dropOldest_9 : Nat → zs → Nat → Int32 → Option (zs)
  | 0, _, _, _ => none
  | k + 1, s, x1, x2 =>
    if (4 : Int32) ≤ x2 then (
      some s
    ) else (
      if zin x2 4 = true then
      if zX4b (s.2 x2.toNatClampNeg) = true then
      if zin (x2 - 1) 4 = true then
      zlt (zcp s ((x2 - 1).toNatClampNeg) (s.2 x2.toNatClampNeg)) fun s5 =>
      f_X1_dropOldest_9 k s5 x1 (x2 + 1)
      else none
      else none
      else none
    )
set_option maxHeartbeats 4000000 in
set_option maxRecDepth 100000 in
theorem L_X1_dropOldest_9 {G : zG} {sl : Nat} {P : Option Value → zH → Prop} (R : zr) {x1 : Nat} (hx1 : zX4 x1) : ∀ (k : Nat) (s : zs) (x2 : Int32) (e : zs), f_X1_dropOldest_9 k s x1 x2 = some e → (AV G M_X1_dropOldest 0 sl P 34 [some (.ref 1), some (.ref x1), none] [] (zT e R)) → AV G M_X1_dropOldest 0 sl P 9 [some (.ref 1), some (.ref x1), some (.int x2)] [] (zT s R) := by
  intro k
  induction k with
  | zero =>
    intro s x2 e H
    unfold f_X1_dropOldest_9 at H
    cases H
  | succ k ih =>
    intro s x2 e H KE
    unfold f_X1_dropOldest_9 at H
    refine aw_iload_n (q := 10) dX1_dropOldest_9 rfl rfl ?_
    refine aw_iconst (q := 11) (v := 4) dX1_dropOldest_10 rfl (by decide) ?_
    refine aw_icmp_ge (q := 14) (t := 34) dX1_dropOldest_11 rfl (by decide) (fun h1 => ?_) (fun h1 => ?_)
    · replace H := zt h1 H
      cases H
      exact aw_fewer (L' := [some (.ref 1), some (.ref x1), none]) ⟨rfl, ⟨rfl, trivial⟩⟩ KE
    · replace H := zf h1 H
      refine aw_aload_n (q := 15) dX1_dropOldest_14 rfl rfl ?_
      refine aw_getr (q := 18) dX1_dropOldest_15 rfl e_X1_11 (by decide) (o_X1 s R) rfl ?_
      refine aw_iload_n (q := 19) dX1_dropOldest_18 rfl rfl ?_
      refine aw_iconst (q := 20) (v := 1) dX1_dropOldest_19 rfl (by decide) ?_
      refine aw_isub (q := 21) dX1_dropOldest_20 rfl ?_
      refine aw_aload_n (q := 22) dX1_dropOldest_21 rfl rfl ?_
      refine aw_getr (q := 25) dX1_dropOldest_22 rfl e_X1_11 (by decide) (o_X1 s R) rfl ?_
      refine aw_iload_n (q := 26) dX1_dropOldest_25 rfl rfl ?_
      obtain ⟨h2, H⟩ := zio H
      obtain ⟨h3, H⟩ := zio H
      refine aw_aald (q := 27) (b := s.2 x2.toNatClampNeg) dX1_dropOldest_26 rfl (by decide) (Or.inl rfl) (o_X1a0 s R) (zin_in h2) rfl ?_
      obtain ⟨h4, H⟩ := zio H
      obtain ⟨s5, q6, H⟩ := zltd H
      refine aw_aast (q := 28) dX1_dropOldest_27 rfl (by decide) (o_X1a0 s R) (zX4_lt (zX4b_of h3)) (o_X4 (zX4b_of h3) s R) rfl (zin_in h4) (zT_upP.trans (congrArg (fun z => zT z R) q6.symm)) ?_
      refine aw_iinc (q := 31) (v := x2 + 1) (L' := [some (.ref 1), some (.ref x1), some (.int (x2 + 1))]) dX1_dropOldest_28 rfl rfl (by first | rfl | decide) (by decide) rfl rfl ?_
      refine aw_goto (q := 9) dX1_dropOldest_31 (by decide) ?_
      exact aw_fewer (L' := [some (.ref 1), some (.ref x1), some (.int (x2 + 1))]) ⟨rfl, ⟨rfl, ⟨rfl, trivial⟩⟩⟩ (ih s5 (x2 + 1) _ H KE)
def f_X1_dropOldest (s : zs) : Option zs :=
  if zX4b (s.2 0) = true then
  Option.bind (f_X1_dropOldest_9 zFu s (s.2 0) 1) fun e2 =>
  zlt (zcp e2 3 (s.2 0)) fun s3 =>
  zlt (zc s3 1 1 3) fun s5 =>
  some s5
  else none
set_option maxHeartbeats 4000000 in
set_option maxRecDepth 100000 in
theorem c_X1_dropOldest {G : zG} {sl : Nat} (s : zs) (R : zr)  {v9 : zs} (H : f_X1_dropOldest s = some v9) : zMv G 0 M_X1_dropOldest [.ref 1] sl (zT s R) (fun r h' => r = none ∧ h' = zT v9 R) := by
  unfold f_X1_dropOldest at H
  refine zMv_of (L := [some (.ref 1), none, none]) (by decide) rfl (Nat.le_of_ble_eq_true rfl) rfl ?_
  refine aw_aload_n (q := 1) dX1_dropOldest_0 rfl rfl ?_
  refine aw_getr (q := 4) dX1_dropOldest_1 rfl e_X1_11 (by decide) (o_X1 s R) rfl ?_
  refine aw_iconst (q := 5) (v := 0) dX1_dropOldest_4 rfl (by decide) ?_
  obtain ⟨h1, H⟩ := zio H
  refine aw_aald (q := 6) (b := s.2 0) dX1_dropOldest_5 rfl (by decide) (Or.inl rfl) (o_X1a0 s R) (zin_in (by decide)) rfl ?_
  refine aw_astore_n (q := 7) (L' := [some (.ref 1), some (.ref (s.2 0)), none]) dX1_dropOldest_6 rfl (by decide) rfl rfl ?_
  refine aw_iconst (q := 8) (v := 1) dX1_dropOldest_7 rfl (by decide) ?_
  refine aw_istore_n (q := 9) (L' := [some (.ref 1), some (.ref (s.2 0)), some (.int 1)]) dX1_dropOldest_8 rfl (by decide) rfl rfl ?_
  obtain ⟨e2, he2, H⟩ := zbd H
  refine aw_fewer (L' := [some (.ref 1), some (.ref (s.2 0)), some (.int 1)]) ⟨rfl, ⟨rfl, ⟨rfl, trivial⟩⟩⟩ ?_
  refine L_X1_dropOldest_9 R (zX4b_of h1) zFu s 1 e2 he2 ?_
  refine aw_aload_n (q := 35) dX1_dropOldest_34 rfl rfl ?_
  refine aw_getr (q := 38) dX1_dropOldest_35 rfl e_X1_11 (by decide) (o_X1 e2 R) rfl ?_
  refine aw_iconst (q := 39) (v := 3) dX1_dropOldest_38 rfl (by decide) ?_
  refine aw_aload_n (q := 40) dX1_dropOldest_39 rfl rfl ?_
  obtain ⟨s3, q4, H⟩ := zltd H
  refine aw_aast (q := 41) dX1_dropOldest_40 rfl (by decide) (o_X1a0 e2 R) (zX4_lt (zX4b_of h1)) (o_X4 (zX4b_of h1) e2 R) rfl (zin_in (by decide)) (zT_upP.trans (congrArg (fun z => zT z R) q4.symm)) ?_
  refine aw_aload_n (q := 42) dX1_dropOldest_41 rfl rfl ?_
  refine aw_iconst (q := 43) (v := 3) dX1_dropOldest_42 rfl (by decide) ?_
  obtain ⟨s5, q6, H⟩ := zltd H
  refine aw_put (q := 46) dX1_dropOldest_43 rfl f_X1_23 (by decide) (o_X1 s3 R) rfl rfl (Nat.le_of_ble_eq_true rfl) ((p_X1_1).trans (congrArg (fun z => zT z R) q6.symm)) ?_
  cases H
  exact aw_vret dX1_dropOldest_46 rfl rfl rfl ⟨rfl, rfl⟩
def f_X4_copyFrom (s : zs) (x : Nat) (x1 : Nat) : Option zs :=
  Option.bind (f_X0_copyFrom s (sB x) (sB x1)) fun v1 =>
  zlt (zcr v1 (sD x) (va_cpy (v1.1 (sD x1)) (v1.1 (sD x)) 0 0 10)) fun s2 =>
  zlt (zc s2 x 2 (s2.1 x1 2)) fun s4 =>
  zlt (zc s4 x 3 (s4.1 x1 3)) fun s6 =>
  zlt (zc s6 x 4 (s6.1 x1 4)) fun s8 =>
  zlt (zc s8 x 5 (s8.1 x1 5)) fun s10 =>
  zlt (zc s10 x 6 (s10.1 x1 6)) fun s12 =>
  zlt (zc s12 x 7 (s12.1 x1 7)) fun s14 =>
  some s14
set_option maxHeartbeats 4000000 in
set_option maxRecDepth 100000 in
theorem c_X4_copyFrom {G : zG} {sl : Nat} (s : zs) (R : zr) {x : Nat} (hx : zX4 x) {x1 : Nat} (hx1 : zX4 x1) {v9 : zs} (H : f_X4_copyFrom s x x1 = some v9) : zMv G 3 M_X4_copyFrom [.ref x, .ref x1] sl (zT s R) (fun r h' => r = none ∧ h' = zT v9 R) := by
  unfold f_X4_copyFrom at H
  refine zMv_of (L := [some (.ref x), some (.ref x1)]) (by decide) rfl (Nat.le_of_ble_eq_true rfl) rfl ?_
  refine aw_aload_n (q := 1) dX4_copyFrom_0 rfl rfl ?_
  refine aw_getr (q := 4) dX4_copyFrom_1 rfl e_X4_25 (zX4_lt hx) (o_X4 hx s R) rfl ?_
  refine aw_aload_n (q := 5) dX4_copyFrom_4 rfl rfl ?_
  refine aw_getr (q := 8) dX4_copyFrom_5 rfl e_X4_25 (zX4_lt hx1) (o_X4 hx1 s R) rfl ?_
  obtain ⟨v1, hv1, H⟩ := zbd H
  refine aw_cv (M' := M_X0_copyFrom) (as := [.ref (sB x1)]) (q := 11) dX4_copyFrom_8 rfl W_X0_copyFrom k_X4_35 i_X0_copyFrom v_X0_copyFrom (zB_lt0 (zX4_B hx)) (o_X0 (zX4_B hx) s R) rfl rfl rfl (by decide) (Nat.le_of_ble_eq_true rfl) (c_X0_copyFrom s R (zX4_B hx) (zX4_B hx1) hv1) (Nat.le_refl _) (Nat.le_refl _) ?_
  rintro r9 h9 ⟨rfl, rfl⟩
  refine aw_aload_n (q := 12) dX4_copyFrom_11 rfl rfl ?_
  refine aw_getr (q := 15) dX4_copyFrom_12 rfl e_X4_9 (zX4_lt hx1) (o_X4 hx1 v1 R) rfl ?_
  refine aw_iconst (q := 16) (v := 0) dX4_copyFrom_15 rfl (by decide) ?_
  refine aw_aload_n (q := 17) dX4_copyFrom_16 rfl rfl ?_
  refine aw_getr (q := 20) dX4_copyFrom_17 rfl e_X4_9 (zX4_lt hx) (o_X4 hx v1 R) rfl ?_
  refine aw_iconst (q := 21) (v := 0) dX4_copyFrom_20 rfl (by decide) ?_
  refine aw_bipush (q := 23) (v := 10) dX4_copyFrom_21 rfl (by decide) ?_
  obtain ⟨s2, q3, H⟩ := zltd H
  refine aw_copy (q := 26) dX4_copyFrom_23 rfl k_X4_41 (zX4_ltD hx1) (zX4_ltD hx) (o_X4a1 hx1 v1 R) (o_X4a1 hx v1 R) (by decide) (by decide) (by decide) (by decide) (by decide) (by decide) (Nat.le_of_ble_eq_true rfl) ((r_X4a1 hx).trans (congrArg (fun z => zT z R) q3.symm)) ?_
  refine aw_aload_n (q := 27) dX4_copyFrom_26 rfl rfl ?_
  refine aw_aload_n (q := 28) dX4_copyFrom_27 rfl rfl ?_
  refine aw_getr (q := 31) dX4_copyFrom_28 rfl e_X4_47 (zX4_lt hx1) (o_X4 hx1 s2 R) rfl ?_
  obtain ⟨s4, q5, H⟩ := zltd H
  refine aw_put (q := 34) dX4_copyFrom_31 rfl f_X4_47 (zX4_lt hx) (o_X4 hx s2 R) rfl rfl (Nat.le_of_ble_eq_true rfl) ((p_X4_2 hx).trans (congrArg (fun z => zT z R) q5.symm)) ?_
  refine aw_aload_n (q := 35) dX4_copyFrom_34 rfl rfl ?_
  refine aw_aload_n (q := 36) dX4_copyFrom_35 rfl rfl ?_
  refine aw_getr (q := 39) dX4_copyFrom_36 rfl e_X4_15 (zX4_lt hx1) (o_X4 hx1 s4 R) rfl ?_
  obtain ⟨s6, q7, H⟩ := zltd H
  refine aw_put (q := 42) dX4_copyFrom_39 rfl f_X4_15 (zX4_lt hx) (o_X4 hx s4 R) rfl rfl (Nat.le_of_ble_eq_true rfl) ((p_X4_3 hx).trans (congrArg (fun z => zT z R) q7.symm)) ?_
  refine aw_aload_n (q := 43) dX4_copyFrom_42 rfl rfl ?_
  refine aw_aload_n (q := 44) dX4_copyFrom_43 rfl rfl ?_
  refine aw_getr (q := 47) dX4_copyFrom_44 rfl e_X4_19 (zX4_lt hx1) (o_X4 hx1 s6 R) rfl ?_
  obtain ⟨s8, q9, H⟩ := zltd H
  refine aw_put (q := 50) dX4_copyFrom_47 rfl f_X4_19 (zX4_lt hx) (o_X4 hx s6 R) rfl rfl (Nat.le_of_ble_eq_true rfl) ((p_X4_4 hx).trans (congrArg (fun z => zT z R) q9.symm)) ?_
  refine aw_aload_n (q := 51) dX4_copyFrom_50 rfl rfl ?_
  refine aw_aload_n (q := 52) dX4_copyFrom_51 rfl rfl ?_
  refine aw_getr (q := 55) dX4_copyFrom_52 rfl e_X4_22 (zX4_lt hx1) (o_X4 hx1 s8 R) rfl ?_
  obtain ⟨s10, q11, H⟩ := zltd H
  refine aw_put (q := 58) dX4_copyFrom_55 rfl f_X4_22 (zX4_lt hx) (o_X4 hx s8 R) rfl rfl (Nat.le_of_ble_eq_true rfl) ((p_X4_5 hx).trans (congrArg (fun z => zT z R) q11.symm)) ?_
  refine aw_aload_n (q := 59) dX4_copyFrom_58 rfl rfl ?_
  refine aw_aload_n (q := 60) dX4_copyFrom_59 rfl rfl ?_
  refine aw_getr (q := 63) dX4_copyFrom_60 rfl e_X4_50 (zX4_lt hx1) (o_X4 hx1 s10 R) rfl ?_
  obtain ⟨s12, q13, H⟩ := zltd H
  refine aw_put (q := 66) dX4_copyFrom_63 rfl f_X4_50 (zX4_lt hx) (o_X4 hx s10 R) rfl rfl (Nat.le_of_ble_eq_true rfl) ((p_X4_6 hx).trans (congrArg (fun z => zT z R) q13.symm)) ?_
  refine aw_aload_n (q := 67) dX4_copyFrom_66 rfl rfl ?_
  refine aw_aload_n (q := 68) dX4_copyFrom_67 rfl rfl ?_
  refine aw_getr (q := 71) dX4_copyFrom_68 rfl e_X4_53 (zX4_lt hx1) (o_X4 hx1 s12 R) rfl ?_
  obtain ⟨s14, q15, H⟩ := zltd H
  refine aw_put (q := 74) dX4_copyFrom_71 rfl f_X4_53 (zX4_lt hx) (o_X4 hx s12 R) rfl rfl (Nat.le_of_ble_eq_true rfl) ((p_X4_7 hx).trans (congrArg (fun z => zT z R) q15.symm)) ?_
  cases H
  exact aw_vret dX4_copyFrom_74 rfl rfl rfl ⟨rfl, rfl⟩
def f_X1_keep (s : zs) (x1 : Nat) : Option zs :=
  if (s.1 1 1) < 4 then (
    if zin (s.1 1 1) 4 = true then
    if zX4b (s.2 ((s.1 1 1).toNatClampNeg)) = true then
    Option.bind (f_X4_copyFrom s (s.2 ((s.1 1 1).toNatClampNeg)) x1) fun v4 =>
    zlt (zc v4 1 1 ((v4.1 1 1) + 1)) fun s5 =>
    some s5
    else none
    else none
  ) else (
    Option.bind (f_X1_dropOldest s) fun v7 =>
    if zin (v7.1 1 1) 4 = true then
    if zX4b (v7.2 ((v7.1 1 1).toNatClampNeg)) = true then
    Option.bind (f_X4_copyFrom v7 (v7.2 ((v7.1 1 1).toNatClampNeg)) x1) fun v10 =>
    zlt (zc v10 1 1 ((v10.1 1 1) + 1)) fun s11 =>
    some s11
    else none
    else none
  )
set_option maxHeartbeats 4000000 in
set_option maxRecDepth 100000 in
theorem c_X1_keep {G : zG} {sl : Nat} (s : zs) (R : zr) {x1 : Nat} (hx1 : zX4 x1) {v9 : zs} (H : f_X1_keep s x1 = some v9) : zMv G 4 M_X1_keep [.ref 1, .ref x1] sl (zT s R) (fun r h' => r = none ∧ h' = zT v9 R) := by
  unfold f_X1_keep at H
  refine zMv_of (L := [some (.ref 1), some (.ref x1)]) (by decide) rfl (Nat.le_of_ble_eq_true rfl) rfl ?_
  refine aw_aload_n (q := 1) dX1_keep_0 rfl rfl ?_
  refine aw_getr (q := 4) dX1_keep_1 rfl e_X1_23 (by decide) (o_X1 s R) rfl ?_
  refine aw_iconst (q := 5) (v := 4) dX1_keep_4 rfl (by decide) ?_
  refine aw_icmp_lt (q := 8) (t := 12) dX1_keep_5 rfl (by decide) (fun h1 => ?_) (fun h1 => ?_)
  · replace H := zt h1 H
    refine aw_aload_n (q := 13) dX1_keep_12 rfl rfl ?_
    refine aw_getr (q := 16) dX1_keep_13 rfl e_X1_11 (by decide) (o_X1 s R) rfl ?_
    refine aw_aload_n (q := 17) dX1_keep_16 rfl rfl ?_
    refine aw_getr (q := 20) dX1_keep_17 rfl e_X1_23 (by decide) (o_X1 s R) rfl ?_
    obtain ⟨h2, H⟩ := zio H
    obtain ⟨h3, H⟩ := zio H
    refine aw_aald (q := 21) (b := s.2 ((s.1 1 1).toNatClampNeg)) dX1_keep_20 rfl (by decide) (Or.inl rfl) (o_X1a0 s R) (zin_in h2) rfl ?_
    refine aw_aload_n (q := 22) dX1_keep_21 rfl rfl ?_
    obtain ⟨v4, hv4, H⟩ := zbd H
    refine aw_cv (M' := M_X4_copyFrom) (as := [.ref x1]) (q := 25) dX1_keep_22 rfl W_X4_copyFrom k_X1_30 i_X4_copyFrom v_X4_copyFrom (zX4_lt (zX4b_of h3)) (o_X4 (zX4b_of h3) s R) rfl rfl rfl (by decide) (Nat.le_of_ble_eq_true rfl) (c_X4_copyFrom s R (zX4b_of h3) hx1 hv4) (Nat.le_refl _) (Nat.le_refl _) ?_
    rintro r9 h9 ⟨rfl, rfl⟩
    refine aw_aload_n (q := 26) dX1_keep_25 rfl rfl ?_
    refine aw_dup (q := 27) dX1_keep_26 rfl rfl ?_
    refine aw_getr (q := 30) dX1_keep_27 rfl e_X1_23 (by decide) (o_X1 v4 R) rfl ?_
    refine aw_iconst (q := 31) (v := 1) dX1_keep_30 rfl (by decide) ?_
    refine aw_iadd (q := 32) dX1_keep_31 rfl ?_
    obtain ⟨s5, q6, H⟩ := zltd H
    refine aw_put (q := 35) dX1_keep_32 rfl f_X1_23 (by decide) (o_X1 v4 R) rfl rfl (Nat.le_of_ble_eq_true rfl) ((p_X1_1).trans (congrArg (fun z => zT z R) q6.symm)) ?_
    cases H
    exact aw_vret dX1_keep_35 rfl rfl rfl ⟨rfl, rfl⟩
  · replace H := zf h1 H
    refine aw_aload_n (q := 9) dX1_keep_8 rfl rfl ?_
    obtain ⟨v7, hv7, H⟩ := zbd H
    refine aw_cv (M' := M_X1_dropOldest) (as := []) (q := 12) dX1_keep_9 rfl W_X1_dropOldest k_X1_27 i_X1_dropOldest v_X1_dropOldest (by decide) (o_X1 s R) rfl rfl rfl (by decide) (Nat.le_of_ble_eq_true rfl) (c_X1_dropOldest s R hv7) (Nat.le_refl _) (Nat.le_refl _) ?_
    rintro r9 h9 ⟨rfl, rfl⟩
    refine aw_aload_n (q := 13) dX1_keep_12 rfl rfl ?_
    refine aw_getr (q := 16) dX1_keep_13 rfl e_X1_11 (by decide) (o_X1 v7 R) rfl ?_
    refine aw_aload_n (q := 17) dX1_keep_16 rfl rfl ?_
    refine aw_getr (q := 20) dX1_keep_17 rfl e_X1_23 (by decide) (o_X1 v7 R) rfl ?_
    obtain ⟨h8, H⟩ := zio H
    obtain ⟨h9, H⟩ := zio H
    refine aw_aald (q := 21) (b := v7.2 ((v7.1 1 1).toNatClampNeg)) dX1_keep_20 rfl (by decide) (Or.inl rfl) (o_X1a0 v7 R) (zin_in h8) rfl ?_
    refine aw_aload_n (q := 22) dX1_keep_21 rfl rfl ?_
    obtain ⟨v10, hv10, H⟩ := zbd H
    refine aw_cv (M' := M_X4_copyFrom) (as := [.ref x1]) (q := 25) dX1_keep_22 rfl W_X4_copyFrom k_X1_30 i_X4_copyFrom v_X4_copyFrom (zX4_lt (zX4b_of h9)) (o_X4 (zX4b_of h9) v7 R) rfl rfl rfl (by decide) (Nat.le_of_ble_eq_true rfl) (c_X4_copyFrom v7 R (zX4b_of h9) hx1 hv10) (Nat.le_refl _) (Nat.le_refl _) ?_
    rintro r9 h9 ⟨rfl, rfl⟩
    refine aw_aload_n (q := 26) dX1_keep_25 rfl rfl ?_
    refine aw_dup (q := 27) dX1_keep_26 rfl rfl ?_
    refine aw_getr (q := 30) dX1_keep_27 rfl e_X1_23 (by decide) (o_X1 v10 R) rfl ?_
    refine aw_iconst (q := 31) (v := 1) dX1_keep_30 rfl (by decide) ?_
    refine aw_iadd (q := 32) dX1_keep_31 rfl ?_
    obtain ⟨s11, q12, H⟩ := zltd H
    refine aw_put (q := 35) dX1_keep_32 rfl f_X1_23 (by decide) (o_X1 v10 R) rfl rfl (Nat.le_of_ble_eq_true rfl) ((p_X1_1).trans (congrArg (fun z => zT z R) q12.symm)) ?_
    cases H
    exact aw_vret dX1_keep_35 rfl rfl rfl ⟨rfl, rfl⟩
def f_X1_restore (s : zs) (x1 : Nat) : Option zs :=
  if (s.1 1 1) ≤ 0 then (
    some s
  ) else (
    zlt (zc s 1 1 ((s.1 1 1) - 1)) fun s2 =>
    if zin (s2.1 1 1) 4 = true then
    if zX4b (s2.2 ((s2.1 1 1).toNatClampNeg)) = true then
    Option.bind (f_X4_copyFrom s2 x1 (s2.2 ((s2.1 1 1).toNatClampNeg))) fun v6 =>
    some v6
    else none
    else none
  )
set_option maxHeartbeats 4000000 in
set_option maxRecDepth 100000 in
theorem c_X1_restore {G : zG} {sl : Nat} (s : zs) (R : zr) {x1 : Nat} (hx1 : zX4 x1) {v9 : zs} (H : f_X1_restore s x1 = some v9) : zMv G 4 M_X1_restore [.ref 1, .ref x1] sl (zT s R) (fun r h' => r = none ∧ h' = zT v9 R) := by
  unfold f_X1_restore at H
  refine zMv_of (L := [some (.ref 1), some (.ref x1)]) (by decide) rfl (Nat.le_of_ble_eq_true rfl) rfl ?_
  refine aw_aload_n (q := 1) dX1_restore_0 rfl rfl ?_
  refine aw_getr (q := 4) dX1_restore_1 rfl e_X1_23 (by decide) (o_X1 s R) rfl ?_
  refine aw_if_le (q := 7) (t := 30) dX1_restore_4 rfl (by decide) (fun h1 => ?_) (fun h1 => ?_)
  · replace H := zt h1 H
    cases H
    exact aw_vret dX1_restore_30 rfl rfl rfl ⟨rfl, rfl⟩
  · replace H := zf h1 H
    refine aw_aload_n (q := 8) dX1_restore_7 rfl rfl ?_
    refine aw_dup (q := 9) dX1_restore_8 rfl rfl ?_
    refine aw_getr (q := 12) dX1_restore_9 rfl e_X1_23 (by decide) (o_X1 s R) rfl ?_
    refine aw_iconst (q := 13) (v := 1) dX1_restore_12 rfl (by decide) ?_
    refine aw_isub (q := 14) dX1_restore_13 rfl ?_
    obtain ⟨s2, q3, H⟩ := zltd H
    refine aw_put (q := 17) dX1_restore_14 rfl f_X1_23 (by decide) (o_X1 s R) rfl rfl (Nat.le_of_ble_eq_true rfl) ((p_X1_1).trans (congrArg (fun z => zT z R) q3.symm)) ?_
    refine aw_aload_n (q := 18) dX1_restore_17 rfl rfl ?_
    refine aw_aload_n (q := 19) dX1_restore_18 rfl rfl ?_
    refine aw_getr (q := 22) dX1_restore_19 rfl e_X1_11 (by decide) (o_X1 s2 R) rfl ?_
    refine aw_aload_n (q := 23) dX1_restore_22 rfl rfl ?_
    refine aw_getr (q := 26) dX1_restore_23 rfl e_X1_23 (by decide) (o_X1 s2 R) rfl ?_
    obtain ⟨h4, H⟩ := zio H
    obtain ⟨h5, H⟩ := zio H
    refine aw_aald (q := 27) (b := s2.2 ((s2.1 1 1).toNatClampNeg)) dX1_restore_26 rfl (by decide) (Or.inl rfl) (o_X1a0 s2 R) (zin_in h4) rfl ?_
    obtain ⟨v6, hv6, H⟩ := zbd H
    refine aw_cv (M' := M_X4_copyFrom) (as := [.ref (s2.2 ((s2.1 1 1).toNatClampNeg))]) (q := 30) dX1_restore_27 rfl W_X4_copyFrom k_X1_30 i_X4_copyFrom v_X4_copyFrom (zX4_lt hx1) (o_X4 hx1 s2 R) rfl rfl rfl (by decide) (Nat.le_of_ble_eq_true rfl) (c_X4_copyFrom s2 R hx1 (zX4b_of h5) hv6) (Nat.le_refl _) (Nat.le_refl _) ?_
    rintro r9 h9 ⟨rfl, rfl⟩
    cases H
    exact aw_vret dX1_restore_30 rfl rfl rfl ⟨rfl, rfl⟩
def f_X5_linkingNet (s : zs) (u : Nat) (x1 : Int32) : Option Int32 :=
  if zin x1 16 = true then
  zlt (s.1 (64 + 2) x1.toNatClampNeg : Int32) fun y2 =>
  if y2 = (-1) then (
    some 0
  ) else (
    Option.bind (f_X0_suffers s 64 (s.1 u 1) 0 x1) fun v5 =>
    if v5 = true then (
      some 0
    ) else (
      Option.bind (f_X0_suffers s 64 (s.1 u 1) 2 y2) fun v7 =>
      if v7 = true then (
        some 0
      ) else (
        Option.bind (f_X0_suffers s 64 (s.1 u 1) 3 y2) fun v9 =>
        if v9 = true then (
          some 0
        ) else (
          some ((1 : Int32) <<< (y2 &&& 31))
        )
      )
    )
  )
  else none
set_option maxHeartbeats 4000000 in
set_option maxRecDepth 100000 in
theorem c_X5_linkingNet {G : zG} {sl : Nat} (s : zs) (R : zr) {u : Nat} (hu : zU u) (x1 : Int32) {v9 : Int32} (H : f_X5_linkingNet s u x1 = some v9) : zMv G 2 M_X5_linkingNet [.ref u, .int x1] sl (zT s R) (fun r h' => r = some (.int v9) ∧ h' = (zT s R)) := by
  unfold f_X5_linkingNet at H
  refine zMv_of (L := [some (.ref u), some (.int x1), none]) (by decide) rfl (Nat.le_of_ble_eq_true rfl) rfl ?_
  refine aw_aload_n (q := 1) dX5_linkingNet_0 rfl rfl ?_
  refine aw_getr (q := 4) dX5_linkingNet_1 rfl e_X5_18 (zU_lt (k := 0) hu (by decide)) (o_X5 hu s R) rfl ?_
  refine aw_getr (q := 7) dX5_linkingNet_4 rfl e_X5_54 (zB_lt0 zB64) (o_X0 zB64 s R) rfl ?_
  refine aw_iload_n (q := 8) dX5_linkingNet_7 rfl rfl ?_
  obtain ⟨h1, H⟩ := zio H
  refine aw_iald' (q := 9) (v := s.1 (64 + 2) x1.toNatClampNeg) dX5_linkingNet_8 rfl (zB_lt (k := 2) zB64 (by decide)) (o_X0a1 zB64 s R) (zin_in h1) rfl ?_
  obtain ⟨y2, q3, H⟩ := zltd H
  refine aw_nm q3 ?_
  refine aw_istore_n (q := 10) (L' := [some (.ref u), some (.int x1), some (.int y2)]) dX5_linkingNet_9 rfl (by decide) rfl rfl ?_
  refine aw_iload_n (q := 11) dX5_linkingNet_10 rfl rfl ?_
  refine aw_iconst (q := 12) (v := (-1)) dX5_linkingNet_11 rfl (by decide) ?_
  refine aw_icmp_eq (q := 15) (t := 63) dX5_linkingNet_12 rfl (by decide) (fun h4 => ?_) (fun h4 => ?_)
  · replace H := zt h4 H
    refine aw_iconst (q := 64) (v := 0) dX5_linkingNet_63 rfl (by decide) ?_
    cases H
    exact aw_ret dX5_linkingNet_64 rfl rfl rfl rfl ⟨rfl, rfl⟩
  · replace H := zf h4 H
    refine aw_aload_n (q := 16) dX5_linkingNet_15 rfl rfl ?_
    refine aw_getr (q := 19) dX5_linkingNet_16 rfl e_X5_18 (zU_lt (k := 0) hu (by decide)) (o_X5 hu s R) rfl ?_
    refine aw_aload_n (q := 20) dX5_linkingNet_19 rfl rfl ?_
    refine aw_getr (q := 23) dX5_linkingNet_20 rfl e_X5_22 (zU_lt (k := 0) hu (by decide)) (o_X5 hu s R) rfl ?_
    refine aw_iconst (q := 24) (v := 0) dX5_linkingNet_23 rfl (by decide) ?_
    refine aw_iload_n (q := 25) dX5_linkingNet_24 rfl rfl ?_
    obtain ⟨v5, hv5, H⟩ := zbd H
    refine aw_cv (M' := M_X0_suffers) (as := [.int (s.1 u 1), .int 0, .int x1]) (q := 28) dX5_linkingNet_25 rfl W_X0_suffers k_X5_57 i_X0_suffers v_X0_suffers (zB_lt0 zB64) (o_X0 zB64 s R) rfl rfl rfl (by decide) (Nat.le_of_ble_eq_true rfl) (c_X0_suffers s R zB64 (s.1 u 1) 0 x1 hv5) (Nat.le_refl _) (Nat.le_refl _) ?_
    rintro r9 h9 ⟨rfl, rfl⟩
    refine aw_ifneB (q := 31) (t := 63) dX5_linkingNet_28 rfl (by decide) (fun h6 => ?_) (fun h6 => ?_)
    · replace H := zt h6 H
      refine aw_iconst (q := 64) (v := 0) dX5_linkingNet_63 rfl (by decide) ?_
      cases H
      exact aw_ret dX5_linkingNet_64 rfl rfl rfl rfl ⟨rfl, rfl⟩
    · replace H := zf h6 H
      refine aw_aload_n (q := 32) dX5_linkingNet_31 rfl rfl ?_
      refine aw_getr (q := 35) dX5_linkingNet_32 rfl e_X5_18 (zU_lt (k := 0) hu (by decide)) (o_X5 hu s R) rfl ?_
      refine aw_aload_n (q := 36) dX5_linkingNet_35 rfl rfl ?_
      refine aw_getr (q := 39) dX5_linkingNet_36 rfl e_X5_22 (zU_lt (k := 0) hu (by decide)) (o_X5 hu s R) rfl ?_
      refine aw_iconst (q := 40) (v := 2) dX5_linkingNet_39 rfl (by decide) ?_
      refine aw_iload_n (q := 41) dX5_linkingNet_40 rfl rfl ?_
      obtain ⟨v7, hv7, H⟩ := zbd H
      refine aw_cv (M' := M_X0_suffers) (as := [.int (s.1 u 1), .int 2, .int y2]) (q := 44) dX5_linkingNet_41 rfl W_X0_suffers k_X5_57 i_X0_suffers v_X0_suffers (zB_lt0 zB64) (o_X0 zB64 s R) rfl rfl rfl (by decide) (Nat.le_of_ble_eq_true rfl) (c_X0_suffers s R zB64 (s.1 u 1) 2 y2 hv7) (Nat.le_refl _) (Nat.le_refl _) ?_
      rintro r9 h9 ⟨rfl, rfl⟩
      refine aw_ifneB (q := 47) (t := 63) dX5_linkingNet_44 rfl (by decide) (fun h8 => ?_) (fun h8 => ?_)
      · replace H := zt h8 H
        refine aw_iconst (q := 64) (v := 0) dX5_linkingNet_63 rfl (by decide) ?_
        cases H
        exact aw_ret dX5_linkingNet_64 rfl rfl rfl rfl ⟨rfl, rfl⟩
      · replace H := zf h8 H
        refine aw_aload_n (q := 48) dX5_linkingNet_47 rfl rfl ?_
        refine aw_getr (q := 51) dX5_linkingNet_48 rfl e_X5_18 (zU_lt (k := 0) hu (by decide)) (o_X5 hu s R) rfl ?_
        refine aw_aload_n (q := 52) dX5_linkingNet_51 rfl rfl ?_
        refine aw_getr (q := 55) dX5_linkingNet_52 rfl e_X5_22 (zU_lt (k := 0) hu (by decide)) (o_X5 hu s R) rfl ?_
        refine aw_iconst (q := 56) (v := 3) dX5_linkingNet_55 rfl (by decide) ?_
        refine aw_iload_n (q := 57) dX5_linkingNet_56 rfl rfl ?_
        obtain ⟨v9, hv9, H⟩ := zbd H
        refine aw_cv (M' := M_X0_suffers) (as := [.int (s.1 u 1), .int 3, .int y2]) (q := 60) dX5_linkingNet_57 rfl W_X0_suffers k_X5_57 i_X0_suffers v_X0_suffers (zB_lt0 zB64) (o_X0 zB64 s R) rfl rfl rfl (by decide) (Nat.le_of_ble_eq_true rfl) (c_X0_suffers s R zB64 (s.1 u 1) 3 y2 hv9) (Nat.le_refl _) (Nat.le_refl _) ?_
        rintro r9 h9 ⟨rfl, rfl⟩
        refine aw_ifeqB (q := 63) (t := 65) dX5_linkingNet_60 rfl (by decide) (fun h10 => ?_) (fun h10 => ?_)
        · replace H := zt h10 H
          refine aw_iconst (q := 64) (v := 0) dX5_linkingNet_63 rfl (by decide) ?_
          cases H
          exact aw_ret dX5_linkingNet_64 rfl rfl rfl rfl ⟨rfl, rfl⟩
        · replace H := zf h10 H
          refine aw_iconst (q := 66) (v := 1) dX5_linkingNet_65 rfl (by decide) ?_
          refine aw_iload_n (q := 67) dX5_linkingNet_66 rfl rfl ?_
          refine aw_ishl (q := 68) dX5_linkingNet_67 rfl ?_
          cases H
          exact aw_ret dX5_linkingNet_68 rfl rfl rfl rfl ⟨rfl, rfl⟩
def f_X5_followers (s : zs) (u : Nat) (x1 : Int32) : Option Int32 :=
  if zin x1 16 = true then
  zlt (s.1 (64 + 2) x1.toNatClampNeg : Int32) fun y2 =>
  if y2 = (-1) then (
    some ((1 : Int32) <<< (x1 &&& 31))
  ) else (
    Option.bind (f_X0_suffers s 64 (s.1 u 1) 0 x1) fun v5 =>
    if v5 = true then (
      some ((1 : Int32) <<< (x1 &&& 31))
    ) else (
      Option.bind (f_X0_suffers s 64 (s.1 u 1) 2 y2) fun v7 =>
      if v7 = true then (
        some 0
      ) else (
        Option.bind (f_X0_shortedWith s 64 (s.1 u 1) y2) fun v9 =>
        if v9 = (-1) then (
          if zin y2 8 = true then
          zlt (s.1 (64 + 1) y2.toNatClampNeg : Int32) fun y12 =>
          if f_X0_isFault s 64 (s.1 u 1) = true then (
            if zin (s.1 u 1) 10 = true then
            if (s.1 (64 + 6) ((s.1 u 1).toNatClampNeg)) = 0 then (
              zlt (y12 &&& (((1 : Int32) <<< ((s.1 (64 + 7) ((s.1 u 1).toNatClampNeg)) &&& 31)) ^^^ (-1)) : Int32) fun y17 =>
              some y17
            ) else (
              some y12
            )
            else none
          ) else (
            some y12
          )
          else none
        ) else (
          if zin y2 8 = true then
          if zin v9 8 = true then
          zlt ((s.1 (64 + 1) y2.toNatClampNeg) ||| (s.1 (64 + 1) v9.toNatClampNeg) : Int32) fun y21 =>
          if f_X0_isFault s 64 (s.1 u 1) = true then (
            if zin (s.1 u 1) 10 = true then
            if (s.1 (64 + 6) ((s.1 u 1).toNatClampNeg)) = 0 then (
              zlt (y21 &&& (((1 : Int32) <<< ((s.1 (64 + 7) ((s.1 u 1).toNatClampNeg)) &&& 31)) ^^^ (-1)) : Int32) fun y26 =>
              some y26
            ) else (
              some y21
            )
            else none
          ) else (
            some y21
          )
          else none
          else none
        )
      )
    )
  )
  else none
set_option maxHeartbeats 4000000 in
set_option maxRecDepth 100000 in
theorem c_X5_followers {G : zG} {sl : Nat} (s : zs) (R : zr) {u : Nat} (hu : zU u) (x1 : Int32) {v9 : Int32} (H : f_X5_followers s u x1 = some v9) : zMv G 2 M_X5_followers [.ref u, .int x1] sl (zT s R) (fun r h' => r = some (.int v9) ∧ h' = (zT s R)) := by
  unfold f_X5_followers at H
  refine zMv_of (L := [some (.ref u), some (.int x1), none, none, none]) (by decide) rfl (Nat.le_of_ble_eq_true rfl) rfl ?_
  refine aw_aload_n (q := 1) dX5_followers_0 rfl rfl ?_
  refine aw_getr (q := 4) dX5_followers_1 rfl e_X5_18 (zU_lt (k := 0) hu (by decide)) (o_X5 hu s R) rfl ?_
  refine aw_getr (q := 7) dX5_followers_4 rfl e_X5_54 (zB_lt0 zB64) (o_X0 zB64 s R) rfl ?_
  refine aw_iload_n (q := 8) dX5_followers_7 rfl rfl ?_
  obtain ⟨h1, H⟩ := zio H
  refine aw_iald' (q := 9) (v := s.1 (64 + 2) x1.toNatClampNeg) dX5_followers_8 rfl (zB_lt (k := 2) zB64 (by decide)) (o_X0a1 zB64 s R) (zin_in h1) rfl ?_
  obtain ⟨y2, q3, H⟩ := zltd H
  refine aw_nm q3 ?_
  refine aw_istore_n (q := 10) (L' := [some (.ref u), some (.int x1), some (.int y2), none, none]) dX5_followers_9 rfl (by decide) rfl rfl ?_
  refine aw_iload_n (q := 11) dX5_followers_10 rfl rfl ?_
  refine aw_iconst (q := 12) (v := (-1)) dX5_followers_11 rfl (by decide) ?_
  refine aw_icmp_eq (q := 15) (t := 31) dX5_followers_12 rfl (by decide) (fun h4 => ?_) (fun h4 => ?_)
  · replace H := zt h4 H
    refine aw_iconst (q := 32) (v := 1) dX5_followers_31 rfl (by decide) ?_
    refine aw_iload_n (q := 33) dX5_followers_32 rfl rfl ?_
    refine aw_ishl (q := 34) dX5_followers_33 rfl ?_
    cases H
    exact aw_ret dX5_followers_34 rfl rfl rfl rfl ⟨rfl, rfl⟩
  · replace H := zf h4 H
    refine aw_aload_n (q := 16) dX5_followers_15 rfl rfl ?_
    refine aw_getr (q := 19) dX5_followers_16 rfl e_X5_18 (zU_lt (k := 0) hu (by decide)) (o_X5 hu s R) rfl ?_
    refine aw_aload_n (q := 20) dX5_followers_19 rfl rfl ?_
    refine aw_getr (q := 23) dX5_followers_20 rfl e_X5_22 (zU_lt (k := 0) hu (by decide)) (o_X5 hu s R) rfl ?_
    refine aw_iconst (q := 24) (v := 0) dX5_followers_23 rfl (by decide) ?_
    refine aw_iload_n (q := 25) dX5_followers_24 rfl rfl ?_
    obtain ⟨v5, hv5, H⟩ := zbd H
    refine aw_cv (M' := M_X0_suffers) (as := [.int (s.1 u 1), .int 0, .int x1]) (q := 28) dX5_followers_25 rfl W_X0_suffers k_X5_57 i_X0_suffers v_X0_suffers (zB_lt0 zB64) (o_X0 zB64 s R) rfl rfl rfl (by decide) (Nat.le_of_ble_eq_true rfl) (c_X0_suffers s R zB64 (s.1 u 1) 0 x1 hv5) (Nat.le_refl _) (Nat.le_refl _) ?_
    rintro r9 h9 ⟨rfl, rfl⟩
    refine aw_ifeqB (q := 31) (t := 35) dX5_followers_28 rfl (by decide) (fun h6 => ?_) (fun h6 => ?_)
    · replace H := zt h6 H
      refine aw_iconst (q := 32) (v := 1) dX5_followers_31 rfl (by decide) ?_
      refine aw_iload_n (q := 33) dX5_followers_32 rfl rfl ?_
      refine aw_ishl (q := 34) dX5_followers_33 rfl ?_
      cases H
      exact aw_ret dX5_followers_34 rfl rfl rfl rfl ⟨rfl, rfl⟩
    · replace H := zf h6 H
      refine aw_aload_n (q := 36) dX5_followers_35 rfl rfl ?_
      refine aw_getr (q := 39) dX5_followers_36 rfl e_X5_18 (zU_lt (k := 0) hu (by decide)) (o_X5 hu s R) rfl ?_
      refine aw_aload_n (q := 40) dX5_followers_39 rfl rfl ?_
      refine aw_getr (q := 43) dX5_followers_40 rfl e_X5_22 (zU_lt (k := 0) hu (by decide)) (o_X5 hu s R) rfl ?_
      refine aw_iconst (q := 44) (v := 2) dX5_followers_43 rfl (by decide) ?_
      refine aw_iload_n (q := 45) dX5_followers_44 rfl rfl ?_
      obtain ⟨v7, hv7, H⟩ := zbd H
      refine aw_cv (M' := M_X0_suffers) (as := [.int (s.1 u 1), .int 2, .int y2]) (q := 48) dX5_followers_45 rfl W_X0_suffers k_X5_57 i_X0_suffers v_X0_suffers (zB_lt0 zB64) (o_X0 zB64 s R) rfl rfl rfl (by decide) (Nat.le_of_ble_eq_true rfl) (c_X0_suffers s R zB64 (s.1 u 1) 2 y2 hv7) (Nat.le_refl _) (Nat.le_refl _) ?_
      rintro r9 h9 ⟨rfl, rfl⟩
      refine aw_ifeqB (q := 51) (t := 53) dX5_followers_48 rfl (by decide) (fun h8 => ?_) (fun h8 => ?_)
      · replace H := zt h8 H
        refine aw_iconst (q := 52) (v := 0) dX5_followers_51 rfl (by decide) ?_
        cases H
        exact aw_ret dX5_followers_52 rfl rfl rfl rfl ⟨rfl, rfl⟩
      · replace H := zf h8 H
        refine aw_aload_n (q := 54) dX5_followers_53 rfl rfl ?_
        refine aw_getr (q := 57) dX5_followers_54 rfl e_X5_18 (zU_lt (k := 0) hu (by decide)) (o_X5 hu s R) rfl ?_
        refine aw_aload_n (q := 58) dX5_followers_57 rfl rfl ?_
        refine aw_getr (q := 61) dX5_followers_58 rfl e_X5_22 (zU_lt (k := 0) hu (by decide)) (o_X5 hu s R) rfl ?_
        refine aw_iload_n (q := 62) dX5_followers_61 rfl rfl ?_
        obtain ⟨v9, hv9, H⟩ := zbd H
        refine aw_cv (M' := M_X0_shortedWith) (as := [.int (s.1 u 1), .int y2]) (q := 65) dX5_followers_62 rfl W_X0_shortedWith k_X5_61 i_X0_shortedWith v_X0_shortedWith (zB_lt0 zB64) (o_X0 zB64 s R) rfl rfl rfl (by decide) (Nat.le_of_ble_eq_true rfl) (c_X0_shortedWith s R zB64 (s.1 u 1) y2 hv9) (Nat.le_refl _) (Nat.le_refl _) ?_
        rintro r9 h9 ⟨rfl, rfl⟩
        refine aw_istore_n (q := 66) (L' := [some (.ref u), some (.int x1), some (.int y2), some (.int v9), none]) dX5_followers_65 rfl (by decide) rfl rfl ?_
        refine aw_iload_n (q := 67) dX5_followers_66 rfl rfl ?_
        refine aw_iconst (q := 68) (v := (-1)) dX5_followers_67 rfl (by decide) ?_
        refine aw_icmp_neP (q := 71) (t := 83) dX5_followers_68 rfl (by decide) (fun h10 => ?_) (fun h10 => ?_)
        · replace H := zt h10 H
          refine aw_aload_n (q := 72) dX5_followers_71 rfl rfl ?_
          refine aw_getr (q := 75) dX5_followers_72 rfl e_X5_18 (zU_lt (k := 0) hu (by decide)) (o_X5 hu s R) rfl ?_
          refine aw_getr (q := 78) dX5_followers_75 rfl e_X5_35 (zB_lt0 zB64) (o_X0 zB64 s R) rfl ?_
          refine aw_iload_n (q := 79) dX5_followers_78 rfl rfl ?_
          obtain ⟨h11, H⟩ := zio H
          refine aw_iald' (q := 80) (v := s.1 (64 + 1) y2.toNatClampNeg) dX5_followers_79 rfl (zB_lt (k := 1) zB64 (by decide)) (o_X0a0 zB64 s R) (zin_in h11) rfl ?_
          refine aw_goto (q := 102) dX5_followers_80 (by decide) ?_
          obtain ⟨y12, q13, H⟩ := zltd H
          refine aw_nm q13 ?_
          refine aw_istore (q := 104) (L' := [some (.ref u), some (.int x1), some (.int y2), some (.int v9), some (.int y12)]) dX5_followers_102 rfl (by decide) rfl rfl ?_
          refine aw_aload_n (q := 105) dX5_followers_104 rfl rfl ?_
          refine aw_getr (q := 108) dX5_followers_105 rfl e_X5_18 (zU_lt (k := 0) hu (by decide)) (o_X5 hu s R) rfl ?_
          refine aw_aload_n (q := 109) dX5_followers_108 rfl rfl ?_
          refine aw_getr (q := 112) dX5_followers_109 rfl e_X5_22 (zU_lt (k := 0) hu (by decide)) (o_X5 hu s R) rfl ?_
          refine aw_cv (M' := M_X0_isFault) (as := [.int (s.1 u 1)]) (q := 115) dX5_followers_112 rfl W_X0_isFault k_X5_26 i_X0_isFault v_X0_isFault (zB_lt0 zB64) (o_X0 zB64 s R) rfl rfl rfl (by decide) (Nat.le_of_ble_eq_true rfl) (c_X0_isFault s R zB64 (s.1 u 1)) (Nat.le_refl _) (Nat.le_refl _) ?_
          rintro r9 h9 ⟨rfl, rfl⟩
          refine aw_ifeqB (q := 118) (t := 154) dX5_followers_115 rfl (by decide) (fun h14 => ?_) (fun h14 => ?_)
          · replace H := zt h14 H
            refine aw_aload_n (q := 119) dX5_followers_118 rfl rfl ?_
            refine aw_getr (q := 122) dX5_followers_119 rfl e_X5_18 (zU_lt (k := 0) hu (by decide)) (o_X5 hu s R) rfl ?_
            refine aw_getr (q := 125) dX5_followers_122 rfl e_X5_32 (zB_lt0 zB64) (o_X0 zB64 s R) rfl ?_
            refine aw_aload_n (q := 126) dX5_followers_125 rfl rfl ?_
            refine aw_getr (q := 129) dX5_followers_126 rfl e_X5_22 (zU_lt (k := 0) hu (by decide)) (o_X5 hu s R) rfl ?_
            obtain ⟨h15, H⟩ := zio H
            refine aw_iald' (q := 130) (v := s.1 (64 + 6) ((s.1 u 1).toNatClampNeg)) dX5_followers_129 rfl (zB_lt (k := 6) zB64 (by decide)) (o_X0a5 zB64 s R) (zin_in h15) rfl ?_
            refine aw_if_neP (q := 133) (t := 154) dX5_followers_130 rfl (by decide) (fun h16 => ?_) (fun h16 => ?_)
            · replace H := zt h16 H
              refine aw_iload (q := 135) dX5_followers_133 rfl rfl ?_
              refine aw_iconst (q := 136) (v := 1) dX5_followers_135 rfl (by decide) ?_
              refine aw_aload_n (q := 137) dX5_followers_136 rfl rfl ?_
              refine aw_getr (q := 140) dX5_followers_137 rfl e_X5_18 (zU_lt (k := 0) hu (by decide)) (o_X5 hu s R) rfl ?_
              refine aw_getr (q := 143) dX5_followers_140 rfl e_X5_38 (zB_lt0 zB64) (o_X0 zB64 s R) rfl ?_
              refine aw_aload_n (q := 144) dX5_followers_143 rfl rfl ?_
              refine aw_getr (q := 147) dX5_followers_144 rfl e_X5_22 (zU_lt (k := 0) hu (by decide)) (o_X5 hu s R) rfl ?_
              refine aw_iald' (q := 148) (v := s.1 (64 + 7) ((s.1 u 1).toNatClampNeg)) dX5_followers_147 rfl (zB_lt (k := 7) zB64 (by decide)) (o_X0a6 zB64 s R) (zin_in h15) rfl ?_
              refine aw_ishl (q := 149) dX5_followers_148 rfl ?_
              refine aw_iconst (q := 150) (v := (-1)) dX5_followers_149 rfl (by decide) ?_
              refine aw_ixor (q := 151) dX5_followers_150 rfl ?_
              refine aw_iand (q := 152) dX5_followers_151 rfl ?_
              obtain ⟨y17, q18, H⟩ := zltd H
              refine aw_nm q18 ?_
              refine aw_istore (q := 154) (L' := [some (.ref u), some (.int x1), some (.int y2), some (.int v9), some (.int y17)]) dX5_followers_152 rfl (by decide) rfl rfl ?_
              refine aw_iload (q := 156) dX5_followers_154 rfl rfl ?_
              cases H
              exact aw_ret dX5_followers_156 rfl rfl rfl rfl ⟨rfl, rfl⟩
            · replace H := zf h16 H
              refine aw_iload (q := 156) dX5_followers_154 rfl rfl ?_
              cases H
              exact aw_ret dX5_followers_156 rfl rfl rfl rfl ⟨rfl, rfl⟩
          · replace H := zf h14 H
            refine aw_iload (q := 156) dX5_followers_154 rfl rfl ?_
            cases H
            exact aw_ret dX5_followers_156 rfl rfl rfl rfl ⟨rfl, rfl⟩
        · replace H := zf h10 H
          refine aw_aload_n (q := 84) dX5_followers_83 rfl rfl ?_
          refine aw_getr (q := 87) dX5_followers_84 rfl e_X5_18 (zU_lt (k := 0) hu (by decide)) (o_X5 hu s R) rfl ?_
          refine aw_getr (q := 90) dX5_followers_87 rfl e_X5_35 (zB_lt0 zB64) (o_X0 zB64 s R) rfl ?_
          refine aw_iload_n (q := 91) dX5_followers_90 rfl rfl ?_
          obtain ⟨h19, H⟩ := zio H
          refine aw_iald' (q := 92) (v := s.1 (64 + 1) y2.toNatClampNeg) dX5_followers_91 rfl (zB_lt (k := 1) zB64 (by decide)) (o_X0a0 zB64 s R) (zin_in h19) rfl ?_
          refine aw_aload_n (q := 93) dX5_followers_92 rfl rfl ?_
          refine aw_getr (q := 96) dX5_followers_93 rfl e_X5_18 (zU_lt (k := 0) hu (by decide)) (o_X5 hu s R) rfl ?_
          refine aw_getr (q := 99) dX5_followers_96 rfl e_X5_35 (zB_lt0 zB64) (o_X0 zB64 s R) rfl ?_
          refine aw_iload_n (q := 100) dX5_followers_99 rfl rfl ?_
          obtain ⟨h20, H⟩ := zio H
          refine aw_iald' (q := 101) (v := s.1 (64 + 1) v9.toNatClampNeg) dX5_followers_100 rfl (zB_lt (k := 1) zB64 (by decide)) (o_X0a0 zB64 s R) (zin_in h20) rfl ?_
          refine aw_ior (q := 102) dX5_followers_101 rfl ?_
          obtain ⟨y21, q22, H⟩ := zltd H
          refine aw_nm q22 ?_
          refine aw_istore (q := 104) (L' := [some (.ref u), some (.int x1), some (.int y2), some (.int v9), some (.int y21)]) dX5_followers_102 rfl (by decide) rfl rfl ?_
          refine aw_aload_n (q := 105) dX5_followers_104 rfl rfl ?_
          refine aw_getr (q := 108) dX5_followers_105 rfl e_X5_18 (zU_lt (k := 0) hu (by decide)) (o_X5 hu s R) rfl ?_
          refine aw_aload_n (q := 109) dX5_followers_108 rfl rfl ?_
          refine aw_getr (q := 112) dX5_followers_109 rfl e_X5_22 (zU_lt (k := 0) hu (by decide)) (o_X5 hu s R) rfl ?_
          refine aw_cv (M' := M_X0_isFault) (as := [.int (s.1 u 1)]) (q := 115) dX5_followers_112 rfl W_X0_isFault k_X5_26 i_X0_isFault v_X0_isFault (zB_lt0 zB64) (o_X0 zB64 s R) rfl rfl rfl (by decide) (Nat.le_of_ble_eq_true rfl) (c_X0_isFault s R zB64 (s.1 u 1)) (Nat.le_refl _) (Nat.le_refl _) ?_
          rintro r9 h9 ⟨rfl, rfl⟩
          refine aw_ifeqB (q := 118) (t := 154) dX5_followers_115 rfl (by decide) (fun h23 => ?_) (fun h23 => ?_)
          · replace H := zt h23 H
            refine aw_aload_n (q := 119) dX5_followers_118 rfl rfl ?_
            refine aw_getr (q := 122) dX5_followers_119 rfl e_X5_18 (zU_lt (k := 0) hu (by decide)) (o_X5 hu s R) rfl ?_
            refine aw_getr (q := 125) dX5_followers_122 rfl e_X5_32 (zB_lt0 zB64) (o_X0 zB64 s R) rfl ?_
            refine aw_aload_n (q := 126) dX5_followers_125 rfl rfl ?_
            refine aw_getr (q := 129) dX5_followers_126 rfl e_X5_22 (zU_lt (k := 0) hu (by decide)) (o_X5 hu s R) rfl ?_
            obtain ⟨h24, H⟩ := zio H
            refine aw_iald' (q := 130) (v := s.1 (64 + 6) ((s.1 u 1).toNatClampNeg)) dX5_followers_129 rfl (zB_lt (k := 6) zB64 (by decide)) (o_X0a5 zB64 s R) (zin_in h24) rfl ?_
            refine aw_if_neP (q := 133) (t := 154) dX5_followers_130 rfl (by decide) (fun h25 => ?_) (fun h25 => ?_)
            · replace H := zt h25 H
              refine aw_iload (q := 135) dX5_followers_133 rfl rfl ?_
              refine aw_iconst (q := 136) (v := 1) dX5_followers_135 rfl (by decide) ?_
              refine aw_aload_n (q := 137) dX5_followers_136 rfl rfl ?_
              refine aw_getr (q := 140) dX5_followers_137 rfl e_X5_18 (zU_lt (k := 0) hu (by decide)) (o_X5 hu s R) rfl ?_
              refine aw_getr (q := 143) dX5_followers_140 rfl e_X5_38 (zB_lt0 zB64) (o_X0 zB64 s R) rfl ?_
              refine aw_aload_n (q := 144) dX5_followers_143 rfl rfl ?_
              refine aw_getr (q := 147) dX5_followers_144 rfl e_X5_22 (zU_lt (k := 0) hu (by decide)) (o_X5 hu s R) rfl ?_
              refine aw_iald' (q := 148) (v := s.1 (64 + 7) ((s.1 u 1).toNatClampNeg)) dX5_followers_147 rfl (zB_lt (k := 7) zB64 (by decide)) (o_X0a6 zB64 s R) (zin_in h24) rfl ?_
              refine aw_ishl (q := 149) dX5_followers_148 rfl ?_
              refine aw_iconst (q := 150) (v := (-1)) dX5_followers_149 rfl (by decide) ?_
              refine aw_ixor (q := 151) dX5_followers_150 rfl ?_
              refine aw_iand (q := 152) dX5_followers_151 rfl ?_
              obtain ⟨y26, q27, H⟩ := zltd H
              refine aw_nm q27 ?_
              refine aw_istore (q := 154) (L' := [some (.ref u), some (.int x1), some (.int y2), some (.int v9), some (.int y26)]) dX5_followers_152 rfl (by decide) rfl rfl ?_
              refine aw_iload (q := 156) dX5_followers_154 rfl rfl ?_
              cases H
              exact aw_ret dX5_followers_156 rfl rfl rfl rfl ⟨rfl, rfl⟩
            · replace H := zf h25 H
              refine aw_iload (q := 156) dX5_followers_154 rfl rfl ?_
              cases H
              exact aw_ret dX5_followers_156 rfl rfl rfl rfl ⟨rfl, rfl⟩
          · replace H := zf h23 H
            refine aw_iload (q := 156) dX5_followers_154 rfl rfl ?_
            cases H
            exact aw_ret dX5_followers_156 rfl rfl rfl rfl ⟨rfl, rfl⟩
def f_X5_setUp_125 : Nat → zs → Nat → Int32 → Option (zs)
  | 0, _, _, _ => none
  | k + 1, s, u, x4 =>
    if (16 : Int32) ≤ x4 then (
      some s
    ) else (
      Option.bind (f_X5_linkingNet s u x4) fun v2 =>
      if zin x4 16 = true then
      zlt (zc s (u + 1) x4.toNatClampNeg v2) fun s4 =>
      Option.bind (f_X5_followers s4 u x4) fun v6 =>
      zlt (zc s4 (u + 2) x4.toNatClampNeg v6) fun s7 =>
      f_X5_setUp_125 k s7 u (x4 + 1)
      else none
    )
set_option maxHeartbeats 4000000 in
set_option maxRecDepth 100000 in
theorem L_X5_setUp_125 {G : zG} {sl : Nat} {P : Option Value → zH → Prop} (R : zr) {u : Nat} (hu : zU u)  : ∀ (k : Nat) (s : zs) (x4 : Int32) (e : zs), f_X5_setUp_125 k s u x4 = some e → (AV G M_X5_setUp 3 sl P 164 [none, none, none, none, none] [] (zT e R)) → AV G M_X5_setUp 3 sl P 125 [some (.ref u), none, none, none, some (.int x4)] [] (zT s R) := by
  intro k
  induction k with
  | zero =>
    intro s x4 e H
    unfold f_X5_setUp_125 at H
    cases H
  | succ k ih =>
    intro s x4 e H KE
    unfold f_X5_setUp_125 at H
    refine aw_iload (q := 127) dX5_setUp_125 rfl rfl ?_
    refine aw_bipush (q := 129) (v := 16) dX5_setUp_127 rfl (by decide) ?_
    refine aw_icmp_ge (q := 132) (t := 164) dX5_setUp_129 rfl (by decide) (fun h1 => ?_) (fun h1 => ?_)
    · replace H := zt h1 H
      cases H
      exact aw_fewer (L' := [none, none, none, none, none]) trivial KE
    · replace H := zf h1 H
      refine aw_aload_n (q := 133) dX5_setUp_132 rfl rfl ?_
      refine aw_getr (q := 136) dX5_setUp_133 rfl e_X5_9 (zU_lt (k := 0) hu (by decide)) (o_X5 hu s R) rfl ?_
      refine aw_iload (q := 138) dX5_setUp_136 rfl rfl ?_
      refine aw_aload_n (q := 139) dX5_setUp_138 rfl rfl ?_
      refine aw_iload (q := 141) dX5_setUp_139 rfl rfl ?_
      obtain ⟨v2, hv2, H⟩ := zbd H
      refine aw_cv (M' := M_X5_linkingNet) (as := [.int x4]) (q := 144) dX5_setUp_141 rfl W_X5_linkingNet k_X5_47 i_X5_linkingNet v_X5_linkingNet (zU_lt (k := 0) hu (by decide)) (o_X5 hu s R) rfl rfl rfl (by decide) (Nat.le_of_ble_eq_true rfl) (c_X5_linkingNet s R hu x4 hv2) (Nat.le_refl _) (Nat.le_refl _) ?_
      rintro r9 h9 ⟨rfl, rfl⟩
      obtain ⟨h3, H⟩ := zio H
      obtain ⟨s4, q5, H⟩ := zltd H
      refine aw_iast (q := 145) dX5_setUp_144 rfl (zU_lt (k := 1) hu (by decide)) (o_X5a2 hu s R) (zin_in h3) ((p_X5a2 hu).trans (congrArg (fun z => zT z R) q5.symm)) ?_
      refine aw_aload_n (q := 146) dX5_setUp_145 rfl rfl ?_
      refine aw_getr (q := 149) dX5_setUp_146 rfl e_X5_15 (zU_lt (k := 0) hu (by decide)) (o_X5 hu s4 R) rfl ?_
      refine aw_iload (q := 151) dX5_setUp_149 rfl rfl ?_
      refine aw_aload_n (q := 152) dX5_setUp_151 rfl rfl ?_
      refine aw_iload (q := 154) dX5_setUp_152 rfl rfl ?_
      obtain ⟨v6, hv6, H⟩ := zbd H
      refine aw_cv (M' := M_X5_followers) (as := [.int x4]) (q := 157) dX5_setUp_154 rfl W_X5_followers k_X5_51 i_X5_followers v_X5_followers (zU_lt (k := 0) hu (by decide)) (o_X5 hu s4 R) rfl rfl rfl (by decide) (Nat.le_of_ble_eq_true rfl) (c_X5_followers s4 R hu x4 hv6) (Nat.le_refl _) (Nat.le_refl _) ?_
      rintro r9 h9 ⟨rfl, rfl⟩
      obtain ⟨s7, q8, H⟩ := zltd H
      refine aw_iast (q := 158) dX5_setUp_157 rfl (zU_lt (k := 2) hu (by decide)) (o_X5a3 hu s4 R) (zin_in h3) ((p_X5a3 hu).trans (congrArg (fun z => zT z R) q8.symm)) ?_
      refine aw_iinc (q := 161) (v := x4 + 1) (L' := [some (.ref u), none, none, none, some (.int (x4 + 1))]) dX5_setUp_158 rfl rfl (by first | rfl | decide) (by decide) rfl rfl ?_
      refine aw_goto (q := 125) dX5_setUp_161 (by decide) ?_
      exact aw_fewer (L' := [some (.ref u), none, none, none, some (.int (x4 + 1))]) ⟨rfl, ⟨rfl, trivial⟩⟩ (ih s7 (x4 + 1) _ H KE)
def f_X5_setUp (s : zs) (u : Nat) : Option zs :=
  if f_X0_isFault s 64 (s.1 u 1) = true then (
    if zin (s.1 u 1) 10 = true then
    if (s.1 (64 + 6) ((s.1 u 1).toNatClampNeg)) = 3 then (
      if (s.1 (64 + 6) ((s.1 u 1).toNatClampNeg)) = 4 then (
        if zin (s.1 (64 + 7) ((s.1 u 1).toNatClampNeg)) 8 = true then
        zlt (zc s u 4 (s.1 (64 + 1) ((s.1 (64 + 7) ((s.1 u 1).toNatClampNeg)).toNatClampNeg))) fun s6 =>
        if zin (s6.1 u 1) 10 = true then
        zlt (zc s6 u 5 ((1 : Int32) <<< ((s6.1 (64 + 7) ((s6.1 u 1).toNatClampNeg)) &&& 31))) fun s9 =>
        Option.bind (f_X5_setUp_125 zFu s9 u 0) fun e11 =>
        some e11
        else none
        else none
      ) else (
        if zin (s.1 (64 + 7) ((s.1 u 1).toNatClampNeg)) 8 = true then
        zlt (zc s u 4 (s.1 (64 + 1) ((s.1 (64 + 7) ((s.1 u 1).toNatClampNeg)).toNatClampNeg))) fun s13 =>
        zlt (zc s13 u 5 0) fun s15 =>
        Option.bind (f_X5_setUp_125 zFu s15 u 0) fun e17 =>
        some e17
        else none
      )
    ) else (
      if (s.1 (64 + 6) ((s.1 u 1).toNatClampNeg)) = 4 then (
        zlt (zc s u 4 0) fun s19 =>
        if zin (s19.1 u 1) 10 = true then
        zlt (zc s19 u 5 ((1 : Int32) <<< ((s19.1 (64 + 7) ((s19.1 u 1).toNatClampNeg)) &&& 31))) fun s22 =>
        Option.bind (f_X5_setUp_125 zFu s22 u 0) fun e24 =>
        some e24
        else none
      ) else (
        zlt (zc s u 4 0) fun s25 =>
        zlt (zc s25 u 5 0) fun s27 =>
        Option.bind (f_X5_setUp_125 zFu s27 u 0) fun e29 =>
        some e29
      )
    )
    else none
  ) else (
    zlt (zc s u 4 0) fun s30 =>
    zlt (zc s30 u 5 0) fun s32 =>
    Option.bind (f_X5_setUp_125 zFu s32 u 0) fun e34 =>
    some e34
  )
set_option maxHeartbeats 4000000 in
set_option maxRecDepth 100000 in
theorem c_X5_setUp {G : zG} {sl : Nat} (s : zs) (R : zr) {u : Nat} (hu : zU u)  {v9 : zs} (H : f_X5_setUp s u = some v9) : zMv G 3 M_X5_setUp [.ref u] sl (zT s R) (fun r h' => r = none ∧ h' = zT v9 R) := by
  unfold f_X5_setUp at H
  refine zMv_of (L := [some (.ref u), none, none, none, none]) (by decide) rfl (Nat.le_of_ble_eq_true rfl) rfl ?_
  refine aw_aload_n (q := 1) dX5_setUp_0 rfl rfl ?_
  refine aw_getr (q := 4) dX5_setUp_1 rfl e_X5_18 (zU_lt (k := 0) hu (by decide)) (o_X5 hu s R) rfl ?_
  refine aw_aload_n (q := 5) dX5_setUp_4 rfl rfl ?_
  refine aw_getr (q := 8) dX5_setUp_5 rfl e_X5_22 (zU_lt (k := 0) hu (by decide)) (o_X5 hu s R) rfl ?_
  refine aw_cv (M' := M_X0_isFault) (as := [.int (s.1 u 1)]) (q := 11) dX5_setUp_8 rfl W_X0_isFault k_X5_26 i_X0_isFault v_X0_isFault (zB_lt0 zB64) (o_X0 zB64 s R) rfl rfl rfl (by decide) (Nat.le_of_ble_eq_true rfl) (c_X0_isFault s R zB64 (s.1 u 1)) (Nat.le_refl _) (Nat.le_refl _) ?_
  rintro r9 h9 ⟨rfl, rfl⟩
  refine aw_istore_n (q := 12) (L' := [some (.ref u), some (.int (zb (f_X0_isFault s 64 (s.1 u 1)))), none, none, none]) dX5_setUp_11 rfl (by decide) rfl rfl ?_
  refine aw_iload_n (q := 13) dX5_setUp_12 rfl rfl ?_
  refine aw_ifeqB (q := 16) (t := 36) dX5_setUp_13 rfl (by decide) (fun h1 => ?_) (fun h1 => ?_)
  · replace H := zt h1 H
    refine aw_aload_n (q := 17) dX5_setUp_16 rfl rfl ?_
    refine aw_getr (q := 20) dX5_setUp_17 rfl e_X5_18 (zU_lt (k := 0) hu (by decide)) (o_X5 hu s R) rfl ?_
    refine aw_getr (q := 23) dX5_setUp_20 rfl e_X5_32 (zB_lt0 zB64) (o_X0 zB64 s R) rfl ?_
    refine aw_aload_n (q := 24) dX5_setUp_23 rfl rfl ?_
    refine aw_getr (q := 27) dX5_setUp_24 rfl e_X5_22 (zU_lt (k := 0) hu (by decide)) (o_X5 hu s R) rfl ?_
    obtain ⟨h2, H⟩ := zio H
    refine aw_iald' (q := 28) (v := s.1 (64 + 6) ((s.1 u 1).toNatClampNeg)) dX5_setUp_27 rfl (zB_lt (k := 6) zB64 (by decide)) (o_X0a5 zB64 s R) (zin_in h2) rfl ?_
    refine aw_iconst (q := 29) (v := 3) dX5_setUp_28 rfl (by decide) ?_
    refine aw_icmp_neP (q := 32) (t := 36) dX5_setUp_29 rfl (by decide) (fun h3 => ?_) (fun h3 => ?_)
    · replace H := zt h3 H
      refine aw_iconst (q := 33) (v := 1) dX5_setUp_32 rfl (by decide) ?_
      refine aw_goto (q := 37) dX5_setUp_33 (by decide) ?_
      refine aw_istore_n (q := 38) (L' := [some (.ref u), some (.int (zb (f_X0_isFault s 64 (s.1 u 1)))), some (.int 1), none, none]) dX5_setUp_37 rfl (by decide) rfl rfl ?_
      refine aw_iload_n (q := 39) dX5_setUp_38 rfl rfl ?_
      refine aw_ifeqB (q := 42) (t := 62) dX5_setUp_39 rfl (by decide) (fun _ => ?_) (fun z => absurd h1 z)
      refine aw_aload_n (q := 43) dX5_setUp_42 rfl rfl ?_
      refine aw_getr (q := 46) dX5_setUp_43 rfl e_X5_18 (zU_lt (k := 0) hu (by decide)) (o_X5 hu s R) rfl ?_
      refine aw_getr (q := 49) dX5_setUp_46 rfl e_X5_32 (zB_lt0 zB64) (o_X0 zB64 s R) rfl ?_
      refine aw_aload_n (q := 50) dX5_setUp_49 rfl rfl ?_
      refine aw_getr (q := 53) dX5_setUp_50 rfl e_X5_22 (zU_lt (k := 0) hu (by decide)) (o_X5 hu s R) rfl ?_
      refine aw_iald' (q := 54) (v := s.1 (64 + 6) ((s.1 u 1).toNatClampNeg)) dX5_setUp_53 rfl (zB_lt (k := 6) zB64 (by decide)) (o_X0a5 zB64 s R) (zin_in h2) rfl ?_
      refine aw_iconst (q := 55) (v := 4) dX5_setUp_54 rfl (by decide) ?_
      refine aw_icmp_neP (q := 58) (t := 62) dX5_setUp_55 rfl (by decide) (fun h4 => ?_) (fun h4 => ?_)
      · replace H := zt h4 H
        refine aw_iconst (q := 59) (v := 1) dX5_setUp_58 rfl (by decide) ?_
        refine aw_goto (q := 63) dX5_setUp_59 (by decide) ?_
        refine aw_istore_n (q := 64) (L' := [some (.ref u), some (.int (zb (f_X0_isFault s 64 (s.1 u 1)))), some (.int 1), some (.int 1), none]) dX5_setUp_63 rfl (by decide) rfl rfl ?_
        refine aw_aload_n (q := 65) dX5_setUp_64 rfl rfl ?_
        refine aw_iload_n (q := 66) dX5_setUp_65 rfl rfl ?_
        refine aw_if_eq (q := 69) (t := 92) dX5_setUp_66 rfl (by decide) (fun z => absurd z (by decide)) (fun _ => ?_)
        refine aw_aload_n (q := 70) dX5_setUp_69 rfl rfl ?_
        refine aw_getr (q := 73) dX5_setUp_70 rfl e_X5_18 (zU_lt (k := 0) hu (by decide)) (o_X5 hu s R) rfl ?_
        refine aw_getr (q := 76) dX5_setUp_73 rfl e_X5_35 (zB_lt0 zB64) (o_X0 zB64 s R) rfl ?_
        refine aw_aload_n (q := 77) dX5_setUp_76 rfl rfl ?_
        refine aw_getr (q := 80) dX5_setUp_77 rfl e_X5_18 (zU_lt (k := 0) hu (by decide)) (o_X5 hu s R) rfl ?_
        refine aw_getr (q := 83) dX5_setUp_80 rfl e_X5_38 (zB_lt0 zB64) (o_X0 zB64 s R) rfl ?_
        refine aw_aload_n (q := 84) dX5_setUp_83 rfl rfl ?_
        refine aw_getr (q := 87) dX5_setUp_84 rfl e_X5_22 (zU_lt (k := 0) hu (by decide)) (o_X5 hu s R) rfl ?_
        refine aw_iald' (q := 88) (v := s.1 (64 + 7) ((s.1 u 1).toNatClampNeg)) dX5_setUp_87 rfl (zB_lt (k := 7) zB64 (by decide)) (o_X0a6 zB64 s R) (zin_in h2) rfl ?_
        obtain ⟨h5, H⟩ := zio H
        refine aw_iald' (q := 89) (v := s.1 (64 + 1) ((s.1 (64 + 7) ((s.1 u 1).toNatClampNeg)).toNatClampNeg)) dX5_setUp_88 rfl (zB_lt (k := 1) zB64 (by decide)) (o_X0a0 zB64 s R) (zin_in h5) rfl ?_
        refine aw_goto (q := 93) dX5_setUp_89 (by decide) ?_
        obtain ⟨s6, q7, H⟩ := zltd H
        refine aw_put (q := 96) dX5_setUp_93 rfl f_X5_41 (zU_lt (k := 0) hu (by decide)) (o_X5 hu s R) rfl rfl (Nat.le_of_ble_eq_true rfl) ((p_X5_4 hu).trans (congrArg (fun z => zT z R) q7.symm)) ?_
        refine aw_aload_n (q := 97) dX5_setUp_96 rfl rfl ?_
        refine aw_iload_n (q := 98) dX5_setUp_97 rfl rfl ?_
        refine aw_if_eq (q := 101) (t := 118) dX5_setUp_98 rfl (by decide) (fun z => absurd z (by decide)) (fun _ => ?_)
        refine aw_iconst (q := 102) (v := 1) dX5_setUp_101 rfl (by decide) ?_
        refine aw_aload_n (q := 103) dX5_setUp_102 rfl rfl ?_
        refine aw_getr (q := 106) dX5_setUp_103 rfl e_X5_18 (zU_lt (k := 0) hu (by decide)) (o_X5 hu s6 R) rfl ?_
        refine aw_getr (q := 109) dX5_setUp_106 rfl e_X5_38 (zB_lt0 zB64) (o_X0 zB64 s6 R) rfl ?_
        refine aw_aload_n (q := 110) dX5_setUp_109 rfl rfl ?_
        refine aw_getr (q := 113) dX5_setUp_110 rfl e_X5_22 (zU_lt (k := 0) hu (by decide)) (o_X5 hu s6 R) rfl ?_
        obtain ⟨h8, H⟩ := zio H
        refine aw_iald' (q := 114) (v := s6.1 (64 + 7) ((s6.1 u 1).toNatClampNeg)) dX5_setUp_113 rfl (zB_lt (k := 7) zB64 (by decide)) (o_X0a6 zB64 s6 R) (zin_in h8) rfl ?_
        refine aw_ishl (q := 115) dX5_setUp_114 rfl ?_
        refine aw_goto (q := 119) dX5_setUp_115 (by decide) ?_
        obtain ⟨s9, q10, H⟩ := zltd H
        refine aw_put (q := 122) dX5_setUp_119 rfl f_X5_44 (zU_lt (k := 0) hu (by decide)) (o_X5 hu s6 R) rfl rfl (Nat.le_of_ble_eq_true rfl) ((p_X5_5 hu).trans (congrArg (fun z => zT z R) q10.symm)) ?_
        refine aw_iconst (q := 123) (v := 0) dX5_setUp_122 rfl (by decide) ?_
        refine aw_istore (q := 125) (L' := [some (.ref u), some (.int (zb (f_X0_isFault s 64 (s.1 u 1)))), some (.int 1), some (.int 1), some (.int 0)]) dX5_setUp_123 rfl (by decide) rfl rfl ?_
        obtain ⟨e11, he11, H⟩ := zbd H
        refine aw_fewer (L' := [some (.ref u), none, none, none, some (.int 0)]) ⟨rfl, ⟨rfl, trivial⟩⟩ ?_
        refine L_X5_setUp_125 R hu zFu s9 0 e11 he11 ?_
        cases H
        exact aw_vret dX5_setUp_164 rfl rfl rfl ⟨rfl, rfl⟩
      · replace H := zf h4 H
        refine aw_iconst (q := 63) (v := 0) dX5_setUp_62 rfl (by decide) ?_
        refine aw_istore_n (q := 64) (L' := [some (.ref u), some (.int (zb (f_X0_isFault s 64 (s.1 u 1)))), some (.int 1), some (.int 0), none]) dX5_setUp_63 rfl (by decide) rfl rfl ?_
        refine aw_aload_n (q := 65) dX5_setUp_64 rfl rfl ?_
        refine aw_iload_n (q := 66) dX5_setUp_65 rfl rfl ?_
        refine aw_if_eq (q := 69) (t := 92) dX5_setUp_66 rfl (by decide) (fun z => absurd z (by decide)) (fun _ => ?_)
        refine aw_aload_n (q := 70) dX5_setUp_69 rfl rfl ?_
        refine aw_getr (q := 73) dX5_setUp_70 rfl e_X5_18 (zU_lt (k := 0) hu (by decide)) (o_X5 hu s R) rfl ?_
        refine aw_getr (q := 76) dX5_setUp_73 rfl e_X5_35 (zB_lt0 zB64) (o_X0 zB64 s R) rfl ?_
        refine aw_aload_n (q := 77) dX5_setUp_76 rfl rfl ?_
        refine aw_getr (q := 80) dX5_setUp_77 rfl e_X5_18 (zU_lt (k := 0) hu (by decide)) (o_X5 hu s R) rfl ?_
        refine aw_getr (q := 83) dX5_setUp_80 rfl e_X5_38 (zB_lt0 zB64) (o_X0 zB64 s R) rfl ?_
        refine aw_aload_n (q := 84) dX5_setUp_83 rfl rfl ?_
        refine aw_getr (q := 87) dX5_setUp_84 rfl e_X5_22 (zU_lt (k := 0) hu (by decide)) (o_X5 hu s R) rfl ?_
        refine aw_iald' (q := 88) (v := s.1 (64 + 7) ((s.1 u 1).toNatClampNeg)) dX5_setUp_87 rfl (zB_lt (k := 7) zB64 (by decide)) (o_X0a6 zB64 s R) (zin_in h2) rfl ?_
        obtain ⟨h12, H⟩ := zio H
        refine aw_iald' (q := 89) (v := s.1 (64 + 1) ((s.1 (64 + 7) ((s.1 u 1).toNatClampNeg)).toNatClampNeg)) dX5_setUp_88 rfl (zB_lt (k := 1) zB64 (by decide)) (o_X0a0 zB64 s R) (zin_in h12) rfl ?_
        refine aw_goto (q := 93) dX5_setUp_89 (by decide) ?_
        obtain ⟨s13, q14, H⟩ := zltd H
        refine aw_put (q := 96) dX5_setUp_93 rfl f_X5_41 (zU_lt (k := 0) hu (by decide)) (o_X5 hu s R) rfl rfl (Nat.le_of_ble_eq_true rfl) ((p_X5_4 hu).trans (congrArg (fun z => zT z R) q14.symm)) ?_
        refine aw_aload_n (q := 97) dX5_setUp_96 rfl rfl ?_
        refine aw_iload_n (q := 98) dX5_setUp_97 rfl rfl ?_
        refine aw_if_eq (q := 101) (t := 118) dX5_setUp_98 rfl (by decide) (fun _ => ?_) (fun z => absurd (by decide) z)
        refine aw_iconst (q := 119) (v := 0) dX5_setUp_118 rfl (by decide) ?_
        obtain ⟨s15, q16, H⟩ := zltd H
        refine aw_put (q := 122) dX5_setUp_119 rfl f_X5_44 (zU_lt (k := 0) hu (by decide)) (o_X5 hu s13 R) rfl rfl (Nat.le_of_ble_eq_true rfl) ((p_X5_5 hu).trans (congrArg (fun z => zT z R) q16.symm)) ?_
        refine aw_iconst (q := 123) (v := 0) dX5_setUp_122 rfl (by decide) ?_
        refine aw_istore (q := 125) (L' := [some (.ref u), some (.int (zb (f_X0_isFault s 64 (s.1 u 1)))), some (.int 1), some (.int 0), some (.int 0)]) dX5_setUp_123 rfl (by decide) rfl rfl ?_
        obtain ⟨e17, he17, H⟩ := zbd H
        refine aw_fewer (L' := [some (.ref u), none, none, none, some (.int 0)]) ⟨rfl, ⟨rfl, trivial⟩⟩ ?_
        refine L_X5_setUp_125 R hu zFu s15 0 e17 he17 ?_
        cases H
        exact aw_vret dX5_setUp_164 rfl rfl rfl ⟨rfl, rfl⟩
    · replace H := zf h3 H
      refine aw_iconst (q := 37) (v := 0) dX5_setUp_36 rfl (by decide) ?_
      refine aw_istore_n (q := 38) (L' := [some (.ref u), some (.int (zb (f_X0_isFault s 64 (s.1 u 1)))), some (.int 0), none, none]) dX5_setUp_37 rfl (by decide) rfl rfl ?_
      refine aw_iload_n (q := 39) dX5_setUp_38 rfl rfl ?_
      refine aw_ifeqB (q := 42) (t := 62) dX5_setUp_39 rfl (by decide) (fun _ => ?_) (fun z => absurd h1 z)
      refine aw_aload_n (q := 43) dX5_setUp_42 rfl rfl ?_
      refine aw_getr (q := 46) dX5_setUp_43 rfl e_X5_18 (zU_lt (k := 0) hu (by decide)) (o_X5 hu s R) rfl ?_
      refine aw_getr (q := 49) dX5_setUp_46 rfl e_X5_32 (zB_lt0 zB64) (o_X0 zB64 s R) rfl ?_
      refine aw_aload_n (q := 50) dX5_setUp_49 rfl rfl ?_
      refine aw_getr (q := 53) dX5_setUp_50 rfl e_X5_22 (zU_lt (k := 0) hu (by decide)) (o_X5 hu s R) rfl ?_
      refine aw_iald' (q := 54) (v := s.1 (64 + 6) ((s.1 u 1).toNatClampNeg)) dX5_setUp_53 rfl (zB_lt (k := 6) zB64 (by decide)) (o_X0a5 zB64 s R) (zin_in h2) rfl ?_
      refine aw_iconst (q := 55) (v := 4) dX5_setUp_54 rfl (by decide) ?_
      refine aw_icmp_neP (q := 58) (t := 62) dX5_setUp_55 rfl (by decide) (fun h18 => ?_) (fun h18 => ?_)
      · replace H := zt h18 H
        refine aw_iconst (q := 59) (v := 1) dX5_setUp_58 rfl (by decide) ?_
        refine aw_goto (q := 63) dX5_setUp_59 (by decide) ?_
        refine aw_istore_n (q := 64) (L' := [some (.ref u), some (.int (zb (f_X0_isFault s 64 (s.1 u 1)))), some (.int 0), some (.int 1), none]) dX5_setUp_63 rfl (by decide) rfl rfl ?_
        refine aw_aload_n (q := 65) dX5_setUp_64 rfl rfl ?_
        refine aw_iload_n (q := 66) dX5_setUp_65 rfl rfl ?_
        refine aw_if_eq (q := 69) (t := 92) dX5_setUp_66 rfl (by decide) (fun _ => ?_) (fun z => absurd (by decide) z)
        refine aw_iconst (q := 93) (v := 0) dX5_setUp_92 rfl (by decide) ?_
        obtain ⟨s19, q20, H⟩ := zltd H
        refine aw_put (q := 96) dX5_setUp_93 rfl f_X5_41 (zU_lt (k := 0) hu (by decide)) (o_X5 hu s R) rfl rfl (Nat.le_of_ble_eq_true rfl) ((p_X5_4 hu).trans (congrArg (fun z => zT z R) q20.symm)) ?_
        refine aw_aload_n (q := 97) dX5_setUp_96 rfl rfl ?_
        refine aw_iload_n (q := 98) dX5_setUp_97 rfl rfl ?_
        refine aw_if_eq (q := 101) (t := 118) dX5_setUp_98 rfl (by decide) (fun z => absurd z (by decide)) (fun _ => ?_)
        refine aw_iconst (q := 102) (v := 1) dX5_setUp_101 rfl (by decide) ?_
        refine aw_aload_n (q := 103) dX5_setUp_102 rfl rfl ?_
        refine aw_getr (q := 106) dX5_setUp_103 rfl e_X5_18 (zU_lt (k := 0) hu (by decide)) (o_X5 hu s19 R) rfl ?_
        refine aw_getr (q := 109) dX5_setUp_106 rfl e_X5_38 (zB_lt0 zB64) (o_X0 zB64 s19 R) rfl ?_
        refine aw_aload_n (q := 110) dX5_setUp_109 rfl rfl ?_
        refine aw_getr (q := 113) dX5_setUp_110 rfl e_X5_22 (zU_lt (k := 0) hu (by decide)) (o_X5 hu s19 R) rfl ?_
        obtain ⟨h21, H⟩ := zio H
        refine aw_iald' (q := 114) (v := s19.1 (64 + 7) ((s19.1 u 1).toNatClampNeg)) dX5_setUp_113 rfl (zB_lt (k := 7) zB64 (by decide)) (o_X0a6 zB64 s19 R) (zin_in h21) rfl ?_
        refine aw_ishl (q := 115) dX5_setUp_114 rfl ?_
        refine aw_goto (q := 119) dX5_setUp_115 (by decide) ?_
        obtain ⟨s22, q23, H⟩ := zltd H
        refine aw_put (q := 122) dX5_setUp_119 rfl f_X5_44 (zU_lt (k := 0) hu (by decide)) (o_X5 hu s19 R) rfl rfl (Nat.le_of_ble_eq_true rfl) ((p_X5_5 hu).trans (congrArg (fun z => zT z R) q23.symm)) ?_
        refine aw_iconst (q := 123) (v := 0) dX5_setUp_122 rfl (by decide) ?_
        refine aw_istore (q := 125) (L' := [some (.ref u), some (.int (zb (f_X0_isFault s 64 (s.1 u 1)))), some (.int 0), some (.int 1), some (.int 0)]) dX5_setUp_123 rfl (by decide) rfl rfl ?_
        obtain ⟨e24, he24, H⟩ := zbd H
        refine aw_fewer (L' := [some (.ref u), none, none, none, some (.int 0)]) ⟨rfl, ⟨rfl, trivial⟩⟩ ?_
        refine L_X5_setUp_125 R hu zFu s22 0 e24 he24 ?_
        cases H
        exact aw_vret dX5_setUp_164 rfl rfl rfl ⟨rfl, rfl⟩
      · replace H := zf h18 H
        refine aw_iconst (q := 63) (v := 0) dX5_setUp_62 rfl (by decide) ?_
        refine aw_istore_n (q := 64) (L' := [some (.ref u), some (.int (zb (f_X0_isFault s 64 (s.1 u 1)))), some (.int 0), some (.int 0), none]) dX5_setUp_63 rfl (by decide) rfl rfl ?_
        refine aw_aload_n (q := 65) dX5_setUp_64 rfl rfl ?_
        refine aw_iload_n (q := 66) dX5_setUp_65 rfl rfl ?_
        refine aw_if_eq (q := 69) (t := 92) dX5_setUp_66 rfl (by decide) (fun _ => ?_) (fun z => absurd (by decide) z)
        refine aw_iconst (q := 93) (v := 0) dX5_setUp_92 rfl (by decide) ?_
        obtain ⟨s25, q26, H⟩ := zltd H
        refine aw_put (q := 96) dX5_setUp_93 rfl f_X5_41 (zU_lt (k := 0) hu (by decide)) (o_X5 hu s R) rfl rfl (Nat.le_of_ble_eq_true rfl) ((p_X5_4 hu).trans (congrArg (fun z => zT z R) q26.symm)) ?_
        refine aw_aload_n (q := 97) dX5_setUp_96 rfl rfl ?_
        refine aw_iload_n (q := 98) dX5_setUp_97 rfl rfl ?_
        refine aw_if_eq (q := 101) (t := 118) dX5_setUp_98 rfl (by decide) (fun _ => ?_) (fun z => absurd (by decide) z)
        refine aw_iconst (q := 119) (v := 0) dX5_setUp_118 rfl (by decide) ?_
        obtain ⟨s27, q28, H⟩ := zltd H
        refine aw_put (q := 122) dX5_setUp_119 rfl f_X5_44 (zU_lt (k := 0) hu (by decide)) (o_X5 hu s25 R) rfl rfl (Nat.le_of_ble_eq_true rfl) ((p_X5_5 hu).trans (congrArg (fun z => zT z R) q28.symm)) ?_
        refine aw_iconst (q := 123) (v := 0) dX5_setUp_122 rfl (by decide) ?_
        refine aw_istore (q := 125) (L' := [some (.ref u), some (.int (zb (f_X0_isFault s 64 (s.1 u 1)))), some (.int 0), some (.int 0), some (.int 0)]) dX5_setUp_123 rfl (by decide) rfl rfl ?_
        obtain ⟨e29, he29, H⟩ := zbd H
        refine aw_fewer (L' := [some (.ref u), none, none, none, some (.int 0)]) ⟨rfl, ⟨rfl, trivial⟩⟩ ?_
        refine L_X5_setUp_125 R hu zFu s27 0 e29 he29 ?_
        cases H
        exact aw_vret dX5_setUp_164 rfl rfl rfl ⟨rfl, rfl⟩
  · replace H := zf h1 H
    refine aw_iconst (q := 37) (v := 0) dX5_setUp_36 rfl (by decide) ?_
    refine aw_istore_n (q := 38) (L' := [some (.ref u), some (.int (zb (f_X0_isFault s 64 (s.1 u 1)))), some (.int 0), none, none]) dX5_setUp_37 rfl (by decide) rfl rfl ?_
    refine aw_iload_n (q := 39) dX5_setUp_38 rfl rfl ?_
    refine aw_ifeqB (q := 42) (t := 62) dX5_setUp_39 rfl (by decide) (fun z => absurd z h1) (fun _ => ?_)
    refine aw_iconst (q := 63) (v := 0) dX5_setUp_62 rfl (by decide) ?_
    refine aw_istore_n (q := 64) (L' := [some (.ref u), some (.int (zb (f_X0_isFault s 64 (s.1 u 1)))), some (.int 0), some (.int 0), none]) dX5_setUp_63 rfl (by decide) rfl rfl ?_
    refine aw_aload_n (q := 65) dX5_setUp_64 rfl rfl ?_
    refine aw_iload_n (q := 66) dX5_setUp_65 rfl rfl ?_
    refine aw_if_eq (q := 69) (t := 92) dX5_setUp_66 rfl (by decide) (fun _ => ?_) (fun z => absurd (by decide) z)
    refine aw_iconst (q := 93) (v := 0) dX5_setUp_92 rfl (by decide) ?_
    obtain ⟨s30, q31, H⟩ := zltd H
    refine aw_put (q := 96) dX5_setUp_93 rfl f_X5_41 (zU_lt (k := 0) hu (by decide)) (o_X5 hu s R) rfl rfl (Nat.le_of_ble_eq_true rfl) ((p_X5_4 hu).trans (congrArg (fun z => zT z R) q31.symm)) ?_
    refine aw_aload_n (q := 97) dX5_setUp_96 rfl rfl ?_
    refine aw_iload_n (q := 98) dX5_setUp_97 rfl rfl ?_
    refine aw_if_eq (q := 101) (t := 118) dX5_setUp_98 rfl (by decide) (fun _ => ?_) (fun z => absurd (by decide) z)
    refine aw_iconst (q := 119) (v := 0) dX5_setUp_118 rfl (by decide) ?_
    obtain ⟨s32, q33, H⟩ := zltd H
    refine aw_put (q := 122) dX5_setUp_119 rfl f_X5_44 (zU_lt (k := 0) hu (by decide)) (o_X5 hu s30 R) rfl rfl (Nat.le_of_ble_eq_true rfl) ((p_X5_5 hu).trans (congrArg (fun z => zT z R) q33.symm)) ?_
    refine aw_iconst (q := 123) (v := 0) dX5_setUp_122 rfl (by decide) ?_
    refine aw_istore (q := 125) (L' := [some (.ref u), some (.int (zb (f_X0_isFault s 64 (s.1 u 1)))), some (.int 0), some (.int 0), some (.int 0)]) dX5_setUp_123 rfl (by decide) rfl rfl ?_
    obtain ⟨e34, he34, H⟩ := zbd H
    refine aw_fewer (L' := [some (.ref u), none, none, none, some (.int 0)]) ⟨rfl, ⟨rfl, trivial⟩⟩ ?_
    refine L_X5_setUp_125 R hu zFu s32 0 e34 he34 ?_
    cases H
    exact aw_vret dX5_setUp_164 rfl rfl rfl ⟨rfl, rfl⟩
def f_X2_suppose (s : zs) (x1 : Int32) : Option (Nat × zs) :=
  if zin x1 11 = true then
  Option.bind (f_X5_setUp s (87 + 3 * x1.toNatClampNeg)) fun v2 =>
  some (87 + 3 * x1.toNatClampNeg, v2)
  else none
set_option maxHeartbeats 4000000 in
set_option maxRecDepth 100000 in
theorem c_X2_suppose {G : zG} {sl : Nat} (s : zs) (R : zr) (x1 : Int32) {v9 : (Nat × zs)} (H : f_X2_suppose s x1 = some v9) : zMv G 4 M_X2_suppose [.ref 76, .int x1] sl (zT s R) (fun r h' => r = some (.ref v9.1) ∧ h' = zT v9.2 R) := by
  unfold f_X2_suppose at H
  refine zMv_of (L := [some (.ref 76), some (.int x1)]) (by decide) rfl (Nat.le_of_ble_eq_true rfl) rfl ?_
  refine aw_aload_n (q := 1) dX2_suppose_0 rfl rfl ?_
  refine aw_getr (q := 4) dX2_suppose_1 rfl e_X2_11 (by decide) (o_X2 s R) rfl ?_
  refine aw_iload_n (q := 5) dX2_suppose_4 rfl rfl ?_
  obtain ⟨h1, H⟩ := zio H
  refine aw_aald (q := 6) (b := 87 + 3 * x1.toNatClampNeg) dX2_suppose_5 rfl (by decide) (Or.inr (Or.inl rfl)) (o_X2a1 s R) (zin_in h1) rfl ?_
  obtain ⟨v2, hv2, H⟩ := zbd H
  refine aw_cv (M' := M_X5_setUp) (as := []) (q := 9) dX2_suppose_6 rfl W_X5_setUp k_X2_33 i_X5_setUp v_X5_setUp (zU_lt (k := 0) (zU_of h1) (by decide)) (o_X5 (zU_of h1) s R) rfl rfl rfl (by decide) (Nat.le_of_ble_eq_true rfl) (c_X5_setUp s R (zU_of h1) hv2) (Nat.le_refl _) (Nat.le_refl _) ?_
  rintro r9 h9 ⟨rfl, rfl⟩
  refine aw_aload_n (q := 10) dX2_suppose_9 rfl rfl ?_
  refine aw_getr (q := 13) dX2_suppose_10 rfl e_X2_11 (by decide) (o_X2 v2 R) rfl ?_
  refine aw_iload_n (q := 14) dX2_suppose_13 rfl rfl ?_
  refine aw_aald (q := 15) (b := 87 + 3 * x1.toNatClampNeg) dX2_suppose_14 rfl (by decide) (Or.inr (Or.inl rfl)) (o_X2a1 v2 R) (zin_in h1) rfl ?_
  cases H
  exact aw_aret dX2_suppose_15 rfl rfl rfl ⟨rfl, rfl⟩
theorem U_X2_suppose {s : zs} {x1 : Int32} {v : Nat × zs} (H : f_X2_suppose s x1 = some v) : zU v.1 := by
  unfold f_X2_suppose at H
  obtain ⟨h1, H⟩ := zio H
  obtain ⟨v1, -, H⟩ := zbd H
  cases H
  exact zU_of h1
def f_X2_supposeAll_2 : Nat → zs → Int32 → Int32 → Option (zs)
  | 0, _, _, _ => none
  | k + 1, s, x1, x2 =>
    if (11 : Int32) ≤ x2 then (
      some s
    ) else (
      if f_X6_hasBit x1 x2 = true then (
        if zin x2 11 = true then
        Option.bind (f_X5_setUp s (87 + 3 * x2.toNatClampNeg)) fun v4 =>
        f_X2_supposeAll_2 k v4 x1 (x2 + 1)
        else none
      ) else (
        f_X2_supposeAll_2 k s x1 (x2 + 1)
      )
    )
set_option maxHeartbeats 4000000 in
set_option maxRecDepth 100000 in
theorem L_X2_supposeAll_2 {G : zG} {sl : Nat} {P : Option Value → zH → Prop} (R : zr) (x1 : Int32) : ∀ (k : Nat) (s : zs) (x2 : Int32) (e : zs), f_X2_supposeAll_2 k s x1 x2 = some e → (AV G M_X2_supposeAll 4 sl P 31 [none, none, none] [] (zT e R)) → AV G M_X2_supposeAll 4 sl P 2 [some (.ref 76), some (.int x1), some (.int x2)] [] (zT s R) := by
  intro k
  induction k with
  | zero =>
    intro s x2 e H
    unfold f_X2_supposeAll_2 at H
    cases H
  | succ k ih =>
    intro s x2 e H KE
    unfold f_X2_supposeAll_2 at H
    refine aw_iload_n (q := 3) dX2_supposeAll_2 rfl rfl ?_
    refine aw_bipush (q := 5) (v := 11) dX2_supposeAll_3 rfl (by decide) ?_
    refine aw_icmp_ge (q := 8) (t := 31) dX2_supposeAll_5 rfl (by decide) (fun h1 => ?_) (fun h1 => ?_)
    · replace H := zt h1 H
      cases H
      exact aw_fewer (L' := [none, none, none]) trivial KE
    · replace H := zf h1 H
      refine aw_iload_n (q := 9) dX2_supposeAll_8 rfl rfl ?_
      refine aw_iload_n (q := 10) dX2_supposeAll_9 rfl rfl ?_
      refine aw_csN (M' := M_X6_hasBit) (as := [.int x1, .int x2]) (q := 13) dX2_supposeAll_10 rfl W_X6_hasBit (show (RX2, 36, yX6_hasBit) ∈ zNl by decide) s_X6_hasBit rfl rfl (by decide) (Nat.le_of_ble_eq_true rfl) (c_X6_hasBit (zT s R) x1 x2) (Nat.le_refl _) (Nat.le_refl _) ?_
      rintro r9 h9 ⟨rfl, rfl⟩
      refine aw_ifeqB (q := 16) (t := 25) dX2_supposeAll_13 rfl (by decide) (fun h2 => ?_) (fun h2 => ?_)
      · replace H := zt h2 H
        refine aw_aload_n (q := 17) dX2_supposeAll_16 rfl rfl ?_
        refine aw_getr (q := 20) dX2_supposeAll_17 rfl e_X2_11 (by decide) (o_X2 s R) rfl ?_
        refine aw_iload_n (q := 21) dX2_supposeAll_20 rfl rfl ?_
        obtain ⟨h3, H⟩ := zio H
        refine aw_aald (q := 22) (b := 87 + 3 * x2.toNatClampNeg) dX2_supposeAll_21 rfl (by decide) (Or.inr (Or.inl rfl)) (o_X2a1 s R) (zin_in h3) rfl ?_
        obtain ⟨v4, hv4, H⟩ := zbd H
        refine aw_cv (M' := M_X5_setUp) (as := []) (q := 25) dX2_supposeAll_22 rfl W_X5_setUp k_X2_33 i_X5_setUp v_X5_setUp (zU_lt (k := 0) (zU_of h3) (by decide)) (o_X5 (zU_of h3) s R) rfl rfl rfl (by decide) (Nat.le_of_ble_eq_true rfl) (c_X5_setUp s R (zU_of h3) hv4) (Nat.le_refl _) (Nat.le_refl _) ?_
        rintro r9 h9 ⟨rfl, rfl⟩
        refine aw_iinc (q := 28) (v := x2 + 1) (L' := [some (.ref 76), some (.int x1), some (.int (x2 + 1))]) dX2_supposeAll_25 rfl rfl (by first | rfl | decide) (by decide) rfl rfl ?_
        refine aw_goto (q := 2) dX2_supposeAll_28 (by decide) ?_
        exact aw_fewer (L' := [some (.ref 76), some (.int x1), some (.int (x2 + 1))]) ⟨rfl, ⟨rfl, ⟨rfl, trivial⟩⟩⟩ (ih v4 (x2 + 1) _ H KE)
      · replace H := zf h2 H
        refine aw_iinc (q := 28) (v := x2 + 1) (L' := [some (.ref 76), some (.int x1), some (.int (x2 + 1))]) dX2_supposeAll_25 rfl rfl (by first | rfl | decide) (by decide) rfl rfl ?_
        refine aw_goto (q := 2) dX2_supposeAll_28 (by decide) ?_
        exact aw_fewer (L' := [some (.ref 76), some (.int x1), some (.int (x2 + 1))]) ⟨rfl, ⟨rfl, ⟨rfl, trivial⟩⟩⟩ (ih s (x2 + 1) _ H KE)
def f_X2_supposeAll (s : zs) (x1 : Int32) : Option zs :=
  Option.bind (f_X2_supposeAll_2 zFu s x1 0) fun e1 =>
  some e1
set_option maxHeartbeats 4000000 in
set_option maxRecDepth 100000 in
theorem c_X2_supposeAll {G : zG} {sl : Nat} (s : zs) (R : zr) (x1 : Int32) {v9 : zs} (H : f_X2_supposeAll s x1 = some v9) : zMv G 4 M_X2_supposeAll [.ref 76, .int x1] sl (zT s R) (fun r h' => r = none ∧ h' = zT v9 R) := by
  unfold f_X2_supposeAll at H
  refine zMv_of (L := [some (.ref 76), some (.int x1), none]) (by decide) rfl (Nat.le_of_ble_eq_true rfl) rfl ?_
  refine aw_iconst (q := 1) (v := 0) dX2_supposeAll_0 rfl (by decide) ?_
  refine aw_istore_n (q := 2) (L' := [some (.ref 76), some (.int x1), some (.int 0)]) dX2_supposeAll_1 rfl (by decide) rfl rfl ?_
  obtain ⟨e1, he1, H⟩ := zbd H
  refine aw_fewer (L' := [some (.ref 76), some (.int x1), some (.int 0)]) ⟨rfl, ⟨rfl, ⟨rfl, trivial⟩⟩⟩ ?_
  refine L_X2_supposeAll_2 R x1 zFu s 0 e1 he1 ?_
  cases H
  exact aw_vret dX2_supposeAll_31 rfl rfl rfl ⟨rfl, rfl⟩
def f_X5_spread_24 : Nat → zs → Nat → Int32 → Nat → Nat → Int32 → Int32 → Int32 → Int32 → Option (Int32 × Int32)
  | 0, _, _, _, _, _, _, _, _, _ => none
  | k + 1, s, u, x1, x2, x3, x6, x4, x5, x7 =>
    if (s.1 64 10) ≤ x7 then (
      some (x4, x5)
    ) else (
      if zin x7 5 = true then
      if f_X6_hasBit x1 (s.1 x2 x7.toNatClampNeg) = true then (
        if f_X6_hasBit (s.1 u 5) x7 = true then (
          f_X5_spread_24 k s u x1 x2 x3 x6 x4 x5 (x7 + 1)
        ) else (
          zlt (x4 ||| ((1 : Int32) <<< (x7 &&& 31)) : Int32) fun y5 =>
          if zin (s.1 x3 x7.toNatClampNeg) 16 = true then
          zlt (x5 ||| (s.1 (u + 1) ((s.1 x3 x7.toNatClampNeg).toNatClampNeg)) : Int32) fun y8 =>
          f_X5_spread_24 k s u x1 x2 x3 x6 y5 y8 (x7 + 1)
          else none
        )
      ) else (
        if zin (s.1 x2 x7.toNatClampNeg) 16 = true then
        if ((s.1 (u + 1) ((s.1 x2 x7.toNatClampNeg).toNatClampNeg)) &&& x5) = 0 then (
          f_X5_spread_24 k s u x1 x2 x3 x6 x4 x5 (x7 + 1)
        ) else (
          if f_X6_hasBit (s.1 u 5) x7 = true then (
            f_X5_spread_24 k s u x1 x2 x3 x6 x4 x5 (x7 + 1)
          ) else (
            zlt (x4 ||| ((1 : Int32) <<< (x7 &&& 31)) : Int32) fun y13 =>
            if zin (s.1 x3 x7.toNatClampNeg) 16 = true then
            zlt (x5 ||| (s.1 (u + 1) ((s.1 x3 x7.toNatClampNeg).toNatClampNeg)) : Int32) fun y16 =>
            f_X5_spread_24 k s u x1 x2 x3 x6 y13 y16 (x7 + 1)
            else none
          )
        )
        else none
      )
      else none
    )
set_option maxHeartbeats 4000000 in
set_option maxRecDepth 100000 in
theorem L_X5_spread_24 {G : zG} {sl : Nat} {P : Option Value → zH → Prop} (R : zr) {u : Nat} (hu : zU u) (x1 : Int32) {x2 : Nat} (ha2 : zA5 x2) {x3 : Nat} (ha3 : zA5 x3) (x6 : Int32) : ∀ (k : Nat) (s : zs) (x4 : Int32) (x5 : Int32) (x7 : Int32) (e : Int32 × Int32), f_X5_spread_24 k s u x1 x2 x3 x6 x4 x5 x7 = some e → (AV G M_X5_spread 1 sl P 115 [some (.ref u), some (.int x1), some (.ref x2), some (.ref x3), some (.int e.1), some (.int e.2), some (.int x6), none, none] [] (zT s R)) → AV G M_X5_spread 1 sl P 24 [some (.ref u), some (.int x1), some (.ref x2), some (.ref x3), some (.int x4), some (.int x5), some (.int x6), some (.int x7), none] [] (zT s R) := by
  intro k
  induction k with
  | zero =>
    intro s x4 x5 x7 e H
    unfold f_X5_spread_24 at H
    cases H
  | succ k ih =>
    intro s x4 x5 x7 e H KE
    unfold f_X5_spread_24 at H
    refine aw_iload (q := 26) dX5_spread_24 rfl rfl ?_
    refine aw_aload_n (q := 27) dX5_spread_26 rfl rfl ?_
    refine aw_getr (q := 30) dX5_spread_27 rfl e_X5_18 (zU_lt (k := 0) hu (by decide)) (o_X5 hu s R) rfl ?_
    refine aw_getr (q := 33) dX5_spread_30 rfl e_X5_75 (zB_lt0 zB64) (o_X0 zB64 s R) rfl ?_
    refine aw_icmp_ge (q := 36) (t := 115) dX5_spread_33 rfl (by decide) (fun h1 => ?_) (fun h1 => ?_)
    · replace H := zt h1 H
      cases H
      exact aw_fewer (L' := [some (.ref u), some (.int x1), some (.ref x2), some (.ref x3), some (.int x4), some (.int x5), some (.int x6), none, none]) ⟨rfl, ⟨rfl, ⟨rfl, ⟨rfl, ⟨rfl, ⟨rfl, ⟨rfl, trivial⟩⟩⟩⟩⟩⟩⟩ KE
    · replace H := zf h1 H
      refine aw_iload_n (q := 37) dX5_spread_36 rfl rfl ?_
      refine aw_aload_n (q := 38) dX5_spread_37 rfl rfl ?_
      refine aw_iload (q := 40) dX5_spread_38 rfl rfl ?_
      obtain ⟨h2, H⟩ := zio H
      refine aw_iald' (q := 41) (v := s.1 x2 x7.toNatClampNeg) dX5_spread_40 rfl ha2.1 (ha2.2 s R) (zin_in h2) rfl ?_
      refine aw_csN (M' := M_X6_hasBit) (as := [.int x1, .int (s.1 x2 x7.toNatClampNeg)]) (q := 44) dX5_spread_41 rfl W_X6_hasBit (show (RX5, 78, yX6_hasBit) ∈ zNl by decide) s_X6_hasBit rfl rfl (by decide) (Nat.le_of_ble_eq_true rfl) (c_X6_hasBit (zT s R) x1 (s.1 x2 x7.toNatClampNeg)) (Nat.le_refl _) (Nat.le_refl _) ?_
      rintro r9 h9 ⟨rfl, rfl⟩
      refine aw_ifneB (q := 47) (t := 62) dX5_spread_44 rfl (by decide) (fun h3 => ?_) (fun h3 => ?_)
      · replace H := zt h3 H
        refine aw_iconst (q := 63) (v := 1) dX5_spread_62 rfl (by decide) ?_
        refine aw_goto (q := 67) dX5_spread_63 (by decide) ?_
        refine aw_istore (q := 69) (L' := [some (.ref u), some (.int x1), some (.ref x2), some (.ref x3), some (.int x4), some (.int x5), some (.int x6), some (.int x7), some (.int 1)]) dX5_spread_67 rfl (by decide) rfl rfl ?_
        refine aw_iload (q := 71) dX5_spread_69 rfl rfl ?_
        refine aw_if_eq (q := 74) (t := 109) dX5_spread_71 rfl (by decide) (fun z => absurd z (by decide)) (fun _ => ?_)
        refine aw_aload_n (q := 75) dX5_spread_74 rfl rfl ?_
        refine aw_getr (q := 78) dX5_spread_75 rfl e_X5_44 (zU_lt (k := 0) hu (by decide)) (o_X5 hu s R) rfl ?_
        refine aw_iload (q := 80) dX5_spread_78 rfl rfl ?_
        refine aw_csN (M' := M_X6_hasBit) (as := [.int (s.1 u 5), .int x7]) (q := 83) dX5_spread_80 rfl W_X6_hasBit (show (RX5, 78, yX6_hasBit) ∈ zNl by decide) s_X6_hasBit rfl rfl (by decide) (Nat.le_of_ble_eq_true rfl) (c_X6_hasBit (zT s R) (s.1 u 5) x7) (Nat.le_refl _) (Nat.le_refl _) ?_
        rintro r9 h9 ⟨rfl, rfl⟩
        refine aw_ifneB (q := 86) (t := 109) dX5_spread_83 rfl (by decide) (fun h4 => ?_) (fun h4 => ?_)
        · replace H := zt h4 H
          refine aw_iinc (q := 112) (v := x7 + 1) (L' := [some (.ref u), some (.int x1), some (.ref x2), some (.ref x3), some (.int x4), some (.int x5), some (.int x6), some (.int (x7 + 1)), some (.int 1)]) dX5_spread_109 rfl rfl (by first | rfl | decide) (by decide) rfl rfl ?_
          refine aw_goto (q := 24) dX5_spread_112 (by decide) ?_
          exact aw_fewer (L' := [some (.ref u), some (.int x1), some (.ref x2), some (.ref x3), some (.int x4), some (.int x5), some (.int x6), some (.int (x7 + 1)), none]) ⟨rfl, ⟨rfl, ⟨rfl, ⟨rfl, ⟨rfl, ⟨rfl, ⟨rfl, ⟨rfl, trivial⟩⟩⟩⟩⟩⟩⟩⟩ (ih s x4 x5 (x7 + 1) _ H KE)
        · replace H := zf h4 H
          refine aw_iload (q := 88) dX5_spread_86 rfl rfl ?_
          refine aw_iconst (q := 89) (v := 1) dX5_spread_88 rfl (by decide) ?_
          refine aw_iload (q := 91) dX5_spread_89 rfl rfl ?_
          refine aw_ishl (q := 92) dX5_spread_91 rfl ?_
          refine aw_ior (q := 93) dX5_spread_92 rfl ?_
          obtain ⟨y5, q6, H⟩ := zltd H
          refine aw_nm q6 ?_
          refine aw_istore (q := 95) (L' := [some (.ref u), some (.int x1), some (.ref x2), some (.ref x3), some (.int y5), some (.int x5), some (.int x6), some (.int x7), some (.int 1)]) dX5_spread_93 rfl (by decide) rfl rfl ?_
          refine aw_iload (q := 97) dX5_spread_95 rfl rfl ?_
          refine aw_aload_n (q := 98) dX5_spread_97 rfl rfl ?_
          refine aw_getr (q := 101) dX5_spread_98 rfl e_X5_9 (zU_lt (k := 0) hu (by decide)) (o_X5 hu s R) rfl ?_
          refine aw_aload_n (q := 102) dX5_spread_101 rfl rfl ?_
          refine aw_iload (q := 104) dX5_spread_102 rfl rfl ?_
          refine aw_iald' (q := 105) (v := s.1 x3 x7.toNatClampNeg) dX5_spread_104 rfl ha3.1 (ha3.2 s R) (zin_in h2) rfl ?_
          obtain ⟨h7, H⟩ := zio H
          refine aw_iald' (q := 106) (v := s.1 (u + 1) ((s.1 x3 x7.toNatClampNeg).toNatClampNeg)) dX5_spread_105 rfl (zU_lt (k := 1) hu (by decide)) (o_X5a2 hu s R) (zin_in h7) rfl ?_
          refine aw_ior (q := 107) dX5_spread_106 rfl ?_
          obtain ⟨y8, q9, H⟩ := zltd H
          refine aw_nm q9 ?_
          refine aw_istore (q := 109) (L' := [some (.ref u), some (.int x1), some (.ref x2), some (.ref x3), some (.int y5), some (.int y8), some (.int x6), some (.int x7), some (.int 1)]) dX5_spread_107 rfl (by decide) rfl rfl ?_
          refine aw_iinc (q := 112) (v := x7 + 1) (L' := [some (.ref u), some (.int x1), some (.ref x2), some (.ref x3), some (.int y5), some (.int y8), some (.int x6), some (.int (x7 + 1)), some (.int 1)]) dX5_spread_109 rfl rfl (by first | rfl | decide) (by decide) rfl rfl ?_
          refine aw_goto (q := 24) dX5_spread_112 (by decide) ?_
          exact aw_fewer (L' := [some (.ref u), some (.int x1), some (.ref x2), some (.ref x3), some (.int y5), some (.int y8), some (.int x6), some (.int (x7 + 1)), none]) ⟨rfl, ⟨rfl, ⟨rfl, ⟨rfl, ⟨rfl, ⟨rfl, ⟨rfl, ⟨rfl, trivial⟩⟩⟩⟩⟩⟩⟩⟩ (ih s y5 y8 (x7 + 1) _ H KE)
      · replace H := zf h3 H
        refine aw_aload_n (q := 48) dX5_spread_47 rfl rfl ?_
        refine aw_getr (q := 51) dX5_spread_48 rfl e_X5_9 (zU_lt (k := 0) hu (by decide)) (o_X5 hu s R) rfl ?_
        refine aw_aload_n (q := 52) dX5_spread_51 rfl rfl ?_
        refine aw_iload (q := 54) dX5_spread_52 rfl rfl ?_
        refine aw_iald' (q := 55) (v := s.1 x2 x7.toNatClampNeg) dX5_spread_54 rfl ha2.1 (ha2.2 s R) (zin_in h2) rfl ?_
        obtain ⟨h10, H⟩ := zio H
        refine aw_iald' (q := 56) (v := s.1 (u + 1) ((s.1 x2 x7.toNatClampNeg).toNatClampNeg)) dX5_spread_55 rfl (zU_lt (k := 1) hu (by decide)) (o_X5a2 hu s R) (zin_in h10) rfl ?_
        refine aw_iload (q := 58) dX5_spread_56 rfl rfl ?_
        refine aw_iand (q := 59) dX5_spread_58 rfl ?_
        refine aw_if_eq (q := 62) (t := 66) dX5_spread_59 rfl (by decide) (fun h11 => ?_) (fun h11 => ?_)
        · replace H := zt h11 H
          refine aw_iconst (q := 67) (v := 0) dX5_spread_66 rfl (by decide) ?_
          refine aw_istore (q := 69) (L' := [some (.ref u), some (.int x1), some (.ref x2), some (.ref x3), some (.int x4), some (.int x5), some (.int x6), some (.int x7), some (.int 0)]) dX5_spread_67 rfl (by decide) rfl rfl ?_
          refine aw_iload (q := 71) dX5_spread_69 rfl rfl ?_
          refine aw_if_eq (q := 74) (t := 109) dX5_spread_71 rfl (by decide) (fun _ => ?_) (fun z => absurd (by decide) z)
          refine aw_iinc (q := 112) (v := x7 + 1) (L' := [some (.ref u), some (.int x1), some (.ref x2), some (.ref x3), some (.int x4), some (.int x5), some (.int x6), some (.int (x7 + 1)), some (.int 0)]) dX5_spread_109 rfl rfl (by first | rfl | decide) (by decide) rfl rfl ?_
          refine aw_goto (q := 24) dX5_spread_112 (by decide) ?_
          exact aw_fewer (L' := [some (.ref u), some (.int x1), some (.ref x2), some (.ref x3), some (.int x4), some (.int x5), some (.int x6), some (.int (x7 + 1)), none]) ⟨rfl, ⟨rfl, ⟨rfl, ⟨rfl, ⟨rfl, ⟨rfl, ⟨rfl, ⟨rfl, trivial⟩⟩⟩⟩⟩⟩⟩⟩ (ih s x4 x5 (x7 + 1) _ H KE)
        · replace H := zf h11 H
          refine aw_iconst (q := 63) (v := 1) dX5_spread_62 rfl (by decide) ?_
          refine aw_goto (q := 67) dX5_spread_63 (by decide) ?_
          refine aw_istore (q := 69) (L' := [some (.ref u), some (.int x1), some (.ref x2), some (.ref x3), some (.int x4), some (.int x5), some (.int x6), some (.int x7), some (.int 1)]) dX5_spread_67 rfl (by decide) rfl rfl ?_
          refine aw_iload (q := 71) dX5_spread_69 rfl rfl ?_
          refine aw_if_eq (q := 74) (t := 109) dX5_spread_71 rfl (by decide) (fun z => absurd z (by decide)) (fun _ => ?_)
          refine aw_aload_n (q := 75) dX5_spread_74 rfl rfl ?_
          refine aw_getr (q := 78) dX5_spread_75 rfl e_X5_44 (zU_lt (k := 0) hu (by decide)) (o_X5 hu s R) rfl ?_
          refine aw_iload (q := 80) dX5_spread_78 rfl rfl ?_
          refine aw_csN (M' := M_X6_hasBit) (as := [.int (s.1 u 5), .int x7]) (q := 83) dX5_spread_80 rfl W_X6_hasBit (show (RX5, 78, yX6_hasBit) ∈ zNl by decide) s_X6_hasBit rfl rfl (by decide) (Nat.le_of_ble_eq_true rfl) (c_X6_hasBit (zT s R) (s.1 u 5) x7) (Nat.le_refl _) (Nat.le_refl _) ?_
          rintro r9 h9 ⟨rfl, rfl⟩
          refine aw_ifneB (q := 86) (t := 109) dX5_spread_83 rfl (by decide) (fun h12 => ?_) (fun h12 => ?_)
          · replace H := zt h12 H
            refine aw_iinc (q := 112) (v := x7 + 1) (L' := [some (.ref u), some (.int x1), some (.ref x2), some (.ref x3), some (.int x4), some (.int x5), some (.int x6), some (.int (x7 + 1)), some (.int 1)]) dX5_spread_109 rfl rfl (by first | rfl | decide) (by decide) rfl rfl ?_
            refine aw_goto (q := 24) dX5_spread_112 (by decide) ?_
            exact aw_fewer (L' := [some (.ref u), some (.int x1), some (.ref x2), some (.ref x3), some (.int x4), some (.int x5), some (.int x6), some (.int (x7 + 1)), none]) ⟨rfl, ⟨rfl, ⟨rfl, ⟨rfl, ⟨rfl, ⟨rfl, ⟨rfl, ⟨rfl, trivial⟩⟩⟩⟩⟩⟩⟩⟩ (ih s x4 x5 (x7 + 1) _ H KE)
          · replace H := zf h12 H
            refine aw_iload (q := 88) dX5_spread_86 rfl rfl ?_
            refine aw_iconst (q := 89) (v := 1) dX5_spread_88 rfl (by decide) ?_
            refine aw_iload (q := 91) dX5_spread_89 rfl rfl ?_
            refine aw_ishl (q := 92) dX5_spread_91 rfl ?_
            refine aw_ior (q := 93) dX5_spread_92 rfl ?_
            obtain ⟨y13, q14, H⟩ := zltd H
            refine aw_nm q14 ?_
            refine aw_istore (q := 95) (L' := [some (.ref u), some (.int x1), some (.ref x2), some (.ref x3), some (.int y13), some (.int x5), some (.int x6), some (.int x7), some (.int 1)]) dX5_spread_93 rfl (by decide) rfl rfl ?_
            refine aw_iload (q := 97) dX5_spread_95 rfl rfl ?_
            refine aw_aload_n (q := 98) dX5_spread_97 rfl rfl ?_
            refine aw_getr (q := 101) dX5_spread_98 rfl e_X5_9 (zU_lt (k := 0) hu (by decide)) (o_X5 hu s R) rfl ?_
            refine aw_aload_n (q := 102) dX5_spread_101 rfl rfl ?_
            refine aw_iload (q := 104) dX5_spread_102 rfl rfl ?_
            refine aw_iald' (q := 105) (v := s.1 x3 x7.toNatClampNeg) dX5_spread_104 rfl ha3.1 (ha3.2 s R) (zin_in h2) rfl ?_
            obtain ⟨h15, H⟩ := zio H
            refine aw_iald' (q := 106) (v := s.1 (u + 1) ((s.1 x3 x7.toNatClampNeg).toNatClampNeg)) dX5_spread_105 rfl (zU_lt (k := 1) hu (by decide)) (o_X5a2 hu s R) (zin_in h15) rfl ?_
            refine aw_ior (q := 107) dX5_spread_106 rfl ?_
            obtain ⟨y16, q17, H⟩ := zltd H
            refine aw_nm q17 ?_
            refine aw_istore (q := 109) (L' := [some (.ref u), some (.int x1), some (.ref x2), some (.ref x3), some (.int y13), some (.int y16), some (.int x6), some (.int x7), some (.int 1)]) dX5_spread_107 rfl (by decide) rfl rfl ?_
            refine aw_iinc (q := 112) (v := x7 + 1) (L' := [some (.ref u), some (.int x1), some (.ref x2), some (.ref x3), some (.int y13), some (.int y16), some (.int x6), some (.int (x7 + 1)), some (.int 1)]) dX5_spread_109 rfl rfl (by first | rfl | decide) (by decide) rfl rfl ?_
            refine aw_goto (q := 24) dX5_spread_112 (by decide) ?_
            exact aw_fewer (L' := [some (.ref u), some (.int x1), some (.ref x2), some (.ref x3), some (.int y13), some (.int y16), some (.int x6), some (.int (x7 + 1)), none]) ⟨rfl, ⟨rfl, ⟨rfl, ⟨rfl, ⟨rfl, ⟨rfl, ⟨rfl, ⟨rfl, trivial⟩⟩⟩⟩⟩⟩⟩⟩ (ih s y13 y16 (x7 + 1) _ H KE)
def f_X5_spread_9 : Nat → zs → Nat → Int32 → Nat → Nat → Int32 → Int32 → Int32 → Option (Int32)
  | 0, _, _, _, _, _, _, _, _ => none
  | k + 1, s, u, x1, x2, x3, x4, x5, x6 =>
    if (s.1 64 10) ≤ x6 then (
      some x4
    ) else (
      Option.bind (f_X5_spread_24 zFu s u x1 x2 x3 x6 x4 x5 0) fun e2 =>
      f_X5_spread_9 k s u x1 x2 x3 e2.1 e2.2 (x6 + 1)
    )
set_option maxHeartbeats 4000000 in
set_option maxRecDepth 100000 in
theorem L_X5_spread_9 {G : zG} {sl : Nat} {P : Option Value → zH → Prop} (R : zr) {u : Nat} (hu : zU u) (x1 : Int32) {x2 : Nat} (ha2 : zA5 x2) {x3 : Nat} (ha3 : zA5 x3) : ∀ (k : Nat) (s : zs) (x4 : Int32) (x5 : Int32) (x6 : Int32) (e : Int32), f_X5_spread_9 k s u x1 x2 x3 x4 x5 x6 = some e → (AV G M_X5_spread 1 sl P 121 [none, none, none, none, some (.int e), none, none, none, none] [] (zT s R)) → AV G M_X5_spread 1 sl P 9 [some (.ref u), some (.int x1), some (.ref x2), some (.ref x3), some (.int x4), some (.int x5), some (.int x6), none, none] [] (zT s R) := by
  intro k
  induction k with
  | zero =>
    intro s x4 x5 x6 e H
    unfold f_X5_spread_9 at H
    cases H
  | succ k ih =>
    intro s x4 x5 x6 e H KE
    unfold f_X5_spread_9 at H
    refine aw_iload (q := 11) dX5_spread_9 rfl rfl ?_
    refine aw_aload_n (q := 12) dX5_spread_11 rfl rfl ?_
    refine aw_getr (q := 15) dX5_spread_12 rfl e_X5_18 (zU_lt (k := 0) hu (by decide)) (o_X5 hu s R) rfl ?_
    refine aw_getr (q := 18) dX5_spread_15 rfl e_X5_75 (zB_lt0 zB64) (o_X0 zB64 s R) rfl ?_
    refine aw_icmp_ge (q := 21) (t := 121) dX5_spread_18 rfl (by decide) (fun h1 => ?_) (fun h1 => ?_)
    · replace H := zt h1 H
      cases H
      exact aw_fewer (L' := [none, none, none, none, some (.int x4), none, none, none, none]) ⟨rfl, trivial⟩ KE
    · replace H := zf h1 H
      refine aw_iconst (q := 22) (v := 0) dX5_spread_21 rfl (by decide) ?_
      refine aw_istore (q := 24) (L' := [some (.ref u), some (.int x1), some (.ref x2), some (.ref x3), some (.int x4), some (.int x5), some (.int x6), some (.int 0), none]) dX5_spread_22 rfl (by decide) rfl rfl ?_
      obtain ⟨e2, he2, H⟩ := zbd H
      refine aw_fewer (L' := [some (.ref u), some (.int x1), some (.ref x2), some (.ref x3), some (.int x4), some (.int x5), some (.int x6), some (.int 0), none]) ⟨rfl, ⟨rfl, ⟨rfl, ⟨rfl, ⟨rfl, ⟨rfl, ⟨rfl, ⟨rfl, trivial⟩⟩⟩⟩⟩⟩⟩⟩ ?_
      refine L_X5_spread_24 R hu x1 ha2 ha3 x6 zFu s x4 x5 0 e2 he2 ?_
      refine aw_iinc (q := 118) (v := x6 + 1) (L' := [some (.ref u), some (.int x1), some (.ref x2), some (.ref x3), some (.int e2.1), some (.int e2.2), some (.int (x6 + 1)), none, none]) dX5_spread_115 rfl rfl (by first | rfl | decide) (by decide) rfl rfl ?_
      refine aw_goto (q := 9) dX5_spread_118 (by decide) ?_
      exact aw_fewer (L' := [some (.ref u), some (.int x1), some (.ref x2), some (.ref x3), some (.int e2.1), some (.int e2.2), some (.int (x6 + 1)), none, none]) ⟨rfl, ⟨rfl, ⟨rfl, ⟨rfl, ⟨rfl, ⟨rfl, ⟨rfl, trivial⟩⟩⟩⟩⟩⟩⟩ (ih s e2.1 e2.2 (x6 + 1) _ H KE)
def f_X5_spread (s : zs) (u : Nat) (x1 : Int32) (x2 : Nat) (x3 : Nat) : Option Int32 :=
  Option.bind (f_X5_spread_9 zFu s u x1 x2 x3 0 0 0) fun e1 =>
  some e1
set_option maxHeartbeats 4000000 in
set_option maxRecDepth 100000 in
theorem c_X5_spread {G : zG} {sl : Nat} (s : zs) (R : zr) {u : Nat} (hu : zU u) {x3 : Nat} {x2 : Nat} (x1 : Int32) (ha2 : zA5 x2) (ha3 : zA5 x3) {v9 : Int32} (H : f_X5_spread s u x1 x2 x3 = some v9) : zMv G 1 M_X5_spread [.ref u, .int x1, .ref x2, .ref x3] sl (zT s R) (fun r h' => r = some (.int v9) ∧ h' = (zT s R)) := by
  unfold f_X5_spread at H
  refine zMv_of (L := [some (.ref u), some (.int x1), some (.ref x2), some (.ref x3), none, none, none, none, none]) (by decide) rfl (Nat.le_of_ble_eq_true rfl) rfl ?_
  refine aw_iconst (q := 1) (v := 0) dX5_spread_0 rfl (by decide) ?_
  refine aw_istore (q := 3) (L' := [some (.ref u), some (.int x1), some (.ref x2), some (.ref x3), some (.int 0), none, none, none, none]) dX5_spread_1 rfl (by decide) rfl rfl ?_
  refine aw_iconst (q := 4) (v := 0) dX5_spread_3 rfl (by decide) ?_
  refine aw_istore (q := 6) (L' := [some (.ref u), some (.int x1), some (.ref x2), some (.ref x3), some (.int 0), some (.int 0), none, none, none]) dX5_spread_4 rfl (by decide) rfl rfl ?_
  refine aw_iconst (q := 7) (v := 0) dX5_spread_6 rfl (by decide) ?_
  refine aw_istore (q := 9) (L' := [some (.ref u), some (.int x1), some (.ref x2), some (.ref x3), some (.int 0), some (.int 0), some (.int 0), none, none]) dX5_spread_7 rfl (by decide) rfl rfl ?_
  obtain ⟨e1, he1, H⟩ := zbd H
  refine aw_fewer (L' := [some (.ref u), some (.int x1), some (.ref x2), some (.ref x3), some (.int 0), some (.int 0), some (.int 0), none, none]) ⟨rfl, ⟨rfl, ⟨rfl, ⟨rfl, ⟨rfl, ⟨rfl, ⟨rfl, trivial⟩⟩⟩⟩⟩⟩⟩ ?_
  refine L_X5_spread_9 R hu x1 ha2 ha3 zFu s 0 0 0 e1 he1 ?_
  refine aw_iload (q := 123) dX5_spread_121 rfl rfl ?_
  cases H
  exact aw_ret dX5_spread_123 rfl rfl rfl rfl ⟨rfl, rfl⟩
def f_X5_scannedChips (s : zs) (u : Nat) (x1 : Int32) : Option Int32 :=
  Option.bind (f_X5_spread s u x1 (64 + 3) (64 + 4)) fun v1 =>
  Option.bind (f_X5_spread s u x1 (64 + 4) (64 + 3)) fun v2 =>
  some (v1 &&& v2)
set_option maxHeartbeats 4000000 in
set_option maxRecDepth 100000 in
theorem c_X5_scannedChips {G : zG} {sl : Nat} (s : zs) (R : zr) {u : Nat} (hu : zU u) (x1 : Int32) {v9 : Int32} (H : f_X5_scannedChips s u x1 = some v9) : zMv G 2 M_X5_scannedChips [.ref u, .int x1] sl (zT s R) (fun r h' => r = some (.int v9) ∧ h' = (zT s R)) := by
  unfold f_X5_scannedChips at H
  refine zMv_of (L := [some (.ref u), some (.int x1), none, none]) (by decide) rfl (Nat.le_of_ble_eq_true rfl) rfl ?_
  refine aw_aload_n (q := 1) dX5_scannedChips_0 rfl rfl ?_
  refine aw_iload_n (q := 2) dX5_scannedChips_1 rfl rfl ?_
  refine aw_aload_n (q := 3) dX5_scannedChips_2 rfl rfl ?_
  refine aw_getr (q := 6) dX5_scannedChips_3 rfl e_X5_18 (zU_lt (k := 0) hu (by decide)) (o_X5 hu s R) rfl ?_
  refine aw_getr (q := 9) dX5_scannedChips_6 rfl e_X5_65 (zB_lt0 zB64) (o_X0 zB64 s R) rfl ?_
  refine aw_aload_n (q := 10) dX5_scannedChips_9 rfl rfl ?_
  refine aw_getr (q := 13) dX5_scannedChips_10 rfl e_X5_18 (zU_lt (k := 0) hu (by decide)) (o_X5 hu s R) rfl ?_
  refine aw_getr (q := 16) dX5_scannedChips_13 rfl e_X5_68 (zB_lt0 zB64) (o_X0 zB64 s R) rfl ?_
  obtain ⟨v1, hv1, H⟩ := zbd H
  refine aw_cv (M' := M_X5_spread) (as := [.int x1, .ref (64 + 3), .ref (64 + 4)]) (q := 19) dX5_scannedChips_16 rfl W_X5_spread k_X5_71 i_X5_spread v_X5_spread (zU_lt (k := 0) hu (by decide)) (o_X5 hu s R) rfl rfl rfl (by decide) (Nat.le_of_ble_eq_true rfl) (c_X5_spread s R hu x1 ⟨(zB_lt (k := 3) zB64 (by decide)), o_X0a2 zB64⟩ ⟨(zB_lt (k := 4) zB64 (by decide)), o_X0a3 zB64⟩ hv1) (Nat.le_refl _) (Nat.le_refl _) ?_
  rintro r9 h9 ⟨rfl, rfl⟩
  refine aw_istore_n (q := 20) (L' := [some (.ref u), some (.int x1), some (.int v1), none]) dX5_scannedChips_19 rfl (by decide) rfl rfl ?_
  refine aw_aload_n (q := 21) dX5_scannedChips_20 rfl rfl ?_
  refine aw_iload_n (q := 22) dX5_scannedChips_21 rfl rfl ?_
  refine aw_aload_n (q := 23) dX5_scannedChips_22 rfl rfl ?_
  refine aw_getr (q := 26) dX5_scannedChips_23 rfl e_X5_18 (zU_lt (k := 0) hu (by decide)) (o_X5 hu s R) rfl ?_
  refine aw_getr (q := 29) dX5_scannedChips_26 rfl e_X5_68 (zB_lt0 zB64) (o_X0 zB64 s R) rfl ?_
  refine aw_aload_n (q := 30) dX5_scannedChips_29 rfl rfl ?_
  refine aw_getr (q := 33) dX5_scannedChips_30 rfl e_X5_18 (zU_lt (k := 0) hu (by decide)) (o_X5 hu s R) rfl ?_
  refine aw_getr (q := 36) dX5_scannedChips_33 rfl e_X5_65 (zB_lt0 zB64) (o_X0 zB64 s R) rfl ?_
  obtain ⟨v2, hv2, H⟩ := zbd H
  refine aw_cv (M' := M_X5_spread) (as := [.int x1, .ref (64 + 4), .ref (64 + 3)]) (q := 39) dX5_scannedChips_36 rfl W_X5_spread k_X5_71 i_X5_spread v_X5_spread (zU_lt (k := 0) hu (by decide)) (o_X5 hu s R) rfl rfl rfl (by decide) (Nat.le_of_ble_eq_true rfl) (c_X5_spread s R hu x1 ⟨(zB_lt (k := 4) zB64 (by decide)), o_X0a3 zB64⟩ ⟨(zB_lt (k := 3) zB64 (by decide)), o_X0a2 zB64⟩ hv2) (Nat.le_refl _) (Nat.le_refl _) ?_
  rintro r9 h9 ⟨rfl, rfl⟩
  refine aw_istore_n (q := 40) (L' := [some (.ref u), some (.int x1), some (.int v1), some (.int v2)]) dX5_scannedChips_39 rfl (by decide) rfl rfl ?_
  refine aw_iload_n (q := 41) dX5_scannedChips_40 rfl rfl ?_
  refine aw_iload_n (q := 42) dX5_scannedChips_41 rfl rfl ?_
  refine aw_iand (q := 43) dX5_scannedChips_42 rfl ?_
  cases H
  exact aw_ret dX5_scannedChips_43 rfl rfl rfl rfl ⟨rfl, rfl⟩
def f_X5_probe_13 : Nat → zs → Nat → Int32 → Int32 → Option (zs)
  | 0, _, _, _, _ => none
  | k + 1, s, u, x2, x3 =>
    if (s.1 64 10) ≤ x3 then (
      some s
    ) else (
      if f_X6_hasBit x2 x3 = true then (
        if zin x3 5 = true then
        zlt (zc s u 6 ((s.1 u 6) ||| (s.1 (64 + 5) x3.toNatClampNeg))) fun s4 =>
        f_X5_probe_13 k s4 u x2 (x3 + 1)
        else none
      ) else (
        f_X5_probe_13 k s u x2 (x3 + 1)
      )
    )
set_option maxHeartbeats 4000000 in
set_option maxRecDepth 100000 in
theorem L_X5_probe_13 {G : zG} {sl : Nat} {P : Option Value → zH → Prop} (R : zr) {u : Nat} (hu : zU u) (x2 : Int32) : ∀ (k : Nat) (s : zs) (x3 : Int32) (e : zs), f_X5_probe_13 k s u x2 x3 = some e → (AV G M_X5_probe 3 sl P 56 [none, none, none, none] [] (zT e R)) → AV G M_X5_probe 3 sl P 13 [some (.ref u), none, some (.int x2), some (.int x3)] [] (zT s R) := by
  intro k
  induction k with
  | zero =>
    intro s x3 e H
    unfold f_X5_probe_13 at H
    cases H
  | succ k ih =>
    intro s x3 e H KE
    unfold f_X5_probe_13 at H
    refine aw_iload_n (q := 14) dX5_probe_13 rfl rfl ?_
    refine aw_aload_n (q := 15) dX5_probe_14 rfl rfl ?_
    refine aw_getr (q := 18) dX5_probe_15 rfl e_X5_18 (zU_lt (k := 0) hu (by decide)) (o_X5 hu s R) rfl ?_
    refine aw_getr (q := 21) dX5_probe_18 rfl e_X5_75 (zB_lt0 zB64) (o_X0 zB64 s R) rfl ?_
    refine aw_icmp_ge (q := 24) (t := 56) dX5_probe_21 rfl (by decide) (fun h1 => ?_) (fun h1 => ?_)
    · replace H := zt h1 H
      cases H
      exact aw_fewer (L' := [none, none, none, none]) trivial KE
    · replace H := zf h1 H
      refine aw_iload_n (q := 25) dX5_probe_24 rfl rfl ?_
      refine aw_iload_n (q := 26) dX5_probe_25 rfl rfl ?_
      refine aw_csN (M' := M_X6_hasBit) (as := [.int x2, .int x3]) (q := 29) dX5_probe_26 rfl W_X6_hasBit (show (RX5, 78, yX6_hasBit) ∈ zNl by decide) s_X6_hasBit rfl rfl (by decide) (Nat.le_of_ble_eq_true rfl) (c_X6_hasBit (zT s R) x2 x3) (Nat.le_refl _) (Nat.le_refl _) ?_
      rintro r9 h9 ⟨rfl, rfl⟩
      refine aw_ifeqB (q := 32) (t := 50) dX5_probe_29 rfl (by decide) (fun h2 => ?_) (fun h2 => ?_)
      · replace H := zt h2 H
        refine aw_aload_n (q := 33) dX5_probe_32 rfl rfl ?_
        refine aw_dup (q := 34) dX5_probe_33 rfl rfl ?_
        refine aw_getr (q := 37) dX5_probe_34 rfl e_X5_85 (zU_lt (k := 0) hu (by decide)) (o_X5 hu s R) rfl ?_
        refine aw_aload_n (q := 38) dX5_probe_37 rfl rfl ?_
        refine aw_getr (q := 41) dX5_probe_38 rfl e_X5_18 (zU_lt (k := 0) hu (by decide)) (o_X5 hu s R) rfl ?_
        refine aw_getr (q := 44) dX5_probe_41 rfl e_X5_88 (zB_lt0 zB64) (o_X0 zB64 s R) rfl ?_
        refine aw_iload_n (q := 45) dX5_probe_44 rfl rfl ?_
        obtain ⟨h3, H⟩ := zio H
        refine aw_iald' (q := 46) (v := s.1 (64 + 5) x3.toNatClampNeg) dX5_probe_45 rfl (zB_lt (k := 5) zB64 (by decide)) (o_X0a4 zB64 s R) (zin_in h3) rfl ?_
        refine aw_ior (q := 47) dX5_probe_46 rfl ?_
        obtain ⟨s4, q5, H⟩ := zltd H
        refine aw_put (q := 50) dX5_probe_47 rfl f_X5_85 (zU_lt (k := 0) hu (by decide)) (o_X5 hu s R) rfl rfl (Nat.le_of_ble_eq_true rfl) ((p_X5_6 hu).trans (congrArg (fun z => zT z R) q5.symm)) ?_
        refine aw_iinc (q := 53) (v := x3 + 1) (L' := [some (.ref u), none, some (.int x2), some (.int (x3 + 1))]) dX5_probe_50 rfl rfl (by first | rfl | decide) (by decide) rfl rfl ?_
        refine aw_goto (q := 13) dX5_probe_53 (by decide) ?_
        exact aw_fewer (L' := [some (.ref u), none, some (.int x2), some (.int (x3 + 1))]) ⟨rfl, ⟨rfl, ⟨rfl, trivial⟩⟩⟩ (ih s4 (x3 + 1) _ H KE)
      · replace H := zf h2 H
        refine aw_iinc (q := 53) (v := x3 + 1) (L' := [some (.ref u), none, some (.int x2), some (.int (x3 + 1))]) dX5_probe_50 rfl rfl (by first | rfl | decide) (by decide) rfl rfl ?_
        refine aw_goto (q := 13) dX5_probe_53 (by decide) ?_
        exact aw_fewer (L' := [some (.ref u), none, some (.int x2), some (.int (x3 + 1))]) ⟨rfl, ⟨rfl, ⟨rfl, trivial⟩⟩⟩ (ih s (x3 + 1) _ H KE)
def f_X5_probe (s : zs) (u : Nat) (x1 : Int32) : Option zs :=
  Option.bind (f_X5_scannedChips s u x1) fun v1 =>
  zlt (zc s u 6 x1) fun s2 =>
  Option.bind (f_X5_probe_13 zFu s2 u v1 0) fun e4 =>
  some e4
set_option maxHeartbeats 4000000 in
set_option maxRecDepth 100000 in
theorem c_X5_probe {G : zG} {sl : Nat} (s : zs) (R : zr) {u : Nat} (hu : zU u) (x1 : Int32) {v9 : zs} (H : f_X5_probe s u x1 = some v9) : zMv G 3 M_X5_probe [.ref u, .int x1] sl (zT s R) (fun r h' => r = none ∧ h' = zT v9 R) := by
  unfold f_X5_probe at H
  refine zMv_of (L := [some (.ref u), some (.int x1), none, none]) (by decide) rfl (Nat.le_of_ble_eq_true rfl) rfl ?_
  refine aw_aload_n (q := 1) dX5_probe_0 rfl rfl ?_
  refine aw_iload_n (q := 2) dX5_probe_1 rfl rfl ?_
  obtain ⟨v1, hv1, H⟩ := zbd H
  refine aw_cv (M' := M_X5_scannedChips) (as := [.int x1]) (q := 5) dX5_probe_2 rfl W_X5_scannedChips k_X5_82 i_X5_scannedChips v_X5_scannedChips (zU_lt (k := 0) hu (by decide)) (o_X5 hu s R) rfl rfl rfl (by decide) (Nat.le_of_ble_eq_true rfl) (c_X5_scannedChips s R hu x1 hv1) (Nat.le_refl _) (Nat.le_refl _) ?_
  rintro r9 h9 ⟨rfl, rfl⟩
  refine aw_istore_n (q := 6) (L' := [some (.ref u), some (.int x1), some (.int v1), none]) dX5_probe_5 rfl (by decide) rfl rfl ?_
  refine aw_aload_n (q := 7) dX5_probe_6 rfl rfl ?_
  refine aw_iload_n (q := 8) dX5_probe_7 rfl rfl ?_
  obtain ⟨s2, q3, H⟩ := zltd H
  refine aw_put (q := 11) dX5_probe_8 rfl f_X5_85 (zU_lt (k := 0) hu (by decide)) (o_X5 hu s R) rfl rfl (Nat.le_of_ble_eq_true rfl) ((p_X5_6 hu).trans (congrArg (fun z => zT z R) q3.symm)) ?_
  refine aw_iconst (q := 12) (v := 0) dX5_probe_11 rfl (by decide) ?_
  refine aw_istore_n (q := 13) (L' := [some (.ref u), some (.int x1), some (.int v1), some (.int 0)]) dX5_probe_12 rfl (by decide) rfl rfl ?_
  obtain ⟨e4, he4, H⟩ := zbd H
  refine aw_fewer (L' := [some (.ref u), none, some (.int v1), some (.int 0)]) ⟨rfl, ⟨rfl, ⟨rfl, trivial⟩⟩⟩ ?_
  refine L_X5_probe_13 R hu v1 zFu s2 0 e4 he4 ?_
  cases H
  exact aw_vret dX5_probe_56 rfl rfl rfl ⟨rfl, rfl⟩
def f_X2_probeAll_2 : Nat → zs → Int32 → Int32 → Int32 → Option (zs)
  | 0, _, _, _, _ => none
  | k + 1, s, x1, x2, x3 =>
    if (11 : Int32) ≤ x3 then (
      some s
    ) else (
      if f_X6_hasBit x1 x3 = true then (
        if zin x3 11 = true then
        Option.bind (f_X5_probe s (87 + 3 * x3.toNatClampNeg) x2) fun v4 =>
        f_X2_probeAll_2 k v4 x1 x2 (x3 + 1)
        else none
      ) else (
        f_X2_probeAll_2 k s x1 x2 (x3 + 1)
      )
    )
set_option maxHeartbeats 4000000 in
set_option maxRecDepth 100000 in
theorem L_X2_probeAll_2 {G : zG} {sl : Nat} {P : Option Value → zH → Prop} (R : zr) (x1 : Int32) (x2 : Int32) : ∀ (k : Nat) (s : zs) (x3 : Int32) (e : zs), f_X2_probeAll_2 k s x1 x2 x3 = some e → (AV G M_X2_probeAll 4 sl P 32 [none, none, none, none] [] (zT e R)) → AV G M_X2_probeAll 4 sl P 2 [some (.ref 76), some (.int x1), some (.int x2), some (.int x3)] [] (zT s R) := by
  intro k
  induction k with
  | zero =>
    intro s x3 e H
    unfold f_X2_probeAll_2 at H
    cases H
  | succ k ih =>
    intro s x3 e H KE
    unfold f_X2_probeAll_2 at H
    refine aw_iload_n (q := 3) dX2_probeAll_2 rfl rfl ?_
    refine aw_bipush (q := 5) (v := 11) dX2_probeAll_3 rfl (by decide) ?_
    refine aw_icmp_ge (q := 8) (t := 32) dX2_probeAll_5 rfl (by decide) (fun h1 => ?_) (fun h1 => ?_)
    · replace H := zt h1 H
      cases H
      exact aw_fewer (L' := [none, none, none, none]) trivial KE
    · replace H := zf h1 H
      refine aw_iload_n (q := 9) dX2_probeAll_8 rfl rfl ?_
      refine aw_iload_n (q := 10) dX2_probeAll_9 rfl rfl ?_
      refine aw_csN (M' := M_X6_hasBit) (as := [.int x1, .int x3]) (q := 13) dX2_probeAll_10 rfl W_X6_hasBit (show (RX2, 36, yX6_hasBit) ∈ zNl by decide) s_X6_hasBit rfl rfl (by decide) (Nat.le_of_ble_eq_true rfl) (c_X6_hasBit (zT s R) x1 x3) (Nat.le_refl _) (Nat.le_refl _) ?_
      rintro r9 h9 ⟨rfl, rfl⟩
      refine aw_ifeqB (q := 16) (t := 26) dX2_probeAll_13 rfl (by decide) (fun h2 => ?_) (fun h2 => ?_)
      · replace H := zt h2 H
        refine aw_aload_n (q := 17) dX2_probeAll_16 rfl rfl ?_
        refine aw_getr (q := 20) dX2_probeAll_17 rfl e_X2_11 (by decide) (o_X2 s R) rfl ?_
        refine aw_iload_n (q := 21) dX2_probeAll_20 rfl rfl ?_
        obtain ⟨h3, H⟩ := zio H
        refine aw_aald (q := 22) (b := 87 + 3 * x3.toNatClampNeg) dX2_probeAll_21 rfl (by decide) (Or.inr (Or.inl rfl)) (o_X2a1 s R) (zin_in h3) rfl ?_
        refine aw_iload_n (q := 23) dX2_probeAll_22 rfl rfl ?_
        obtain ⟨v4, hv4, H⟩ := zbd H
        refine aw_cv (M' := M_X5_probe) (as := [.int x2]) (q := 26) dX2_probeAll_23 rfl W_X5_probe k_X2_40 i_X5_probe v_X5_probe (zU_lt (k := 0) (zU_of h3) (by decide)) (o_X5 (zU_of h3) s R) rfl rfl rfl (by decide) (Nat.le_of_ble_eq_true rfl) (c_X5_probe s R (zU_of h3) x2 hv4) (Nat.le_refl _) (Nat.le_refl _) ?_
        rintro r9 h9 ⟨rfl, rfl⟩
        refine aw_iinc (q := 29) (v := x3 + 1) (L' := [some (.ref 76), some (.int x1), some (.int x2), some (.int (x3 + 1))]) dX2_probeAll_26 rfl rfl (by first | rfl | decide) (by decide) rfl rfl ?_
        refine aw_goto (q := 2) dX2_probeAll_29 (by decide) ?_
        exact aw_fewer (L' := [some (.ref 76), some (.int x1), some (.int x2), some (.int (x3 + 1))]) ⟨rfl, ⟨rfl, ⟨rfl, ⟨rfl, trivial⟩⟩⟩⟩ (ih v4 (x3 + 1) _ H KE)
      · replace H := zf h2 H
        refine aw_iinc (q := 29) (v := x3 + 1) (L' := [some (.ref 76), some (.int x1), some (.int x2), some (.int (x3 + 1))]) dX2_probeAll_26 rfl rfl (by first | rfl | decide) (by decide) rfl rfl ?_
        refine aw_goto (q := 2) dX2_probeAll_29 (by decide) ?_
        exact aw_fewer (L' := [some (.ref 76), some (.int x1), some (.int x2), some (.int (x3 + 1))]) ⟨rfl, ⟨rfl, ⟨rfl, ⟨rfl, trivial⟩⟩⟩⟩ (ih s (x3 + 1) _ H KE)
def f_X2_probeAll (s : zs) (x1 : Int32) (x2 : Int32) : Option zs :=
  Option.bind (f_X2_probeAll_2 zFu s x1 x2 0) fun e1 =>
  some e1
set_option maxHeartbeats 4000000 in
set_option maxRecDepth 100000 in
theorem c_X2_probeAll {G : zG} {sl : Nat} (s : zs) (R : zr) (x1 : Int32) (x2 : Int32) {v9 : zs} (H : f_X2_probeAll s x1 x2 = some v9) : zMv G 4 M_X2_probeAll [.ref 76, .int x1, .int x2] sl (zT s R) (fun r h' => r = none ∧ h' = zT v9 R) := by
  unfold f_X2_probeAll at H
  refine zMv_of (L := [some (.ref 76), some (.int x1), some (.int x2), none]) (by decide) rfl (Nat.le_of_ble_eq_true rfl) rfl ?_
  refine aw_iconst (q := 1) (v := 0) dX2_probeAll_0 rfl (by decide) ?_
  refine aw_istore_n (q := 2) (L' := [some (.ref 76), some (.int x1), some (.int x2), some (.int 0)]) dX2_probeAll_1 rfl (by decide) rfl rfl ?_
  obtain ⟨e1, he1, H⟩ := zbd H
  refine aw_fewer (L' := [some (.ref 76), some (.int x1), some (.int x2), some (.int 0)]) ⟨rfl, ⟨rfl, ⟨rfl, ⟨rfl, trivial⟩⟩⟩⟩ ?_
  refine L_X2_probeAll_2 R x1 x2 zFu s 0 e1 he1 ?_
  cases H
  exact aw_vret dX2_probeAll_32 rfl rfl rfl ⟨rfl, rfl⟩
def f_X5_pinsAtOne (s : zs) (u : Nat) (x1 : Int32) (x2 : Int32) : Option Int32 :=
  if x2 = 1 then (
    if zin x1 16 = true then
    zlt ((s.1 (u + 2) x1.toNatClampNeg) ||| (s.1 u 4) : Int32) fun y3 =>
    some (y3 &&& (s.1 u 6))
    else none
  ) else (
    zlt (s.1 u 4 : Int32) fun y5 =>
    some (y5 &&& (s.1 u 6))
  )
set_option maxHeartbeats 4000000 in
set_option maxRecDepth 100000 in
theorem c_X5_pinsAtOne {G : zG} {sl : Nat} (s : zs) (R : zr) {u : Nat} (hu : zU u) (x1 : Int32) (x2 : Int32) {v9 : Int32} (H : f_X5_pinsAtOne s u x1 x2 = some v9) : zMv G 0 M_X5_pinsAtOne [.ref u, .int x1, .int x2] sl (zT s R) (fun r h' => r = some (.int v9) ∧ h' = (zT s R)) := by
  unfold f_X5_pinsAtOne at H
  refine zMv_of (L := [some (.ref u), some (.int x1), some (.int x2), none]) (by decide) rfl (Nat.le_of_ble_eq_true rfl) rfl ?_
  refine aw_iload_n (q := 1) dX5_pinsAtOne_0 rfl rfl ?_
  refine aw_iconst (q := 2) (v := 1) dX5_pinsAtOne_1 rfl (by decide) ?_
  refine aw_icmp_neP (q := 5) (t := 19) dX5_pinsAtOne_2 rfl (by decide) (fun h1 => ?_) (fun h1 => ?_)
  · replace H := zt h1 H
    refine aw_aload_n (q := 6) dX5_pinsAtOne_5 rfl rfl ?_
    refine aw_getr (q := 9) dX5_pinsAtOne_6 rfl e_X5_15 (zU_lt (k := 0) hu (by decide)) (o_X5 hu s R) rfl ?_
    refine aw_iload_n (q := 10) dX5_pinsAtOne_9 rfl rfl ?_
    obtain ⟨h2, H⟩ := zio H
    refine aw_iald' (q := 11) (v := s.1 (u + 2) x1.toNatClampNeg) dX5_pinsAtOne_10 rfl (zU_lt (k := 2) hu (by decide)) (o_X5a3 hu s R) (zin_in h2) rfl ?_
    refine aw_aload_n (q := 12) dX5_pinsAtOne_11 rfl rfl ?_
    refine aw_getr (q := 15) dX5_pinsAtOne_12 rfl e_X5_41 (zU_lt (k := 0) hu (by decide)) (o_X5 hu s R) rfl ?_
    refine aw_ior (q := 16) dX5_pinsAtOne_15 rfl ?_
    refine aw_goto (q := 23) dX5_pinsAtOne_16 (by decide) ?_
    obtain ⟨y3, q4, H⟩ := zltd H
    refine aw_nm q4 ?_
    refine aw_istore_n (q := 24) (L' := [some (.ref u), some (.int x1), some (.int x2), some (.int y3)]) dX5_pinsAtOne_23 rfl (by decide) rfl rfl ?_
    refine aw_iload_n (q := 25) dX5_pinsAtOne_24 rfl rfl ?_
    refine aw_aload_n (q := 26) dX5_pinsAtOne_25 rfl rfl ?_
    refine aw_getr (q := 29) dX5_pinsAtOne_26 rfl e_X5_85 (zU_lt (k := 0) hu (by decide)) (o_X5 hu s R) rfl ?_
    refine aw_iand (q := 30) dX5_pinsAtOne_29 rfl ?_
    cases H
    exact aw_ret dX5_pinsAtOne_30 rfl rfl rfl rfl ⟨rfl, rfl⟩
  · replace H := zf h1 H
    refine aw_aload_n (q := 20) dX5_pinsAtOne_19 rfl rfl ?_
    refine aw_getr (q := 23) dX5_pinsAtOne_20 rfl e_X5_41 (zU_lt (k := 0) hu (by decide)) (o_X5 hu s R) rfl ?_
    obtain ⟨y5, q6, H⟩ := zltd H
    refine aw_nm q6 ?_
    refine aw_istore_n (q := 24) (L' := [some (.ref u), some (.int x1), some (.int x2), some (.int y5)]) dX5_pinsAtOne_23 rfl (by decide) rfl rfl ?_
    refine aw_iload_n (q := 25) dX5_pinsAtOne_24 rfl rfl ?_
    refine aw_aload_n (q := 26) dX5_pinsAtOne_25 rfl rfl ?_
    refine aw_getr (q := 29) dX5_pinsAtOne_26 rfl e_X5_85 (zU_lt (k := 0) hu (by decide)) (o_X5 hu s R) rfl ?_
    refine aw_iand (q := 30) dX5_pinsAtOne_29 rfl ?_
    cases H
    exact aw_ret dX5_pinsAtOne_30 rfl rfl rfl rfl ⟨rfl, rfl⟩
