def f_X7_reasonOf (s : zr) : Option (Int32 × zr) :=
  Option.bind (f_X7_readsCommand s) fun v1 =>
  if v1.1 = true then (
    zlt (f_X7_commandKind v1.2 : Int32) fun y3 =>
    Option.bind (f_X7_isOfForm v1.2 y3) fun v5 =>
    if v5 = true then (
      Option.bind (f_X7_areThere v1.2 y3) fun v7 =>
      if v7 = true then (
        Option.bind (f_X7_does v1.2 y3) fun v9 =>
        if (0 : Int32) ≤ v9.1 then (
          some (0, v9.2)
        ) else (
          some (3, v9.2)
        )
      ) else (
        some (2, v1.2)
      )
    ) else (
      some (1, v1.2)
    )
  ) else (
    some (1, v1.2)
  )
set_option maxHeartbeats 4000000 in
set_option maxRecDepth 100000 in
theorem c_X7_reasonOf {G : zG} {sl : Nat} (sg : zs) (s : zr)  {v9 : (Int32 × zr)} (H : f_X7_reasonOf s = some v9) : zMv G 5 M_X7_reasonOf [.ref 120] sl (zT sg s) (fun r h' => r = some (.int v9.1) ∧ h' = zT sg v9.2) := by
  unfold f_X7_reasonOf at H
  refine zMv_of (L := [some (.ref 120), none]) (by decide) rfl (Nat.le_of_ble_eq_true rfl) rfl ?_
  refine aw_aload_n (q := 1) dX7_reasonOf_0 rfl rfl ?_
  obtain ⟨v1, hv1, H⟩ := zbd H
  refine aw_cv (M' := M_X7_readsCommand) (as := []) (q := 4) dX7_reasonOf_1 rfl W_X7_readsCommand k_X7_229 i_X7_readsCommand v_X7_readsCommand (by decide) (o_X7 sg s) rfl rfl rfl (by decide) (Nat.le_of_ble_eq_true rfl) (c_X7_readsCommand sg s hv1) (Nat.le_refl _) (Nat.le_refl _) ?_
  rintro r9 h9 ⟨rfl, rfl⟩
  refine aw_ifneB (q := 7) (t := 9) dX7_reasonOf_4 rfl (by decide) (fun h2 => ?_) (fun h2 => ?_)
  · replace H := zt h2 H
    refine aw_aload_n (q := 10) dX7_reasonOf_9 rfl rfl ?_
    refine aw_cv (M' := M_X7_commandKind) (as := []) (q := 13) dX7_reasonOf_10 rfl W_X7_commandKind k_X7_232 i_X7_commandKind v_X7_commandKind (by decide) (o_X7 sg v1.2) rfl rfl rfl (by decide) (Nat.le_of_ble_eq_true rfl) (c_X7_commandKind sg v1.2) (Nat.le_refl _) (Nat.le_refl _) ?_
    rintro r9 h9 ⟨rfl, rfl⟩
    obtain ⟨y3, q4, H⟩ := zltd H
    refine aw_nm q4 ?_
    refine aw_istore_n (q := 14) (L' := [some (.ref 120), some (.int y3)]) dX7_reasonOf_13 rfl (by decide) rfl rfl ?_
    refine aw_aload_n (q := 15) dX7_reasonOf_14 rfl rfl ?_
    refine aw_iload_n (q := 16) dX7_reasonOf_15 rfl rfl ?_
    obtain ⟨v5, hv5, H⟩ := zbd H
    refine aw_cv (M' := M_X7_isOfForm) (as := [.int y3]) (q := 19) dX7_reasonOf_16 rfl W_X7_isOfForm k_X7_235 i_X7_isOfForm v_X7_isOfForm (by decide) (o_X7 sg v1.2) rfl rfl rfl (by decide) (Nat.le_of_ble_eq_true rfl) (c_X7_isOfForm sg v1.2 y3 hv5) (Nat.le_refl _) (Nat.le_refl _) ?_
    rintro r9 h9 ⟨rfl, rfl⟩
    refine aw_ifneB (q := 22) (t := 24) dX7_reasonOf_19 rfl (by decide) (fun h6 => ?_) (fun h6 => ?_)
    · replace H := zt h6 H
      refine aw_aload_n (q := 25) dX7_reasonOf_24 rfl rfl ?_
      refine aw_iload_n (q := 26) dX7_reasonOf_25 rfl rfl ?_
      obtain ⟨v7, hv7, H⟩ := zbd H
      refine aw_cv (M' := M_X7_areThere) (as := [.int y3]) (q := 29) dX7_reasonOf_26 rfl W_X7_areThere k_X7_238 i_X7_areThere v_X7_areThere (by decide) (o_X7 sg v1.2) rfl rfl rfl (by decide) (Nat.le_of_ble_eq_true rfl) (c_X7_areThere sg v1.2 y3 hv7) (Nat.le_refl _) (Nat.le_refl _) ?_
      rintro r9 h9 ⟨rfl, rfl⟩
      refine aw_ifneB (q := 32) (t := 34) dX7_reasonOf_29 rfl (by decide) (fun h8 => ?_) (fun h8 => ?_)
      · replace H := zt h8 H
        refine aw_aload_n (q := 35) dX7_reasonOf_34 rfl rfl ?_
        refine aw_iload_n (q := 36) dX7_reasonOf_35 rfl rfl ?_
        obtain ⟨v9, hv9, H⟩ := zbd H
        refine aw_cv (M' := M_X7_does) (as := [.int y3]) (q := 39) dX7_reasonOf_36 rfl W_X7_does k_X7_241 i_X7_does v_X7_does (by decide) (o_X7 sg v1.2) rfl rfl rfl (by decide) (Nat.le_of_ble_eq_true rfl) (c_X7_does sg v1.2 y3 hv9) (Nat.le_refl _) (Nat.le_refl _) ?_
        rintro r9 h9 ⟨rfl, rfl⟩
        refine aw_if_ge (q := 42) (t := 46) dX7_reasonOf_39 rfl (by decide) (fun h10 => ?_) (fun h10 => ?_)
        · replace H := zt h10 H
          refine aw_iconst (q := 47) (v := 0) dX7_reasonOf_46 rfl (by decide) ?_
          cases H
          exact aw_ret dX7_reasonOf_47 rfl rfl rfl rfl ⟨rfl, rfl⟩
        · replace H := zf h10 H
          refine aw_iconst (q := 43) (v := 3) dX7_reasonOf_42 rfl (by decide) ?_
          refine aw_goto (q := 47) dX7_reasonOf_43 (by decide) ?_
          cases H
          exact aw_ret dX7_reasonOf_47 rfl rfl rfl rfl ⟨rfl, rfl⟩
      · replace H := zf h8 H
        refine aw_iconst (q := 33) (v := 2) dX7_reasonOf_32 rfl (by decide) ?_
        cases H
        exact aw_ret dX7_reasonOf_33 rfl rfl rfl rfl ⟨rfl, rfl⟩
    · replace H := zf h6 H
      refine aw_iconst (q := 23) (v := 1) dX7_reasonOf_22 rfl (by decide) ?_
      cases H
      exact aw_ret dX7_reasonOf_23 rfl rfl rfl rfl ⟨rfl, rfl⟩
  · replace H := zf h2 H
    refine aw_iconst (q := 8) (v := 1) dX7_reasonOf_7 rfl (by decide) ?_
    cases H
    exact aw_ret dX7_reasonOf_8 rfl rfl rfl rfl ⟨rfl, rfl⟩
def f_X7_goesThrough_24 : Nat → zr → Option (zr)
  | 0, _ => none
  | k + 1, s =>
    if (s 0 7) ≤ (s 0 8) then (
      some s
    ) else (
      if (s 0 14) = 0 then (
        zlt (s 0 8 : Int32) fun y3 =>
        Option.bind (f_X7_reasonOf s) fun v5 =>
        zlt (zm v5.2 0 14 v5.1) fun s6 =>
        if (s6 0 14) = 0 then (
          zlt (zm s6 0 13 (-1)) fun s9 =>
          if (s9 0 14) = 0 then (
            zlt (zm s9 0 12 ((s9 0 12) + 1)) fun s12 =>
            Option.bind (f_X7_passesSpaces s12) fun v14 =>
            f_X7_goesThrough_24 k v14
          ) else (
            zlt (zm s9 0 12 ((s9 0 12) + 0)) fun s15 =>
            Option.bind (f_X7_passesSpaces s15) fun v17 =>
            f_X7_goesThrough_24 k v17
          )
        ) else (
          zlt (zm s6 0 13 y3) fun s18 =>
          if (s18 0 14) = 0 then (
            zlt (zm s18 0 12 ((s18 0 12) + 1)) fun s21 =>
            Option.bind (f_X7_passesSpaces s21) fun v23 =>
            f_X7_goesThrough_24 k v23
          ) else (
            zlt (zm s18 0 12 ((s18 0 12) + 0)) fun s24 =>
            Option.bind (f_X7_passesSpaces s24) fun v26 =>
            f_X7_goesThrough_24 k v26
          )
        )
      ) else (
        some s
      )
    )
set_option maxHeartbeats 4000000 in
set_option maxRecDepth 100000 in
theorem L_X7_goesThrough_24 {G : zG} {sl : Nat} {P : Option Value → zH → Prop} (sg : zs)  : ∀ (k : Nat) (s : zr)  (e : zr), f_X7_goesThrough_24 k s = some e → (AV G M_X7_goesThrough 6 sl P 99 [none, none] [] (zT sg e)) → AV G M_X7_goesThrough 6 sl P 24 [some (.ref 120), none] [] (zT sg s) := by
  intro k
  induction k with
  | zero =>
    intro s  e H
    unfold f_X7_goesThrough_24 at H
    cases H
  | succ k ih =>
    intro s  e H KE
    unfold f_X7_goesThrough_24 at H
    refine aw_aload_n (q := 25) dX7_goesThrough_24 rfl rfl ?_
    refine aw_getr (q := 28) dX7_goesThrough_25 rfl e_X7_194 (by decide) (o_X7 sg s) rfl ?_
    refine aw_aload_n (q := 29) dX7_goesThrough_28 rfl rfl ?_
    refine aw_getr (q := 32) dX7_goesThrough_29 rfl e_X7_191 (by decide) (o_X7 sg s) rfl ?_
    refine aw_icmp_ge (q := 35) (t := 99) dX7_goesThrough_32 rfl (by decide) (fun h1 => ?_) (fun h1 => ?_)
    · replace H := zt h1 H
      cases H
      exact aw_fewer (L' := [none, none]) trivial KE
    · replace H := zf h1 H
      refine aw_aload_n (q := 36) dX7_goesThrough_35 rfl rfl ?_
      refine aw_getr (q := 39) dX7_goesThrough_36 rfl e_X7_250 (by decide) (o_X7 sg s) rfl ?_
      refine aw_if_neP (q := 42) (t := 99) dX7_goesThrough_39 rfl (by decide) (fun h2 => ?_) (fun h2 => ?_)
      · replace H := zt h2 H
        refine aw_aload_n (q := 43) dX7_goesThrough_42 rfl rfl ?_
        refine aw_getr (q := 46) dX7_goesThrough_43 rfl e_X7_194 (by decide) (o_X7 sg s) rfl ?_
        obtain ⟨y3, q4, H⟩ := zltd H
        refine aw_nm q4 ?_
        refine aw_istore_n (q := 47) (L' := [some (.ref 120), some (.int y3)]) dX7_goesThrough_46 rfl (by decide) rfl rfl ?_
        refine aw_aload_n (q := 48) dX7_goesThrough_47 rfl rfl ?_
        refine aw_aload_n (q := 49) dX7_goesThrough_48 rfl rfl ?_
        obtain ⟨v5, hv5, H⟩ := zbd H
        refine aw_cv (M' := M_X7_reasonOf) (as := []) (q := 52) dX7_goesThrough_49 rfl W_X7_reasonOf k_X7_253 i_X7_reasonOf v_X7_reasonOf (by decide) (o_X7 sg s) rfl rfl rfl (by decide) (Nat.le_of_ble_eq_true rfl) (c_X7_reasonOf sg s hv5) (Nat.le_refl _) (Nat.le_refl _) ?_
        rintro r9 h9 ⟨rfl, rfl⟩
        obtain ⟨s6, q7, H⟩ := zltd H
        refine aw_put (q := 55) dX7_goesThrough_52 rfl f_X7_250 (by decide) (o_X7 sg v5.2) rfl rfl (Nat.le_of_ble_eq_true rfl) ((p_X7_14).trans (congrArg (fun z => zT sg z) q7.symm)) ?_
        refine aw_aload_n (q := 56) dX7_goesThrough_55 rfl rfl ?_
        refine aw_aload_n (q := 57) dX7_goesThrough_56 rfl rfl ?_
        refine aw_getr (q := 60) dX7_goesThrough_57 rfl e_X7_250 (by decide) (o_X7 sg s6) rfl ?_
        refine aw_if_neP (q := 63) (t := 67) dX7_goesThrough_60 rfl (by decide) (fun h8 => ?_) (fun h8 => ?_)
        · replace H := zt h8 H
          refine aw_iconst (q := 64) (v := (-1)) dX7_goesThrough_63 rfl (by decide) ?_
          refine aw_goto (q := 68) dX7_goesThrough_64 (by decide) ?_
          obtain ⟨s9, q10, H⟩ := zltd H
          refine aw_put (q := 71) dX7_goesThrough_68 rfl f_X7_247 (by decide) (o_X7 sg s6) rfl rfl (Nat.le_of_ble_eq_true rfl) ((p_X7_13).trans (congrArg (fun z => zT sg z) q10.symm)) ?_
          refine aw_aload_n (q := 72) dX7_goesThrough_71 rfl rfl ?_
          refine aw_dup (q := 73) dX7_goesThrough_72 rfl rfl ?_
          refine aw_getr (q := 76) dX7_goesThrough_73 rfl e_X7_244 (by decide) (o_X7 sg s9) rfl ?_
          refine aw_aload_n (q := 77) dX7_goesThrough_76 rfl rfl ?_
          refine aw_getr (q := 80) dX7_goesThrough_77 rfl e_X7_250 (by decide) (o_X7 sg s9) rfl ?_
          refine aw_if_neP (q := 83) (t := 87) dX7_goesThrough_80 rfl (by decide) (fun h11 => ?_) (fun h11 => ?_)
          · replace H := zt h11 H
            refine aw_iconst (q := 84) (v := 1) dX7_goesThrough_83 rfl (by decide) ?_
            refine aw_goto (q := 88) dX7_goesThrough_84 (by decide) ?_
            refine aw_iadd (q := 89) dX7_goesThrough_88 rfl ?_
            obtain ⟨s12, q13, H⟩ := zltd H
            refine aw_put (q := 92) dX7_goesThrough_89 rfl f_X7_244 (by decide) (o_X7 sg s9) rfl rfl (Nat.le_of_ble_eq_true rfl) ((p_X7_12).trans (congrArg (fun z => zT sg z) q13.symm)) ?_
            refine aw_aload_n (q := 93) dX7_goesThrough_92 rfl rfl ?_
            obtain ⟨v14, hv14, H⟩ := zbd H
            refine aw_cv (M' := M_X7_passesSpaces) (as := []) (q := 96) dX7_goesThrough_93 rfl W_X7_passesSpaces k_X7_213 i_X7_passesSpaces v_X7_passesSpaces (by decide) (o_X7 sg s12) rfl rfl rfl (by decide) (Nat.le_of_ble_eq_true rfl) (c_X7_passesSpaces sg s12 hv14) (Nat.le_refl _) (Nat.le_refl _) ?_
            rintro r9 h9 ⟨rfl, rfl⟩
            refine aw_goto (q := 24) dX7_goesThrough_96 (by decide) ?_
            exact aw_fewer (L' := [some (.ref 120), none]) ⟨rfl, trivial⟩ (ih v14  _ H KE)
          · replace H := zf h11 H
            refine aw_iconst (q := 88) (v := 0) dX7_goesThrough_87 rfl (by decide) ?_
            refine aw_iadd (q := 89) dX7_goesThrough_88 rfl ?_
            obtain ⟨s15, q16, H⟩ := zltd H
            refine aw_put (q := 92) dX7_goesThrough_89 rfl f_X7_244 (by decide) (o_X7 sg s9) rfl rfl (Nat.le_of_ble_eq_true rfl) ((p_X7_12).trans (congrArg (fun z => zT sg z) q16.symm)) ?_
            refine aw_aload_n (q := 93) dX7_goesThrough_92 rfl rfl ?_
            obtain ⟨v17, hv17, H⟩ := zbd H
            refine aw_cv (M' := M_X7_passesSpaces) (as := []) (q := 96) dX7_goesThrough_93 rfl W_X7_passesSpaces k_X7_213 i_X7_passesSpaces v_X7_passesSpaces (by decide) (o_X7 sg s15) rfl rfl rfl (by decide) (Nat.le_of_ble_eq_true rfl) (c_X7_passesSpaces sg s15 hv17) (Nat.le_refl _) (Nat.le_refl _) ?_
            rintro r9 h9 ⟨rfl, rfl⟩
            refine aw_goto (q := 24) dX7_goesThrough_96 (by decide) ?_
            exact aw_fewer (L' := [some (.ref 120), none]) ⟨rfl, trivial⟩ (ih v17  _ H KE)
        · replace H := zf h8 H
          refine aw_iload_n (q := 68) dX7_goesThrough_67 rfl rfl ?_
          obtain ⟨s18, q19, H⟩ := zltd H
          refine aw_put (q := 71) dX7_goesThrough_68 rfl f_X7_247 (by decide) (o_X7 sg s6) rfl rfl (Nat.le_of_ble_eq_true rfl) ((p_X7_13).trans (congrArg (fun z => zT sg z) q19.symm)) ?_
          refine aw_aload_n (q := 72) dX7_goesThrough_71 rfl rfl ?_
          refine aw_dup (q := 73) dX7_goesThrough_72 rfl rfl ?_
          refine aw_getr (q := 76) dX7_goesThrough_73 rfl e_X7_244 (by decide) (o_X7 sg s18) rfl ?_
          refine aw_aload_n (q := 77) dX7_goesThrough_76 rfl rfl ?_
          refine aw_getr (q := 80) dX7_goesThrough_77 rfl e_X7_250 (by decide) (o_X7 sg s18) rfl ?_
          refine aw_if_neP (q := 83) (t := 87) dX7_goesThrough_80 rfl (by decide) (fun h20 => ?_) (fun h20 => ?_)
          · replace H := zt h20 H
            refine aw_iconst (q := 84) (v := 1) dX7_goesThrough_83 rfl (by decide) ?_
            refine aw_goto (q := 88) dX7_goesThrough_84 (by decide) ?_
            refine aw_iadd (q := 89) dX7_goesThrough_88 rfl ?_
            obtain ⟨s21, q22, H⟩ := zltd H
            refine aw_put (q := 92) dX7_goesThrough_89 rfl f_X7_244 (by decide) (o_X7 sg s18) rfl rfl (Nat.le_of_ble_eq_true rfl) ((p_X7_12).trans (congrArg (fun z => zT sg z) q22.symm)) ?_
            refine aw_aload_n (q := 93) dX7_goesThrough_92 rfl rfl ?_
            obtain ⟨v23, hv23, H⟩ := zbd H
            refine aw_cv (M' := M_X7_passesSpaces) (as := []) (q := 96) dX7_goesThrough_93 rfl W_X7_passesSpaces k_X7_213 i_X7_passesSpaces v_X7_passesSpaces (by decide) (o_X7 sg s21) rfl rfl rfl (by decide) (Nat.le_of_ble_eq_true rfl) (c_X7_passesSpaces sg s21 hv23) (Nat.le_refl _) (Nat.le_refl _) ?_
            rintro r9 h9 ⟨rfl, rfl⟩
            refine aw_goto (q := 24) dX7_goesThrough_96 (by decide) ?_
            exact aw_fewer (L' := [some (.ref 120), none]) ⟨rfl, trivial⟩ (ih v23  _ H KE)
          · replace H := zf h20 H
            refine aw_iconst (q := 88) (v := 0) dX7_goesThrough_87 rfl (by decide) ?_
            refine aw_iadd (q := 89) dX7_goesThrough_88 rfl ?_
            obtain ⟨s24, q25, H⟩ := zltd H
            refine aw_put (q := 92) dX7_goesThrough_89 rfl f_X7_244 (by decide) (o_X7 sg s18) rfl rfl (Nat.le_of_ble_eq_true rfl) ((p_X7_12).trans (congrArg (fun z => zT sg z) q25.symm)) ?_
            refine aw_aload_n (q := 93) dX7_goesThrough_92 rfl rfl ?_
            obtain ⟨v26, hv26, H⟩ := zbd H
            refine aw_cv (M' := M_X7_passesSpaces) (as := []) (q := 96) dX7_goesThrough_93 rfl W_X7_passesSpaces k_X7_213 i_X7_passesSpaces v_X7_passesSpaces (by decide) (o_X7 sg s24) rfl rfl rfl (by decide) (Nat.le_of_ble_eq_true rfl) (c_X7_passesSpaces sg s24 hv26) (Nat.le_refl _) (Nat.le_refl _) ?_
            rintro r9 h9 ⟨rfl, rfl⟩
            refine aw_goto (q := 24) dX7_goesThrough_96 (by decide) ?_
            exact aw_fewer (L' := [some (.ref 120), none]) ⟨rfl, trivial⟩ (ih v26  _ H KE)
      · replace H := zf h2 H
        cases H
        exact aw_fewer (L' := [none, none]) trivial KE
def f_X7_goesThrough (s : zr) : Option zr :=
  zlt (zm s 0 12 0) fun s1 =>
  zlt (zm s1 0 13 (-1)) fun s3 =>
  zlt (zm s3 0 14 0) fun s5 =>
  zlt (zm s5 0 8 0) fun s7 =>
  Option.bind (f_X7_passesSpaces s7) fun v9 =>
  Option.bind (f_X7_goesThrough_24 zFu v9) fun e10 =>
  some e10
set_option maxHeartbeats 4000000 in
set_option maxRecDepth 100000 in
theorem c_X7_goesThrough {G : zG} {sl : Nat} (sg : zs) (s : zr)  {v9 : zr} (H : f_X7_goesThrough s = some v9) : zMv G 6 M_X7_goesThrough [.ref 120] sl (zT sg s) (fun r h' => r = none ∧ h' = zT sg v9) := by
  unfold f_X7_goesThrough at H
  refine zMv_of (L := [some (.ref 120), none]) (by decide) rfl (Nat.le_of_ble_eq_true rfl) rfl ?_
  refine aw_aload_n (q := 1) dX7_goesThrough_0 rfl rfl ?_
  refine aw_iconst (q := 2) (v := 0) dX7_goesThrough_1 rfl (by decide) ?_
  obtain ⟨s1, q2, H⟩ := zltd H
  refine aw_put (q := 5) dX7_goesThrough_2 rfl f_X7_244 (by decide) (o_X7 sg s) rfl rfl (Nat.le_of_ble_eq_true rfl) ((p_X7_12).trans (congrArg (fun z => zT sg z) q2.symm)) ?_
  refine aw_aload_n (q := 6) dX7_goesThrough_5 rfl rfl ?_
  refine aw_iconst (q := 7) (v := (-1)) dX7_goesThrough_6 rfl (by decide) ?_
  obtain ⟨s3, q4, H⟩ := zltd H
  refine aw_put (q := 10) dX7_goesThrough_7 rfl f_X7_247 (by decide) (o_X7 sg s1) rfl rfl (Nat.le_of_ble_eq_true rfl) ((p_X7_13).trans (congrArg (fun z => zT sg z) q4.symm)) ?_
  refine aw_aload_n (q := 11) dX7_goesThrough_10 rfl rfl ?_
  refine aw_iconst (q := 12) (v := 0) dX7_goesThrough_11 rfl (by decide) ?_
  obtain ⟨s5, q6, H⟩ := zltd H
  refine aw_put (q := 15) dX7_goesThrough_12 rfl f_X7_250 (by decide) (o_X7 sg s3) rfl rfl (Nat.le_of_ble_eq_true rfl) ((p_X7_14).trans (congrArg (fun z => zT sg z) q6.symm)) ?_
  refine aw_aload_n (q := 16) dX7_goesThrough_15 rfl rfl ?_
  refine aw_iconst (q := 17) (v := 0) dX7_goesThrough_16 rfl (by decide) ?_
  obtain ⟨s7, q8, H⟩ := zltd H
  refine aw_put (q := 20) dX7_goesThrough_17 rfl f_X7_194 (by decide) (o_X7 sg s5) rfl rfl (Nat.le_of_ble_eq_true rfl) ((p_X7_8).trans (congrArg (fun z => zT sg z) q8.symm)) ?_
  refine aw_aload_n (q := 21) dX7_goesThrough_20 rfl rfl ?_
  obtain ⟨v9, hv9, H⟩ := zbd H
  refine aw_cv (M' := M_X7_passesSpaces) (as := []) (q := 24) dX7_goesThrough_21 rfl W_X7_passesSpaces k_X7_213 i_X7_passesSpaces v_X7_passesSpaces (by decide) (o_X7 sg s7) rfl rfl rfl (by decide) (Nat.le_of_ble_eq_true rfl) (c_X7_passesSpaces sg s7 hv9) (Nat.le_refl _) (Nat.le_refl _) ?_
  rintro r9 h9 ⟨rfl, rfl⟩
  obtain ⟨e10, he10, H⟩ := zbd H
  refine aw_fewer (L' := [some (.ref 120), none]) ⟨rfl, trivial⟩ ?_
  refine L_X7_goesThrough_24 sg  zFu v9  e10 he10 ?_
  cases H
  exact aw_vret dX7_goesThrough_99 rfl rfl rfl ⟨rfl, rfl⟩
def f_X7_triesAll_2 : Nat → zr → Int32 → Option (zr)
  | 0, _, _ => none
  | k + 1, s, x1 =>
    if (88 : Int32) ≤ x1 then (
      some s
    ) else (
      if zin x1 88 = true then
      zlt (zm s 3 x1.toNatClampNeg (s 1 x1.toNatClampNeg)) fun s3 =>
      f_X7_triesAll_2 k s3 (x1 + 1)
      else none
    )
set_option maxHeartbeats 4000000 in
set_option maxRecDepth 100000 in
theorem L_X7_triesAll_2 {G : zG} {sl : Nat} {P : Option Value → zH → Prop} (sg : zs)  : ∀ (k : Nat) (s : zr) (x1 : Int32) (e : zr), f_X7_triesAll_2 k s x1 = some e → (AV G M_X7_triesAll 7 sl P 26 [some (.ref 120), none] [] (zT sg e)) → AV G M_X7_triesAll 7 sl P 2 [some (.ref 120), some (.int x1)] [] (zT sg s) := by
  intro k
  induction k with
  | zero =>
    intro s x1 e H
    unfold f_X7_triesAll_2 at H
    cases H
  | succ k ih =>
    intro s x1 e H KE
    unfold f_X7_triesAll_2 at H
    refine aw_iload_n (q := 3) dX7_triesAll_2 rfl rfl ?_
    refine aw_bipush (q := 5) (v := 88) dX7_triesAll_3 rfl (by decide) ?_
    refine aw_icmp_ge (q := 8) (t := 26) dX7_triesAll_5 rfl (by decide) (fun h1 => ?_) (fun h1 => ?_)
    · replace H := zt h1 H
      cases H
      exact aw_fewer (L' := [some (.ref 120), none]) ⟨rfl, trivial⟩ KE
    · replace H := zf h1 H
      refine aw_aload_n (q := 9) dX7_triesAll_8 rfl rfl ?_
      refine aw_getr (q := 12) dX7_triesAll_9 rfl e_X7_16 (by decide) (o_X7 sg s) rfl ?_
      refine aw_iload_n (q := 13) dX7_triesAll_12 rfl rfl ?_
      refine aw_aload_n (q := 14) dX7_triesAll_13 rfl rfl ?_
      refine aw_getr (q := 17) dX7_triesAll_14 rfl e_X7_7 (by decide) (o_X7 sg s) rfl ?_
      refine aw_iload_n (q := 18) dX7_triesAll_17 rfl rfl ?_
      obtain ⟨h2, H⟩ := zio H
      refine aw_iald' (q := 19) (v := s 1 x1.toNatClampNeg) dX7_triesAll_18 rfl (by decide) (o_X7a0 sg s) (zin_in h2) rfl ?_
      obtain ⟨s3, q4, H⟩ := zltd H
      refine aw_iast (q := 20) dX7_triesAll_19 rfl (by decide) (o_X7a2 sg s) (zin_in h2) ((p_X7a2).trans (congrArg (fun z => zT sg z) q4.symm)) ?_
      refine aw_iinc (q := 23) (v := x1 + 1) (L' := [some (.ref 120), some (.int (x1 + 1))]) dX7_triesAll_20 rfl rfl (by first | rfl | decide) (by decide) rfl rfl ?_
      refine aw_goto (q := 2) dX7_triesAll_23 (by decide) ?_
      exact aw_fewer (L' := [some (.ref 120), some (.int (x1 + 1))]) ⟨rfl, ⟨rfl, trivial⟩⟩ (ih s3 (x1 + 1) _ H KE)
def f_X7_triesAll_32 : Nat → zr → Int32 → Option (zr)
  | 0, _, _ => none
  | k + 1, s, x1 =>
    if (88 : Int32) ≤ x1 then (
      some s
    ) else (
      if zin x1 88 = true then
      zlt (zm s 1 x1.toNatClampNeg (s 3 x1.toNatClampNeg)) fun s3 =>
      f_X7_triesAll_32 k s3 (x1 + 1)
      else none
    )
set_option maxHeartbeats 4000000 in
set_option maxRecDepth 100000 in
theorem L_X7_triesAll_32 {G : zG} {sl : Nat} {P : Option Value → zH → Prop} (sg : zs)  : ∀ (k : Nat) (s : zr) (x1 : Int32) (e : zr), f_X7_triesAll_32 k s x1 = some e → (AV G M_X7_triesAll 7 sl P 56 [none, none] [] (zT sg e)) → AV G M_X7_triesAll 7 sl P 32 [some (.ref 120), some (.int x1)] [] (zT sg s) := by
  intro k
  induction k with
  | zero =>
    intro s x1 e H
    unfold f_X7_triesAll_32 at H
    cases H
  | succ k ih =>
    intro s x1 e H KE
    unfold f_X7_triesAll_32 at H
    refine aw_iload_n (q := 33) dX7_triesAll_32 rfl rfl ?_
    refine aw_bipush (q := 35) (v := 88) dX7_triesAll_33 rfl (by decide) ?_
    refine aw_icmp_ge (q := 38) (t := 56) dX7_triesAll_35 rfl (by decide) (fun h1 => ?_) (fun h1 => ?_)
    · replace H := zt h1 H
      cases H
      exact aw_fewer (L' := [none, none]) trivial KE
    · replace H := zf h1 H
      refine aw_aload_n (q := 39) dX7_triesAll_38 rfl rfl ?_
      refine aw_getr (q := 42) dX7_triesAll_39 rfl e_X7_7 (by decide) (o_X7 sg s) rfl ?_
      refine aw_iload_n (q := 43) dX7_triesAll_42 rfl rfl ?_
      refine aw_aload_n (q := 44) dX7_triesAll_43 rfl rfl ?_
      refine aw_getr (q := 47) dX7_triesAll_44 rfl e_X7_16 (by decide) (o_X7 sg s) rfl ?_
      refine aw_iload_n (q := 48) dX7_triesAll_47 rfl rfl ?_
      obtain ⟨h2, H⟩ := zio H
      refine aw_iald' (q := 49) (v := s 3 x1.toNatClampNeg) dX7_triesAll_48 rfl (by decide) (o_X7a2 sg s) (zin_in h2) rfl ?_
      obtain ⟨s3, q4, H⟩ := zltd H
      refine aw_iast (q := 50) dX7_triesAll_49 rfl (by decide) (o_X7a0 sg s) (zin_in h2) ((p_X7a0).trans (congrArg (fun z => zT sg z) q4.symm)) ?_
      refine aw_iinc (q := 53) (v := x1 + 1) (L' := [some (.ref 120), some (.int (x1 + 1))]) dX7_triesAll_50 rfl rfl (by first | rfl | decide) (by decide) rfl rfl ?_
      refine aw_goto (q := 32) dX7_triesAll_53 (by decide) ?_
      exact aw_fewer (L' := [some (.ref 120), some (.int (x1 + 1))]) ⟨rfl, ⟨rfl, trivial⟩⟩ (ih s3 (x1 + 1) _ H KE)
def f_X7_triesAll (s : zr) : Option zr :=
  Option.bind (f_X7_triesAll_2 zFu s 0) fun e1 =>
  Option.bind (f_X7_goesThrough e1) fun v2 =>
  Option.bind (f_X7_triesAll_32 zFu v2 0) fun e3 =>
  some e3
set_option maxHeartbeats 4000000 in
set_option maxRecDepth 100000 in
theorem c_X7_triesAll {G : zG} {sl : Nat} (sg : zs) (s : zr)  {v9 : zr} (H : f_X7_triesAll s = some v9) : zMv G 7 M_X7_triesAll [.ref 120] sl (zT sg s) (fun r h' => r = none ∧ h' = zT sg v9) := by
  unfold f_X7_triesAll at H
  refine zMv_of (L := [some (.ref 120), none]) (by decide) rfl (Nat.le_of_ble_eq_true rfl) rfl ?_
  refine aw_iconst (q := 1) (v := 0) dX7_triesAll_0 rfl (by decide) ?_
  refine aw_istore_n (q := 2) (L' := [some (.ref 120), some (.int 0)]) dX7_triesAll_1 rfl (by decide) rfl rfl ?_
  obtain ⟨e1, he1, H⟩ := zbd H
  refine aw_fewer (L' := [some (.ref 120), some (.int 0)]) ⟨rfl, ⟨rfl, trivial⟩⟩ ?_
  refine L_X7_triesAll_2 sg  zFu s 0 e1 he1 ?_
  refine aw_aload_n (q := 27) dX7_triesAll_26 rfl rfl ?_
  obtain ⟨v2, hv2, H⟩ := zbd H
  refine aw_cv (M' := M_X7_goesThrough) (as := []) (q := 30) dX7_triesAll_27 rfl W_X7_goesThrough k_X7_256 i_X7_goesThrough v_X7_goesThrough (by decide) (o_X7 sg e1) rfl rfl rfl (by decide) (Nat.le_of_ble_eq_true rfl) (c_X7_goesThrough sg e1 hv2) (Nat.le_refl _) (Nat.le_refl _) ?_
  rintro r9 h9 ⟨rfl, rfl⟩
  refine aw_iconst (q := 31) (v := 0) dX7_triesAll_30 rfl (by decide) ?_
  refine aw_istore_n (q := 32) (L' := [some (.ref 120), some (.int 0)]) dX7_triesAll_31 rfl (by decide) rfl rfl ?_
  obtain ⟨e3, he3, H⟩ := zbd H
  refine aw_fewer (L' := [some (.ref 120), some (.int 0)]) ⟨rfl, ⟨rfl, trivial⟩⟩ ?_
  refine L_X7_triesAll_32 sg  zFu v2 0 e3 he3 ?_
  cases H
  exact aw_vret dX7_triesAll_56 rfl rfl rfl ⟨rfl, rfl⟩
def f_X7_place (s : zr) (x1 : Int32) : Option (Int32 × zr) :=
  if f_X7_isIn x1 0 1 = true then (
    Option.bind (f_X7_triesAll s) fun v2 =>
    if (v2 0 14) = 0 then (
      some ((-1000004), v2)
    ) else (
      if x1 = 0 then (
        some (v2 0 13, v2)
      ) else (
        some (v2 0 14, v2)
      )
    )
  ) else (
    some ((-1000001), s)
  )
set_option maxHeartbeats 4000000 in
set_option maxRecDepth 100000 in
theorem c_X7_place {G : zG} {sl : Nat} (sg : zs) (s : zr) (x1 : Int32) {v9 : (Int32 × zr)} (H : f_X7_place s x1 = some v9) : zMv G 8 M_X7_place [.ref 120, .int x1] sl (zT sg s) (fun r h' => r = some (.int v9.1) ∧ h' = zT sg v9.2) := by
  unfold f_X7_place at H
  refine zMv_of (L := [some (.ref 120), some (.int x1)]) (by decide) rfl (Nat.le_of_ble_eq_true rfl) rfl ?_
  refine aw_iload_n (q := 1) dX7_place_0 rfl rfl ?_
  refine aw_iconst (q := 2) (v := 0) dX7_place_1 rfl (by decide) ?_
  refine aw_iconst (q := 3) (v := 1) dX7_place_2 rfl (by decide) ?_
  refine aw_cs (M' := M_X7_isIn) (as := [.int x1, .int 0, .int 1]) (q := 6) dX7_place_3 rfl W_X7_isIn k_X7_45 s_X7_isIn rfl rfl (by decide) (Nat.le_of_ble_eq_true rfl) (c_X7_isIn (zT sg s) x1 0 1) (Nat.le_refl _) (Nat.le_refl _) ?_
  rintro r9 h9 ⟨rfl, rfl⟩
  refine aw_ifneB (q := 9) (t := 12) dX7_place_6 rfl (by decide) (fun h1 => ?_) (fun h1 => ?_)
  · replace H := zt h1 H
    refine aw_aload_n (q := 13) dX7_place_12 rfl rfl ?_
    obtain ⟨v2, hv2, H⟩ := zbd H
    refine aw_cv (M' := M_X7_triesAll) (as := []) (q := 16) dX7_place_13 rfl W_X7_triesAll k_X7_259 i_X7_triesAll v_X7_triesAll (by decide) (o_X7 sg s) rfl rfl rfl (by decide) (Nat.le_of_ble_eq_true rfl) (c_X7_triesAll sg s hv2) (Nat.le_refl _) (Nat.le_refl _) ?_
    rintro r9 h9 ⟨rfl, rfl⟩
    refine aw_aload_n (q := 17) dX7_place_16 rfl rfl ?_
    refine aw_getr (q := 20) dX7_place_17 rfl e_X7_250 (by decide) (o_X7 sg v2) rfl ?_
    refine aw_if_neP (q := 23) (t := 26) dX7_place_20 rfl (by decide) (fun h3 => ?_) (fun h3 => ?_)
    · replace H := zt h3 H
      refine aw_ldc (q := 25) dX7_place_23 rfl q_X7_93 ?_
      cases H
      exact aw_ret dX7_place_25 rfl rfl rfl rfl ⟨rfl, rfl⟩
    · replace H := zf h3 H
      refine aw_iload_n (q := 27) dX7_place_26 rfl rfl ?_
      refine aw_if_neP (q := 30) (t := 37) dX7_place_27 rfl (by decide) (fun h4 => ?_) (fun h4 => ?_)
      · replace H := zt h4 H
        refine aw_aload_n (q := 31) dX7_place_30 rfl rfl ?_
        refine aw_getr (q := 34) dX7_place_31 rfl e_X7_247 (by decide) (o_X7 sg v2) rfl ?_
        refine aw_goto (q := 41) dX7_place_34 (by decide) ?_
        cases H
        exact aw_ret dX7_place_41 rfl rfl rfl rfl ⟨rfl, rfl⟩
      · replace H := zf h4 H
        refine aw_aload_n (q := 38) dX7_place_37 rfl rfl ?_
        refine aw_getr (q := 41) dX7_place_38 rfl e_X7_250 (by decide) (o_X7 sg v2) rfl ?_
        cases H
        exact aw_ret dX7_place_41 rfl rfl rfl rfl ⟨rfl, rfl⟩
  · replace H := zf h1 H
    refine aw_ldc (q := 11) dX7_place_9 rfl q_X7_53 ?_
    cases H
    exact aw_ret dX7_place_11 rfl rfl rfl rfl ⟨rfl, rfl⟩
def f_X7_run (s : zr) : Option (Int32 × zr) :=
  Option.bind (f_X7_triesAll s) fun v1 =>
  if (v1 0 14) = 0 then (
    Option.bind (f_X7_records v1) fun v3 =>
    Option.bind (f_X7_goesThrough v3) fun v4 =>
    some (v4 0 12, v4)
  ) else (
    some ((-1000002), v1)
  )
set_option maxHeartbeats 4000000 in
set_option maxRecDepth 100000 in
theorem c_X7_run {G : zG} {sl : Nat} (sg : zs) (s : zr)  {v9 : (Int32 × zr)} (H : f_X7_run s = some v9) : zMv G 8 M_X7_run [.ref 120] sl (zT sg s) (fun r h' => r = some (.int v9.1) ∧ h' = zT sg v9.2) := by
  unfold f_X7_run at H
  refine zMv_of (L := [some (.ref 120)]) (by decide) rfl (Nat.le_of_ble_eq_true rfl) rfl ?_
  refine aw_aload_n (q := 1) dX7_run_0 rfl rfl ?_
  obtain ⟨v1, hv1, H⟩ := zbd H
  refine aw_cv (M' := M_X7_triesAll) (as := []) (q := 4) dX7_run_1 rfl W_X7_triesAll k_X7_259 i_X7_triesAll v_X7_triesAll (by decide) (o_X7 sg s) rfl rfl rfl (by decide) (Nat.le_of_ble_eq_true rfl) (c_X7_triesAll sg s hv1) (Nat.le_refl _) (Nat.le_refl _) ?_
  rintro r9 h9 ⟨rfl, rfl⟩
  refine aw_aload_n (q := 5) dX7_run_4 rfl rfl ?_
  refine aw_getr (q := 8) dX7_run_5 rfl e_X7_250 (by decide) (o_X7 sg v1) rfl ?_
  refine aw_if_eq (q := 11) (t := 14) dX7_run_8 rfl (by decide) (fun h2 => ?_) (fun h2 => ?_)
  · replace H := zt h2 H
    refine aw_aload_n (q := 15) dX7_run_14 rfl rfl ?_
    obtain ⟨v3, hv3, H⟩ := zbd H
    refine aw_cv (M' := M_X7_records) (as := []) (q := 18) dX7_run_15 rfl W_X7_records k_X7_61 i_X7_records v_X7_records (by decide) (o_X7 sg v1) rfl rfl rfl (by decide) (Nat.le_of_ble_eq_true rfl) (c_X7_records sg v1 hv3) (Nat.le_refl _) (Nat.le_refl _) ?_
    rintro r9 h9 ⟨rfl, rfl⟩
    refine aw_aload_n (q := 19) dX7_run_18 rfl rfl ?_
    obtain ⟨v4, hv4, H⟩ := zbd H
    refine aw_cv (M' := M_X7_goesThrough) (as := []) (q := 22) dX7_run_19 rfl W_X7_goesThrough k_X7_256 i_X7_goesThrough v_X7_goesThrough (by decide) (o_X7 sg v3) rfl rfl rfl (by decide) (Nat.le_of_ble_eq_true rfl) (c_X7_goesThrough sg v3 hv4) (Nat.le_refl _) (Nat.le_refl _) ?_
    rintro r9 h9 ⟨rfl, rfl⟩
    refine aw_aload_n (q := 23) dX7_run_22 rfl rfl ?_
    refine aw_getr (q := 26) dX7_run_23 rfl e_X7_244 (by decide) (o_X7 sg v4) rfl ?_
    cases H
    exact aw_ret dX7_run_26 rfl rfl rfl rfl ⟨rfl, rfl⟩
  · replace H := zf h2 H
    refine aw_ldc (q := 13) dX7_run_11 rfl q_X7_35 ?_
    cases H
    exact aw_ret dX7_run_13 rfl rfl rfl rfl ⟨rfl, rfl⟩

