def f_X7_readsCommand_33 : Nat → zr → Option ((zr) ⊕ (Bool × zr))
  | 0, _ => none
  | k + 1, s =>
    Option.bind (f_X7_isHere s 59 59) fun v1 =>
    if v1 = true then (
      some (Sum.inl s)
    ) else (
      Option.bind (f_X7_readsNumber s) fun v3 =>
      if v3.1 = (-1) then (
        some (Sum.inr (false, v3.2))
      ) else (
        if (v3.2 0 10) = 9 then (
          some (Sum.inr (false, v3.2))
        ) else (
          if zin (v3.2 0 10) 9 = true then
          zlt (zm v3.2 7 ((v3.2 0 10).toNatClampNeg) v3.1) fun s7 =>
          zlt (zm s7 0 10 ((s7 0 10) + 1)) fun s9 =>
          Option.bind (f_X7_passesSpaces s9) fun v11 =>
          f_X7_readsCommand_33 k v11
          else none
        )
      )
    )
set_option maxHeartbeats 4000000 in
set_option maxRecDepth 100000 in
theorem L_X7_readsCommand_33 {G : zG} {sl : Nat} {P : Option Value → zH → Prop} (sg : zs)  : ∀ (k : Nat) (s : zr)  (e : (zr) ⊕ (Bool × zr)), f_X7_readsCommand_33 k s = some e → (∀ x9, e = Sum.inl x9 → AV G M_X7_readsCommand 4 sl P 92 [some (.ref 120), none] [] (zT sg x9)) → (∀ v9, e = Sum.inr v9 → P (some (.int (zb v9.1))) (zT sg v9.2)) → AV G M_X7_readsCommand 4 sl P 33 [some (.ref 120), none] [] (zT sg s) := by
  intro k
  induction k with
  | zero =>
    intro s  e H
    unfold f_X7_readsCommand_33 at H
    cases H
  | succ k ih =>
    intro s  e H KE KR
    unfold f_X7_readsCommand_33 at H
    refine aw_aload_n (q := 34) dX7_readsCommand_33 rfl rfl ?_
    refine aw_bipush (q := 36) (v := 59) dX7_readsCommand_34 rfl (by decide) ?_
    refine aw_bipush (q := 38) (v := 59) dX7_readsCommand_36 rfl (by decide) ?_
    obtain ⟨v1, hv1, H⟩ := zbd H
    refine aw_cv (M' := M_X7_isHere) (as := [.int 59, .int 59]) (q := 41) dX7_readsCommand_38 rfl W_X7_isHere k_X7_197 i_X7_isHere v_X7_isHere (by decide) (o_X7 sg s) rfl rfl rfl (by decide) (Nat.le_of_ble_eq_true rfl) (c_X7_isHere sg s 59 59 hv1) (Nat.le_refl _) (Nat.le_refl _) ?_
    rintro r9 h9 ⟨rfl, rfl⟩
    refine aw_ifneB (q := 44) (t := 92) dX7_readsCommand_41 rfl (by decide) (fun h2 => ?_) (fun h2 => ?_)
    · replace H := zt h2 H
      cases H
      exact aw_fewer (L' := [some (.ref 120), none]) ⟨rfl, trivial⟩ (KE _ rfl)
    · replace H := zf h2 H
      refine aw_aload_n (q := 45) dX7_readsCommand_44 rfl rfl ?_
      obtain ⟨v3, hv3, H⟩ := zbd H
      refine aw_cv (M' := M_X7_readsNumber) (as := []) (q := 48) dX7_readsCommand_45 rfl W_X7_readsNumber k_X7_216 i_X7_readsNumber v_X7_readsNumber (by decide) (o_X7 sg s) rfl rfl rfl (by decide) (Nat.le_of_ble_eq_true rfl) (c_X7_readsNumber sg s hv3) (Nat.le_refl _) (Nat.le_refl _) ?_
      rintro r9 h9 ⟨rfl, rfl⟩
      refine aw_istore_n (q := 49) (L' := [some (.ref 120), some (.int v3.1)]) dX7_readsCommand_48 rfl (by decide) rfl rfl ?_
      refine aw_iload_n (q := 50) dX7_readsCommand_49 rfl rfl ?_
      refine aw_iconst (q := 51) (v := (-1)) dX7_readsCommand_50 rfl (by decide) ?_
      refine aw_icmp_eq (q := 54) (t := 63) dX7_readsCommand_51 rfl (by decide) (fun h4 => ?_) (fun h4 => ?_)
      · replace H := zt h4 H
        refine aw_iconst (q := 64) (v := 0) dX7_readsCommand_63 rfl (by decide) ?_
        cases H
        exact aw_ret dX7_readsCommand_64 rfl rfl rfl rfl (KR _ rfl)
      · replace H := zf h4 H
        refine aw_aload_n (q := 55) dX7_readsCommand_54 rfl rfl ?_
        refine aw_getr (q := 58) dX7_readsCommand_55 rfl e_X7_204 (by decide) (o_X7 sg v3.2) rfl ?_
        refine aw_bipush (q := 60) (v := 9) dX7_readsCommand_58 rfl (by decide) ?_
        refine aw_icmp_neP (q := 63) (t := 65) dX7_readsCommand_60 rfl (by decide) (fun h5 => ?_) (fun h5 => ?_)
        · replace H := zt h5 H
          refine aw_iconst (q := 64) (v := 0) dX7_readsCommand_63 rfl (by decide) ?_
          cases H
          exact aw_ret dX7_readsCommand_64 rfl rfl rfl rfl (KR _ rfl)
        · replace H := zf h5 H
          refine aw_aload_n (q := 66) dX7_readsCommand_65 rfl rfl ?_
          refine aw_getr (q := 69) dX7_readsCommand_66 rfl e_X7_28 (by decide) (o_X7 sg v3.2) rfl ?_
          refine aw_aload_n (q := 70) dX7_readsCommand_69 rfl rfl ?_
          refine aw_getr (q := 73) dX7_readsCommand_70 rfl e_X7_204 (by decide) (o_X7 sg v3.2) rfl ?_
          refine aw_iload_n (q := 74) dX7_readsCommand_73 rfl rfl ?_
          obtain ⟨h6, H⟩ := zio H
          obtain ⟨s7, q8, H⟩ := zltd H
          refine aw_iast (q := 75) dX7_readsCommand_74 rfl (by decide) (o_X7a11 sg v3.2) (zin_in h6) ((p_X7a11).trans (congrArg (fun z => zT sg z) q8.symm)) ?_
          refine aw_aload_n (q := 76) dX7_readsCommand_75 rfl rfl ?_
          refine aw_dup (q := 77) dX7_readsCommand_76 rfl rfl ?_
          refine aw_getr (q := 80) dX7_readsCommand_77 rfl e_X7_204 (by decide) (o_X7 sg s7) rfl ?_
          refine aw_iconst (q := 81) (v := 1) dX7_readsCommand_80 rfl (by decide) ?_
          refine aw_iadd (q := 82) dX7_readsCommand_81 rfl ?_
          obtain ⟨s9, q10, H⟩ := zltd H
          refine aw_put (q := 85) dX7_readsCommand_82 rfl f_X7_204 (by decide) (o_X7 sg s7) rfl rfl (Nat.le_of_ble_eq_true rfl) ((p_X7_10).trans (congrArg (fun z => zT sg z) q10.symm)) ?_
          refine aw_aload_n (q := 86) dX7_readsCommand_85 rfl rfl ?_
          obtain ⟨v11, hv11, H⟩ := zbd H
          refine aw_cv (M' := M_X7_passesSpaces) (as := []) (q := 89) dX7_readsCommand_86 rfl W_X7_passesSpaces k_X7_213 i_X7_passesSpaces v_X7_passesSpaces (by decide) (o_X7 sg s9) rfl rfl rfl (by decide) (Nat.le_of_ble_eq_true rfl) (c_X7_passesSpaces sg s9 hv11) (Nat.le_refl _) (Nat.le_refl _) ?_
          rintro r9 h9 ⟨rfl, rfl⟩
          refine aw_goto (q := 33) dX7_readsCommand_89 (by decide) ?_
          exact aw_fewer (L' := [some (.ref 120), none]) ⟨rfl, trivial⟩ (ih v11  _ H KE KR)
def f_X7_readsCommand (s : zr) : Option (Bool × zr) :=
  zlt (zm s 0 10 0) fun s1 =>
  Option.bind (f_X7_readsWord s1) fun v3 =>
  zlt (zm v3.2 0 9 v3.1) fun s4 =>
  if (s4 0 9) = 0 then (
    some (false, s4)
  ) else (
    Option.bind (f_X7_isEnded s4) fun v7 =>
    if v7 = true then (
      Option.bind (f_X7_passesSpaces s4) fun v9 =>
      Option.bind (f_X7_readsCommand_33 zFu v9) fun e10 => match e10 with
      | Sum.inr r13 => some r13
      | Sum.inl e10i =>
      zlt (zm e10i 0 8 ((e10i 0 8) + 1)) fun s14 =>
      some (true, s14)
    ) else (
      some (false, s4)
    )
  )
set_option maxHeartbeats 4000000 in
set_option maxRecDepth 100000 in
theorem c_X7_readsCommand {G : zG} {sl : Nat} (sg : zs) (s : zr)  {v9 : (Bool × zr)} (H : f_X7_readsCommand s = some v9) : zMv G 4 M_X7_readsCommand [.ref 120] sl (zT sg s) (fun r h' => r = some (.int (zb v9.1)) ∧ h' = zT sg v9.2) := by
  unfold f_X7_readsCommand at H
  refine zMv_of (L := [some (.ref 120), none]) (by decide) rfl (Nat.le_of_ble_eq_true rfl) rfl ?_
  refine aw_aload_n (q := 1) dX7_readsCommand_0 rfl rfl ?_
  refine aw_iconst (q := 2) (v := 0) dX7_readsCommand_1 rfl (by decide) ?_
  obtain ⟨s1, q2, H⟩ := zltd H
  refine aw_put (q := 5) dX7_readsCommand_2 rfl f_X7_204 (by decide) (o_X7 sg s) rfl rfl (Nat.le_of_ble_eq_true rfl) ((p_X7_10).trans (congrArg (fun z => zT sg z) q2.symm)) ?_
  refine aw_aload_n (q := 6) dX7_readsCommand_5 rfl rfl ?_
  refine aw_aload_n (q := 7) dX7_readsCommand_6 rfl rfl ?_
  obtain ⟨v3, hv3, H⟩ := zbd H
  refine aw_cv (M' := M_X7_readsWord) (as := []) (q := 10) dX7_readsCommand_7 rfl W_X7_readsWord k_X7_207 i_X7_readsWord v_X7_readsWord (by decide) (o_X7 sg s1) rfl rfl rfl (by decide) (Nat.le_of_ble_eq_true rfl) (c_X7_readsWord sg s1 hv3) (Nat.le_refl _) (Nat.le_refl _) ?_
  rintro r9 h9 ⟨rfl, rfl⟩
  obtain ⟨s4, q5, H⟩ := zltd H
  refine aw_put (q := 13) dX7_readsCommand_10 rfl f_X7_210 (by decide) (o_X7 sg v3.2) rfl rfl (Nat.le_of_ble_eq_true rfl) ((p_X7_9).trans (congrArg (fun z => zT sg z) q5.symm)) ?_
  refine aw_aload_n (q := 14) dX7_readsCommand_13 rfl rfl ?_
  refine aw_getr (q := 17) dX7_readsCommand_14 rfl e_X7_210 (by decide) (o_X7 sg s4) rfl ?_
  refine aw_if_eq (q := 20) (t := 27) dX7_readsCommand_17 rfl (by decide) (fun h6 => ?_) (fun h6 => ?_)
  · replace H := zt h6 H
    refine aw_iconst (q := 28) (v := 0) dX7_readsCommand_27 rfl (by decide) ?_
    cases H
    exact aw_ret dX7_readsCommand_28 rfl rfl rfl rfl ⟨rfl, rfl⟩
  · replace H := zf h6 H
    refine aw_aload_n (q := 21) dX7_readsCommand_20 rfl rfl ?_
    obtain ⟨v7, hv7, H⟩ := zbd H
    refine aw_cv (M' := M_X7_isEnded) (as := []) (q := 24) dX7_readsCommand_21 rfl W_X7_isEnded k_X7_200 i_X7_isEnded v_X7_isEnded (by decide) (o_X7 sg s4) rfl rfl rfl (by decide) (Nat.le_of_ble_eq_true rfl) (c_X7_isEnded sg s4 hv7) (Nat.le_refl _) (Nat.le_refl _) ?_
    rintro r9 h9 ⟨rfl, rfl⟩
    refine aw_ifneB (q := 27) (t := 29) dX7_readsCommand_24 rfl (by decide) (fun h8 => ?_) (fun h8 => ?_)
    · replace H := zt h8 H
      refine aw_aload_n (q := 30) dX7_readsCommand_29 rfl rfl ?_
      obtain ⟨v9, hv9, H⟩ := zbd H
      refine aw_cv (M' := M_X7_passesSpaces) (as := []) (q := 33) dX7_readsCommand_30 rfl W_X7_passesSpaces k_X7_213 i_X7_passesSpaces v_X7_passesSpaces (by decide) (o_X7 sg s4) rfl rfl rfl (by decide) (Nat.le_of_ble_eq_true rfl) (c_X7_passesSpaces sg s4 hv9) (Nat.le_refl _) (Nat.le_refl _) ?_
      rintro r9 h9 ⟨rfl, rfl⟩
      obtain ⟨e10, he10, H⟩ := zbd H
      refine aw_fewer (L' := [some (.ref 120), none]) ⟨rfl, trivial⟩ ?_
      refine L_X7_readsCommand_33 sg  zFu v9  e10 he10 (fun e10i h9 => ?_) (fun r13 h9 => ?_)
      · subst h9
        replace H : _ = _ := H
        refine aw_aload_n (q := 93) dX7_readsCommand_92 rfl rfl ?_
        refine aw_dup (q := 94) dX7_readsCommand_93 rfl rfl ?_
        refine aw_getr (q := 97) dX7_readsCommand_94 rfl e_X7_194 (by decide) (o_X7 sg e10i) rfl ?_
        refine aw_iconst (q := 98) (v := 1) dX7_readsCommand_97 rfl (by decide) ?_
        refine aw_iadd (q := 99) dX7_readsCommand_98 rfl ?_
        obtain ⟨s14, q15, H⟩ := zltd H
        refine aw_put (q := 102) dX7_readsCommand_99 rfl f_X7_194 (by decide) (o_X7 sg e10i) rfl rfl (Nat.le_of_ble_eq_true rfl) ((p_X7_8).trans (congrArg (fun z => zT sg z) q15.symm)) ?_
        refine aw_iconst (q := 103) (v := 1) dX7_readsCommand_102 rfl (by decide) ?_
        cases H
        exact aw_ret dX7_readsCommand_103 rfl rfl rfl rfl ⟨rfl, rfl⟩
      · subst h9
        cases H
        exact ⟨rfl, rfl⟩
    · replace H := zf h8 H
      refine aw_iconst (q := 28) (v := 0) dX7_readsCommand_27 rfl (by decide) ?_
      cases H
      exact aw_ret dX7_readsCommand_28 rfl rfl rfl rfl ⟨rfl, rfl⟩
def f_X7_codeOf (x0 : Int32) (x1 : Int32) (x2 : Int32) (x3 : Int32) (x4 : Int32) : Int32 :=
  zlt (((((27 : Int32) * (((((27 : Int32) * ((x0 - 97) + 1)) + x1) - 97) + 1)) + x2) - 97) + 1 : Int32) fun y1 =>
  if x3 = 32 then (
    if x4 = 32 then (
      y1
    ) else (
      ((((27 : Int32) * y1) + x4) - 97) + 1
    )
  ) else (
    zlt (((((27 : Int32) * y1) + x3) - 97) + 1 : Int32) fun y5 =>
    if x4 = 32 then (
      y5
    ) else (
      ((((27 : Int32) * y5) + x4) - 97) + 1
    )
  )
set_option maxHeartbeats 4000000 in
set_option maxRecDepth 100000 in
theorem c_X7_codeOf {G : zG} {sl : Nat} (h : zH) (x0 : Int32) (x1 : Int32) (x2 : Int32) (x3 : Int32) (x4 : Int32)  : zMv G 0 M_X7_codeOf [.int x0, .int x1, .int x2, .int x3, .int x4] sl h (fun r h' => r = some (.int (f_X7_codeOf x0 x1 x2 x3 x4)) ∧ h' = h) := by
  generalize H : f_X7_codeOf x0 x1 x2 x3 x4 = r0
  unfold f_X7_codeOf at H
  refine zMv_of (L := [some (.int x0), some (.int x1), some (.int x2), some (.int x3), some (.int x4), none]) (by decide) rfl (Nat.le_of_ble_eq_true rfl) rfl ?_
  refine aw_bipush (q := 2) (v := 27) dX7_codeOf_0 rfl (by decide) ?_
  refine aw_bipush (q := 4) (v := 27) dX7_codeOf_2 rfl (by decide) ?_
  refine aw_iload_n (q := 5) dX7_codeOf_4 rfl rfl ?_
  refine aw_bipush (q := 7) (v := 97) dX7_codeOf_5 rfl (by decide) ?_
  refine aw_isub (q := 8) dX7_codeOf_7 rfl ?_
  refine aw_iconst (q := 9) (v := 1) dX7_codeOf_8 rfl (by decide) ?_
  refine aw_iadd (q := 10) dX7_codeOf_9 rfl ?_
  refine aw_imul (q := 11) dX7_codeOf_10 rfl ?_
  refine aw_iload_n (q := 12) dX7_codeOf_11 rfl rfl ?_
  refine aw_iadd (q := 13) dX7_codeOf_12 rfl ?_
  refine aw_bipush (q := 15) (v := 97) dX7_codeOf_13 rfl (by decide) ?_
  refine aw_isub (q := 16) dX7_codeOf_15 rfl ?_
  refine aw_iconst (q := 17) (v := 1) dX7_codeOf_16 rfl (by decide) ?_
  refine aw_iadd (q := 18) dX7_codeOf_17 rfl ?_
  refine aw_imul (q := 19) dX7_codeOf_18 rfl ?_
  refine aw_iload_n (q := 20) dX7_codeOf_19 rfl rfl ?_
  refine aw_iadd (q := 21) dX7_codeOf_20 rfl ?_
  refine aw_bipush (q := 23) (v := 97) dX7_codeOf_21 rfl (by decide) ?_
  refine aw_isub (q := 24) dX7_codeOf_23 rfl ?_
  refine aw_iconst (q := 25) (v := 1) dX7_codeOf_24 rfl (by decide) ?_
  refine aw_iadd (q := 26) dX7_codeOf_25 rfl ?_
  obtain ⟨y1, q2, H⟩ := zltd H
  refine aw_nm q2 ?_
  refine aw_istore (q := 28) (L' := [some (.int x0), some (.int x1), some (.int x2), some (.int x3), some (.int x4), some (.int y1)]) dX7_codeOf_26 rfl (by decide) rfl rfl ?_
  refine aw_iload_n (q := 29) dX7_codeOf_28 rfl rfl ?_
  refine aw_bipush (q := 31) (v := 32) dX7_codeOf_29 rfl (by decide) ?_
  refine aw_icmp_neP (q := 34) (t := 39) dX7_codeOf_31 rfl (by decide) (fun h3 => ?_) (fun h3 => ?_)
  · replace H := zt h3 H
    refine aw_iload (q := 36) dX7_codeOf_34 rfl rfl ?_
    refine aw_goto (q := 51) dX7_codeOf_36 (by decide) ?_
    refine aw_istore (q := 53) (L' := [some (.int x0), some (.int x1), some (.int x2), some (.int x3), some (.int x4), some (.int y1)]) dX7_codeOf_51 rfl (by decide) rfl rfl ?_
    refine aw_iload (q := 55) dX7_codeOf_53 rfl rfl ?_
    refine aw_bipush (q := 57) (v := 32) dX7_codeOf_55 rfl (by decide) ?_
    refine aw_icmp_neP (q := 60) (t := 65) dX7_codeOf_57 rfl (by decide) (fun h4 => ?_) (fun h4 => ?_)
    · replace H := zt h4 H
      refine aw_iload (q := 62) dX7_codeOf_60 rfl rfl ?_
      refine aw_goto (q := 78) dX7_codeOf_62 (by decide) ?_
      subst H
      exact aw_ret dX7_codeOf_78 rfl rfl rfl rfl ⟨rfl, rfl⟩
    · replace H := zf h4 H
      refine aw_bipush (q := 67) (v := 27) dX7_codeOf_65 rfl (by decide) ?_
      refine aw_iload (q := 69) dX7_codeOf_67 rfl rfl ?_
      refine aw_imul (q := 70) dX7_codeOf_69 rfl ?_
      refine aw_iload (q := 72) dX7_codeOf_70 rfl rfl ?_
      refine aw_iadd (q := 73) dX7_codeOf_72 rfl ?_
      refine aw_bipush (q := 75) (v := 97) dX7_codeOf_73 rfl (by decide) ?_
      refine aw_isub (q := 76) dX7_codeOf_75 rfl ?_
      refine aw_iconst (q := 77) (v := 1) dX7_codeOf_76 rfl (by decide) ?_
      refine aw_iadd (q := 78) dX7_codeOf_77 rfl ?_
      subst H
      exact aw_ret dX7_codeOf_78 rfl rfl rfl rfl ⟨rfl, rfl⟩
  · replace H := zf h3 H
    refine aw_bipush (q := 41) (v := 27) dX7_codeOf_39 rfl (by decide) ?_
    refine aw_iload (q := 43) dX7_codeOf_41 rfl rfl ?_
    refine aw_imul (q := 44) dX7_codeOf_43 rfl ?_
    refine aw_iload_n (q := 45) dX7_codeOf_44 rfl rfl ?_
    refine aw_iadd (q := 46) dX7_codeOf_45 rfl ?_
    refine aw_bipush (q := 48) (v := 97) dX7_codeOf_46 rfl (by decide) ?_
    refine aw_isub (q := 49) dX7_codeOf_48 rfl ?_
    refine aw_iconst (q := 50) (v := 1) dX7_codeOf_49 rfl (by decide) ?_
    refine aw_iadd (q := 51) dX7_codeOf_50 rfl ?_
    obtain ⟨y5, q6, H⟩ := zltd H
    refine aw_nm q6 ?_
    refine aw_istore (q := 53) (L' := [some (.int x0), some (.int x1), some (.int x2), some (.int x3), some (.int x4), some (.int y5)]) dX7_codeOf_51 rfl (by decide) rfl rfl ?_
    refine aw_iload (q := 55) dX7_codeOf_53 rfl rfl ?_
    refine aw_bipush (q := 57) (v := 32) dX7_codeOf_55 rfl (by decide) ?_
    refine aw_icmp_neP (q := 60) (t := 65) dX7_codeOf_57 rfl (by decide) (fun h7 => ?_) (fun h7 => ?_)
    · replace H := zt h7 H
      refine aw_iload (q := 62) dX7_codeOf_60 rfl rfl ?_
      refine aw_goto (q := 78) dX7_codeOf_62 (by decide) ?_
      subst H
      exact aw_ret dX7_codeOf_78 rfl rfl rfl rfl ⟨rfl, rfl⟩
    · replace H := zf h7 H
      refine aw_bipush (q := 67) (v := 27) dX7_codeOf_65 rfl (by decide) ?_
      refine aw_iload (q := 69) dX7_codeOf_67 rfl rfl ?_
      refine aw_imul (q := 70) dX7_codeOf_69 rfl ?_
      refine aw_iload (q := 72) dX7_codeOf_70 rfl rfl ?_
      refine aw_iadd (q := 73) dX7_codeOf_72 rfl ?_
      refine aw_bipush (q := 75) (v := 97) dX7_codeOf_73 rfl (by decide) ?_
      refine aw_isub (q := 76) dX7_codeOf_75 rfl ?_
      refine aw_iconst (q := 77) (v := 1) dX7_codeOf_76 rfl (by decide) ?_
      refine aw_iadd (q := 78) dX7_codeOf_77 rfl ?_
      subst H
      exact aw_ret dX7_codeOf_78 rfl rfl rfl rfl ⟨rfl, rfl⟩
def f_X7_commandKind (s : zr) : Int32 :=
  if (s 0 9) = (f_X7_codeOf 111 112 101 110 32) then (
    0
  ) else (
    if (s 0 9) = (f_X7_codeOf 115 104 111 114 116) then (
      1
    ) else (
      if (s 0 9) = (f_X7_codeOf 108 111 119 32 32) then (
        2
      ) else (
        if (s 0 9) = (f_X7_codeOf 104 105 103 104 32) then (
          3
        ) else (
          if (s 0 9) = (f_X7_codeOf 100 101 97 100 32) then (
            4
          ) else (
            if (s 0 9) = (f_X7_codeOf 110 101 116 32 32) then (
              5
            ) else (
              if (s 0 9) = (f_X7_codeOf 99 104 105 112 32) then (
                6
              ) else (
                if (s 0 9) = (f_X7_codeOf 98 108 101 115 115) then (
                  7
                ) else (
                  (-1)
                )
              )
            )
          )
        )
      )
    )
  )
set_option maxHeartbeats 4000000 in
set_option maxRecDepth 100000 in
theorem c_X7_commandKind {G : zG} {sl : Nat} (sg : zs) (s : zr)   : zMv G 1 M_X7_commandKind [.ref 120] sl (zT sg s) (fun r h' => r = some (.int (f_X7_commandKind s)) ∧ h' = (zT sg s)) := by
  generalize H : f_X7_commandKind s = r0
  unfold f_X7_commandKind at H
  refine zMv_of (L := [some (.ref 120)]) (by decide) rfl (Nat.le_of_ble_eq_true rfl) rfl ?_
  refine aw_aload_n (q := 1) dX7_commandKind_0 rfl rfl ?_
  refine aw_getr (q := 4) dX7_commandKind_1 rfl e_X7_210 (by decide) (o_X7 sg s) rfl ?_
  refine aw_bipush (q := 6) (v := 111) dX7_commandKind_4 rfl (by decide) ?_
  refine aw_bipush (q := 8) (v := 112) dX7_commandKind_6 rfl (by decide) ?_
  refine aw_bipush (q := 10) (v := 101) dX7_commandKind_8 rfl (by decide) ?_
  refine aw_bipush (q := 12) (v := 110) dX7_commandKind_10 rfl (by decide) ?_
  refine aw_bipush (q := 14) (v := 32) dX7_commandKind_12 rfl (by decide) ?_
  refine aw_cs (M' := M_X7_codeOf) (as := [.int 111, .int 112, .int 101, .int 110, .int 32]) (q := 17) dX7_commandKind_14 rfl W_X7_codeOf k_X7_219 s_X7_codeOf rfl rfl (by decide) (Nat.le_of_ble_eq_true rfl) (c_X7_codeOf (zT sg s) 111 112 101 110 32) (Nat.le_refl _) (Nat.le_refl _) ?_
  rintro r9 h9 ⟨rfl, rfl⟩
  refine aw_icmp_neP (q := 20) (t := 22) dX7_commandKind_17 rfl (by decide) (fun h1 => ?_) (fun h1 => ?_)
  · replace H := zt h1 H
    refine aw_iconst (q := 21) (v := 0) dX7_commandKind_20 rfl (by decide) ?_
    subst H
    exact aw_ret dX7_commandKind_21 rfl rfl rfl rfl ⟨rfl, rfl⟩
  · replace H := zf h1 H
    refine aw_aload_n (q := 23) dX7_commandKind_22 rfl rfl ?_
    refine aw_getr (q := 26) dX7_commandKind_23 rfl e_X7_210 (by decide) (o_X7 sg s) rfl ?_
    refine aw_bipush (q := 28) (v := 115) dX7_commandKind_26 rfl (by decide) ?_
    refine aw_bipush (q := 30) (v := 104) dX7_commandKind_28 rfl (by decide) ?_
    refine aw_bipush (q := 32) (v := 111) dX7_commandKind_30 rfl (by decide) ?_
    refine aw_bipush (q := 34) (v := 114) dX7_commandKind_32 rfl (by decide) ?_
    refine aw_bipush (q := 36) (v := 116) dX7_commandKind_34 rfl (by decide) ?_
    refine aw_cs (M' := M_X7_codeOf) (as := [.int 115, .int 104, .int 111, .int 114, .int 116]) (q := 39) dX7_commandKind_36 rfl W_X7_codeOf k_X7_219 s_X7_codeOf rfl rfl (by decide) (Nat.le_of_ble_eq_true rfl) (c_X7_codeOf (zT sg s) 115 104 111 114 116) (Nat.le_refl _) (Nat.le_refl _) ?_
    rintro r9 h9 ⟨rfl, rfl⟩
    refine aw_icmp_neP (q := 42) (t := 44) dX7_commandKind_39 rfl (by decide) (fun h2 => ?_) (fun h2 => ?_)
    · replace H := zt h2 H
      refine aw_iconst (q := 43) (v := 1) dX7_commandKind_42 rfl (by decide) ?_
      subst H
      exact aw_ret dX7_commandKind_43 rfl rfl rfl rfl ⟨rfl, rfl⟩
    · replace H := zf h2 H
      refine aw_aload_n (q := 45) dX7_commandKind_44 rfl rfl ?_
      refine aw_getr (q := 48) dX7_commandKind_45 rfl e_X7_210 (by decide) (o_X7 sg s) rfl ?_
      refine aw_bipush (q := 50) (v := 108) dX7_commandKind_48 rfl (by decide) ?_
      refine aw_bipush (q := 52) (v := 111) dX7_commandKind_50 rfl (by decide) ?_
      refine aw_bipush (q := 54) (v := 119) dX7_commandKind_52 rfl (by decide) ?_
      refine aw_bipush (q := 56) (v := 32) dX7_commandKind_54 rfl (by decide) ?_
      refine aw_bipush (q := 58) (v := 32) dX7_commandKind_56 rfl (by decide) ?_
      refine aw_cs (M' := M_X7_codeOf) (as := [.int 108, .int 111, .int 119, .int 32, .int 32]) (q := 61) dX7_commandKind_58 rfl W_X7_codeOf k_X7_219 s_X7_codeOf rfl rfl (by decide) (Nat.le_of_ble_eq_true rfl) (c_X7_codeOf (zT sg s) 108 111 119 32 32) (Nat.le_refl _) (Nat.le_refl _) ?_
      rintro r9 h9 ⟨rfl, rfl⟩
      refine aw_icmp_neP (q := 64) (t := 66) dX7_commandKind_61 rfl (by decide) (fun h3 => ?_) (fun h3 => ?_)
      · replace H := zt h3 H
        refine aw_iconst (q := 65) (v := 2) dX7_commandKind_64 rfl (by decide) ?_
        subst H
        exact aw_ret dX7_commandKind_65 rfl rfl rfl rfl ⟨rfl, rfl⟩
      · replace H := zf h3 H
        refine aw_aload_n (q := 67) dX7_commandKind_66 rfl rfl ?_
        refine aw_getr (q := 70) dX7_commandKind_67 rfl e_X7_210 (by decide) (o_X7 sg s) rfl ?_
        refine aw_bipush (q := 72) (v := 104) dX7_commandKind_70 rfl (by decide) ?_
        refine aw_bipush (q := 74) (v := 105) dX7_commandKind_72 rfl (by decide) ?_
        refine aw_bipush (q := 76) (v := 103) dX7_commandKind_74 rfl (by decide) ?_
        refine aw_bipush (q := 78) (v := 104) dX7_commandKind_76 rfl (by decide) ?_
        refine aw_bipush (q := 80) (v := 32) dX7_commandKind_78 rfl (by decide) ?_
        refine aw_cs (M' := M_X7_codeOf) (as := [.int 104, .int 105, .int 103, .int 104, .int 32]) (q := 83) dX7_commandKind_80 rfl W_X7_codeOf k_X7_219 s_X7_codeOf rfl rfl (by decide) (Nat.le_of_ble_eq_true rfl) (c_X7_codeOf (zT sg s) 104 105 103 104 32) (Nat.le_refl _) (Nat.le_refl _) ?_
        rintro r9 h9 ⟨rfl, rfl⟩
        refine aw_icmp_neP (q := 86) (t := 88) dX7_commandKind_83 rfl (by decide) (fun h4 => ?_) (fun h4 => ?_)
        · replace H := zt h4 H
          refine aw_iconst (q := 87) (v := 3) dX7_commandKind_86 rfl (by decide) ?_
          subst H
          exact aw_ret dX7_commandKind_87 rfl rfl rfl rfl ⟨rfl, rfl⟩
        · replace H := zf h4 H
          refine aw_aload_n (q := 89) dX7_commandKind_88 rfl rfl ?_
          refine aw_getr (q := 92) dX7_commandKind_89 rfl e_X7_210 (by decide) (o_X7 sg s) rfl ?_
          refine aw_bipush (q := 94) (v := 100) dX7_commandKind_92 rfl (by decide) ?_
          refine aw_bipush (q := 96) (v := 101) dX7_commandKind_94 rfl (by decide) ?_
          refine aw_bipush (q := 98) (v := 97) dX7_commandKind_96 rfl (by decide) ?_
          refine aw_bipush (q := 100) (v := 100) dX7_commandKind_98 rfl (by decide) ?_
          refine aw_bipush (q := 102) (v := 32) dX7_commandKind_100 rfl (by decide) ?_
          refine aw_cs (M' := M_X7_codeOf) (as := [.int 100, .int 101, .int 97, .int 100, .int 32]) (q := 105) dX7_commandKind_102 rfl W_X7_codeOf k_X7_219 s_X7_codeOf rfl rfl (by decide) (Nat.le_of_ble_eq_true rfl) (c_X7_codeOf (zT sg s) 100 101 97 100 32) (Nat.le_refl _) (Nat.le_refl _) ?_
          rintro r9 h9 ⟨rfl, rfl⟩
          refine aw_icmp_neP (q := 108) (t := 110) dX7_commandKind_105 rfl (by decide) (fun h5 => ?_) (fun h5 => ?_)
          · replace H := zt h5 H
            refine aw_iconst (q := 109) (v := 4) dX7_commandKind_108 rfl (by decide) ?_
            subst H
            exact aw_ret dX7_commandKind_109 rfl rfl rfl rfl ⟨rfl, rfl⟩
          · replace H := zf h5 H
            refine aw_aload_n (q := 111) dX7_commandKind_110 rfl rfl ?_
            refine aw_getr (q := 114) dX7_commandKind_111 rfl e_X7_210 (by decide) (o_X7 sg s) rfl ?_
            refine aw_bipush (q := 116) (v := 110) dX7_commandKind_114 rfl (by decide) ?_
            refine aw_bipush (q := 118) (v := 101) dX7_commandKind_116 rfl (by decide) ?_
            refine aw_bipush (q := 120) (v := 116) dX7_commandKind_118 rfl (by decide) ?_
            refine aw_bipush (q := 122) (v := 32) dX7_commandKind_120 rfl (by decide) ?_
            refine aw_bipush (q := 124) (v := 32) dX7_commandKind_122 rfl (by decide) ?_
            refine aw_cs (M' := M_X7_codeOf) (as := [.int 110, .int 101, .int 116, .int 32, .int 32]) (q := 127) dX7_commandKind_124 rfl W_X7_codeOf k_X7_219 s_X7_codeOf rfl rfl (by decide) (Nat.le_of_ble_eq_true rfl) (c_X7_codeOf (zT sg s) 110 101 116 32 32) (Nat.le_refl _) (Nat.le_refl _) ?_
            rintro r9 h9 ⟨rfl, rfl⟩
            refine aw_icmp_neP (q := 130) (t := 132) dX7_commandKind_127 rfl (by decide) (fun h6 => ?_) (fun h6 => ?_)
            · replace H := zt h6 H
              refine aw_iconst (q := 131) (v := 5) dX7_commandKind_130 rfl (by decide) ?_
              subst H
              exact aw_ret dX7_commandKind_131 rfl rfl rfl rfl ⟨rfl, rfl⟩
            · replace H := zf h6 H
              refine aw_aload_n (q := 133) dX7_commandKind_132 rfl rfl ?_
              refine aw_getr (q := 136) dX7_commandKind_133 rfl e_X7_210 (by decide) (o_X7 sg s) rfl ?_
              refine aw_bipush (q := 138) (v := 99) dX7_commandKind_136 rfl (by decide) ?_
              refine aw_bipush (q := 140) (v := 104) dX7_commandKind_138 rfl (by decide) ?_
              refine aw_bipush (q := 142) (v := 105) dX7_commandKind_140 rfl (by decide) ?_
              refine aw_bipush (q := 144) (v := 112) dX7_commandKind_142 rfl (by decide) ?_
              refine aw_bipush (q := 146) (v := 32) dX7_commandKind_144 rfl (by decide) ?_
              refine aw_cs (M' := M_X7_codeOf) (as := [.int 99, .int 104, .int 105, .int 112, .int 32]) (q := 149) dX7_commandKind_146 rfl W_X7_codeOf k_X7_219 s_X7_codeOf rfl rfl (by decide) (Nat.le_of_ble_eq_true rfl) (c_X7_codeOf (zT sg s) 99 104 105 112 32) (Nat.le_refl _) (Nat.le_refl _) ?_
              rintro r9 h9 ⟨rfl, rfl⟩
              refine aw_icmp_neP (q := 152) (t := 155) dX7_commandKind_149 rfl (by decide) (fun h7 => ?_) (fun h7 => ?_)
              · replace H := zt h7 H
                refine aw_bipush (q := 154) (v := 6) dX7_commandKind_152 rfl (by decide) ?_
                subst H
                exact aw_ret dX7_commandKind_154 rfl rfl rfl rfl ⟨rfl, rfl⟩
              · replace H := zf h7 H
                refine aw_aload_n (q := 156) dX7_commandKind_155 rfl rfl ?_
                refine aw_getr (q := 159) dX7_commandKind_156 rfl e_X7_210 (by decide) (o_X7 sg s) rfl ?_
                refine aw_bipush (q := 161) (v := 98) dX7_commandKind_159 rfl (by decide) ?_
                refine aw_bipush (q := 163) (v := 108) dX7_commandKind_161 rfl (by decide) ?_
                refine aw_bipush (q := 165) (v := 101) dX7_commandKind_163 rfl (by decide) ?_
                refine aw_bipush (q := 167) (v := 115) dX7_commandKind_165 rfl (by decide) ?_
                refine aw_bipush (q := 169) (v := 115) dX7_commandKind_167 rfl (by decide) ?_
                refine aw_cs (M' := M_X7_codeOf) (as := [.int 98, .int 108, .int 101, .int 115, .int 115]) (q := 172) dX7_commandKind_169 rfl W_X7_codeOf k_X7_219 s_X7_codeOf rfl rfl (by decide) (Nat.le_of_ble_eq_true rfl) (c_X7_codeOf (zT sg s) 98 108 101 115 115) (Nat.le_refl _) (Nat.le_refl _) ?_
                rintro r9 h9 ⟨rfl, rfl⟩
                refine aw_icmp_neP (q := 175) (t := 180) dX7_commandKind_172 rfl (by decide) (fun h8 => ?_) (fun h8 => ?_)
                · replace H := zt h8 H
                  refine aw_bipush (q := 177) (v := 7) dX7_commandKind_175 rfl (by decide) ?_
                  refine aw_goto (q := 181) dX7_commandKind_177 (by decide) ?_
                  subst H
                  exact aw_ret dX7_commandKind_181 rfl rfl rfl rfl ⟨rfl, rfl⟩
                · replace H := zf h8 H
                  refine aw_iconst (q := 181) (v := (-1)) dX7_commandKind_180 rfl (by decide) ?_
                  subst H
                  exact aw_ret dX7_commandKind_181 rfl rfl rfl rfl ⟨rfl, rfl⟩
def f_X7_areUnlike_14 : Nat → zr → Int32 → Int32 → Option ((Unit) ⊕ (Bool))
  | 0, _, _, _ => none
  | k + 1, s, x2, x3 =>
    if (s 0 10) ≤ x3 then (
      some (Sum.inl ())
    ) else (
      if zin x2 9 = true then
      if zin x3 9 = true then
      if (s 7 x2.toNatClampNeg) = (s 7 x3.toNatClampNeg) then (
        some (Sum.inr false)
      ) else (
        f_X7_areUnlike_14 k s x2 (x3 + 1)
      )
      else none
      else none
    )
set_option maxHeartbeats 4000000 in
set_option maxRecDepth 100000 in
theorem L_X7_areUnlike_14 {G : zG} {sl : Nat} {P : Option Value → zH → Prop} (sg : zs) (x2 : Int32) : ∀ (k : Nat) (s : zr) (x3 : Int32) (e : (Unit) ⊕ (Bool)), f_X7_areUnlike_14 k s x2 x3 = some e → (∀ x9, e = Sum.inl x9 → AV G M_X7_areUnlike 0 sl P 45 [some (.ref 120), none, some (.int x2), none] [] (zT sg s)) → (∀ v9, e = Sum.inr v9 → P (some (.int (zb v9))) (zT sg s)) → AV G M_X7_areUnlike 0 sl P 14 [some (.ref 120), none, some (.int x2), some (.int x3)] [] (zT sg s) := by
  intro k
  induction k with
  | zero =>
    intro s x3 e H
    unfold f_X7_areUnlike_14 at H
    cases H
  | succ k ih =>
    intro s x3 e H KE KR
    unfold f_X7_areUnlike_14 at H
    refine aw_iload_n (q := 15) dX7_areUnlike_14 rfl rfl ?_
    refine aw_aload_n (q := 16) dX7_areUnlike_15 rfl rfl ?_
    refine aw_getr (q := 19) dX7_areUnlike_16 rfl e_X7_204 (by decide) (o_X7 sg s) rfl ?_
    refine aw_icmp_ge (q := 22) (t := 45) dX7_areUnlike_19 rfl (by decide) (fun h1 => ?_) (fun h1 => ?_)
    · replace H := zt h1 H
      cases H
      exact aw_fewer (L' := [some (.ref 120), none, some (.int x2), none]) ⟨rfl, ⟨rfl, trivial⟩⟩ (KE _ rfl)
    · replace H := zf h1 H
      refine aw_aload_n (q := 23) dX7_areUnlike_22 rfl rfl ?_
      refine aw_getr (q := 26) dX7_areUnlike_23 rfl e_X7_28 (by decide) (o_X7 sg s) rfl ?_
      refine aw_iload_n (q := 27) dX7_areUnlike_26 rfl rfl ?_
      obtain ⟨h2, H⟩ := zio H
      refine aw_iald' (q := 28) (v := s 7 x2.toNatClampNeg) dX7_areUnlike_27 rfl (by decide) (o_X7a11 sg s) (zin_in h2) rfl ?_
      refine aw_aload_n (q := 29) dX7_areUnlike_28 rfl rfl ?_
      refine aw_getr (q := 32) dX7_areUnlike_29 rfl e_X7_28 (by decide) (o_X7 sg s) rfl ?_
      refine aw_iload_n (q := 33) dX7_areUnlike_32 rfl rfl ?_
      obtain ⟨h3, H⟩ := zio H
      refine aw_iald' (q := 34) (v := s 7 x3.toNatClampNeg) dX7_areUnlike_33 rfl (by decide) (o_X7a11 sg s) (zin_in h3) rfl ?_
      refine aw_icmp_neP (q := 37) (t := 39) dX7_areUnlike_34 rfl (by decide) (fun h4 => ?_) (fun h4 => ?_)
      · replace H := zt h4 H
        refine aw_iconst (q := 38) (v := 0) dX7_areUnlike_37 rfl (by decide) ?_
        cases H
        exact aw_ret dX7_areUnlike_38 rfl rfl rfl rfl (KR _ rfl)
      · replace H := zf h4 H
        refine aw_iinc (q := 42) (v := x3 + 1) (L' := [some (.ref 120), none, some (.int x2), some (.int (x3 + 1))]) dX7_areUnlike_39 rfl rfl (by first | rfl | decide) (by decide) rfl rfl ?_
        refine aw_goto (q := 14) dX7_areUnlike_42 (by decide) ?_
        exact aw_fewer (L' := [some (.ref 120), none, some (.int x2), some (.int (x3 + 1))]) ⟨rfl, ⟨rfl, ⟨rfl, trivial⟩⟩⟩ (ih s (x3 + 1) _ H KE KR)
def f_X7_areUnlike_2 : Nat → zr → Int32 → Option ((Unit) ⊕ (Bool))
  | 0, _, _ => none
  | k + 1, s, x2 =>
    if (s 0 10) ≤ x2 then (
      some (Sum.inl ())
    ) else (
      zlt (x2 + 1 : Int32) fun y2 =>
      Option.bind (f_X7_areUnlike_14 zFu s x2 y2) fun e4 => match e4 with
      | Sum.inr r5 => some (Sum.inr r5)
      | Sum.inl e4i =>
      f_X7_areUnlike_2 k s (x2 + 1)
    )
set_option maxHeartbeats 4000000 in
set_option maxRecDepth 100000 in
theorem L_X7_areUnlike_2 {G : zG} {sl : Nat} {P : Option Value → zH → Prop} (sg : zs)  : ∀ (k : Nat) (s : zr) (x2 : Int32) (e : (Unit) ⊕ (Bool)), f_X7_areUnlike_2 k s x2 = some e → (∀ x9, e = Sum.inl x9 → AV G M_X7_areUnlike 0 sl P 51 [none, none, none, none] [] (zT sg s)) → (∀ v9, e = Sum.inr v9 → P (some (.int (zb v9))) (zT sg s)) → AV G M_X7_areUnlike 0 sl P 2 [some (.ref 120), none, some (.int x2), none] [] (zT sg s) := by
  intro k
  induction k with
  | zero =>
    intro s x2 e H
    unfold f_X7_areUnlike_2 at H
    cases H
  | succ k ih =>
    intro s x2 e H KE KR
    unfold f_X7_areUnlike_2 at H
    refine aw_iload_n (q := 3) dX7_areUnlike_2 rfl rfl ?_
    refine aw_aload_n (q := 4) dX7_areUnlike_3 rfl rfl ?_
    refine aw_getr (q := 7) dX7_areUnlike_4 rfl e_X7_204 (by decide) (o_X7 sg s) rfl ?_
    refine aw_icmp_ge (q := 10) (t := 51) dX7_areUnlike_7 rfl (by decide) (fun h1 => ?_) (fun h1 => ?_)
    · replace H := zt h1 H
      cases H
      exact aw_fewer (L' := [none, none, none, none]) trivial (KE _ rfl)
    · replace H := zf h1 H
      refine aw_iload_n (q := 11) dX7_areUnlike_10 rfl rfl ?_
      refine aw_iconst (q := 12) (v := 1) dX7_areUnlike_11 rfl (by decide) ?_
      refine aw_iadd (q := 13) dX7_areUnlike_12 rfl ?_
      obtain ⟨y2, q3, H⟩ := zltd H
      refine aw_nm q3 ?_
      refine aw_istore_n (q := 14) (L' := [some (.ref 120), none, some (.int x2), some (.int y2)]) dX7_areUnlike_13 rfl (by decide) rfl rfl ?_
      obtain ⟨e4, he4, H⟩ := zbd H
      refine aw_fewer (L' := [some (.ref 120), none, some (.int x2), some (.int y2)]) ⟨rfl, ⟨rfl, ⟨rfl, trivial⟩⟩⟩ ?_
      refine L_X7_areUnlike_14 sg x2 zFu s y2 e4 he4 (fun e4i h9 => ?_) (fun r5 h9 => ?_)
      · subst h9
        replace H : _ = _ := H
        refine aw_iinc (q := 48) (v := x2 + 1) (L' := [some (.ref 120), none, some (.int (x2 + 1)), none]) dX7_areUnlike_45 rfl rfl (by first | rfl | decide) (by decide) rfl rfl ?_
        refine aw_goto (q := 2) dX7_areUnlike_48 (by decide) ?_
        exact aw_fewer (L' := [some (.ref 120), none, some (.int (x2 + 1)), none]) ⟨rfl, ⟨rfl, trivial⟩⟩ (ih s (x2 + 1) _ H KE KR)
      · subst h9
        cases H
        exact KR _ rfl
def f_X7_areUnlike (s : zr) (x1 : Int32) : Option Bool :=
  Option.bind (f_X7_areUnlike_2 zFu s x1) fun e1 => match e1 with
  | Sum.inr r2 => some r2
  | Sum.inl e1i =>
  some true
set_option maxHeartbeats 4000000 in
set_option maxRecDepth 100000 in
theorem c_X7_areUnlike {G : zG} {sl : Nat} (sg : zs) (s : zr) (x1 : Int32) {v9 : Bool} (H : f_X7_areUnlike s x1 = some v9) : zMv G 0 M_X7_areUnlike [.ref 120, .int x1] sl (zT sg s) (fun r h' => r = some (.int (zb v9)) ∧ h' = (zT sg s)) := by
  unfold f_X7_areUnlike at H
  refine zMv_of (L := [some (.ref 120), some (.int x1), none, none]) (by decide) rfl (Nat.le_of_ble_eq_true rfl) rfl ?_
  refine aw_iload_n (q := 1) dX7_areUnlike_0 rfl rfl ?_
  refine aw_istore_n (q := 2) (L' := [some (.ref 120), some (.int x1), some (.int x1), none]) dX7_areUnlike_1 rfl (by decide) rfl rfl ?_
  obtain ⟨e1, he1, H⟩ := zbd H
  refine aw_fewer (L' := [some (.ref 120), none, some (.int x1), none]) ⟨rfl, ⟨rfl, trivial⟩⟩ ?_
  refine L_X7_areUnlike_2 sg  zFu s x1 e1 he1 (fun e1i h9 => ?_) (fun r2 h9 => ?_)
  · subst h9
    replace H : _ = _ := H
    refine aw_iconst (q := 52) (v := 1) dX7_areUnlike_51 rfl (by decide) ?_
    cases H
    exact aw_ret dX7_areUnlike_52 rfl rfl rfl rfl ⟨rfl, rfl⟩
  · subst h9
    cases H
    exact ⟨rfl, rfl⟩
def f_X7_isOfForm (s : zr) (x1 : Int32) : Option Bool :=
  if x1 = 1 then (
    if (s 0 10) = 2 then (
      Option.bind (f_X7_areUnlike s 0) fun v9 =>
      if v9 = true then (
        some true
      ) else (
        some false
      )
    ) else (
      some false
    )
  ) else (
    if x1 = 2 then (
      if x1 = (-1) then (
        some false
      ) else (
        if (s 0 10) = 1 then (
          some true
        ) else (
          some false
        )
      )
    ) else (
      if x1 = 3 then (
        if x1 = (-1) then (
          some false
        ) else (
          if (s 0 10) = 1 then (
            some true
          ) else (
            some false
          )
        )
      ) else (
        if x1 = 4 then (
          if x1 = (-1) then (
            some false
          ) else (
            if (s 0 10) = 1 then (
              some true
            ) else (
              some false
            )
          )
        ) else (
          if x1 = 5 then (
            if f_X7_isIn (s 0 10) 2 5 = true then (
              Option.bind (f_X7_areUnlike s 0) fun v18 =>
              if v18 = true then (
                some true
              ) else (
                some false
              )
            ) else (
              some false
            )
          ) else (
            if x1 = 6 then (
              if f_X7_isIn (s 0 10) 2 7 = true then (
                Option.bind (f_X7_areUnlike s 0) fun v21 =>
                if v21 = true then (
                  some true
                ) else (
                  some false
                )
              ) else (
                some false
              )
            ) else (
              if x1 = 7 then (
                if f_X7_isIn (s 0 10) 1 8 = true then (
                  Option.bind (f_X7_areUnlike s 1) fun v24 =>
                  if v24 = true then (
                    some true
                  ) else (
                    some false
                  )
                ) else (
                  some false
                )
              ) else (
                if x1 = (-1) then (
                  some false
                ) else (
                  if (s 0 10) = 1 then (
                    some true
                  ) else (
                    some false
                  )
                )
              )
            )
          )
        )
      )
    )
  )
set_option maxHeartbeats 4000000 in
set_option maxRecDepth 100000 in
theorem c_X7_isOfForm {G : zG} {sl : Nat} (sg : zs) (s : zr) (x1 : Int32) {v9 : Bool} (H : f_X7_isOfForm s x1 = some v9) : zMv G 1 M_X7_isOfForm [.ref 120, .int x1] sl (zT sg s) (fun r h' => r = some (.int (zb v9)) ∧ h' = (zT sg s)) := by
  unfold f_X7_isOfForm at H
  refine zMv_of (L := [some (.ref 120), some (.int x1)]) (by decide) rfl (Nat.le_of_ble_eq_true rfl) rfl ?_
  refine aw_iload_n (q := 1) dX7_isOfForm_0 rfl rfl ?_
  by_cases h1 : x1 = 1
  · replace H := zt h1 H
    refine aw_tabIn (q := 44) (off := 43) dX7_isOfForm_1 (by rw [h1]; decide) (by rw [h1]; decide) (by rw [h1]; rfl) (by decide) ?_
    refine aw_aload_n (q := 45) dX7_isOfForm_44 rfl rfl ?_
    refine aw_getr (q := 48) dX7_isOfForm_45 rfl e_X7_204 (by decide) (o_X7 sg s) rfl ?_
    refine aw_iconst (q := 49) (v := 2) dX7_isOfForm_48 rfl (by decide) ?_
    refine aw_icmp_neP (q := 52) (t := 64) dX7_isOfForm_49 rfl (by decide) (fun h8 => ?_) (fun h8 => ?_)
    · replace H := zt h8 H
      refine aw_aload_n (q := 53) dX7_isOfForm_52 rfl rfl ?_
      refine aw_iconst (q := 54) (v := 0) dX7_isOfForm_53 rfl (by decide) ?_
      obtain ⟨v9, hv9, H⟩ := zbd H
      refine aw_cv (M' := M_X7_areUnlike) (as := [.int 0]) (q := 57) dX7_isOfForm_54 rfl W_X7_areUnlike k_X7_223 i_X7_areUnlike v_X7_areUnlike (by decide) (o_X7 sg s) rfl rfl rfl (by decide) (Nat.le_of_ble_eq_true rfl) (c_X7_areUnlike sg s 0 hv9) (Nat.le_refl _) (Nat.le_refl _) ?_
      rintro r9 h9 ⟨rfl, rfl⟩
      refine aw_ifeqB (q := 60) (t := 64) dX7_isOfForm_57 rfl (by decide) (fun h10 => ?_) (fun h10 => ?_)
      · replace H := zt h10 H
        refine aw_iconst (q := 61) (v := 1) dX7_isOfForm_60 rfl (by decide) ?_
        refine aw_goto (q := 65) dX7_isOfForm_61 (by decide) ?_
        cases H
        exact aw_ret dX7_isOfForm_65 rfl rfl rfl rfl ⟨rfl, rfl⟩
      · replace H := zf h10 H
        refine aw_iconst (q := 65) (v := 0) dX7_isOfForm_64 rfl (by decide) ?_
        cases H
        exact aw_ret dX7_isOfForm_65 rfl rfl rfl rfl ⟨rfl, rfl⟩
    · replace H := zf h8 H
      refine aw_iconst (q := 65) (v := 0) dX7_isOfForm_64 rfl (by decide) ?_
      cases H
      exact aw_ret dX7_isOfForm_65 rfl rfl rfl rfl ⟨rfl, rfl⟩
  · replace H := zf h1 H
    by_cases h2 : x1 = 2
    · replace H := zt h2 H
      refine aw_tabIn (q := 146) (off := 145) dX7_isOfForm_1 (by rw [h2]; decide) (by rw [h2]; decide) (by rw [h2]; rfl) (by decide) ?_
      refine aw_iload_n (q := 147) dX7_isOfForm_146 rfl rfl ?_
      refine aw_iconst (q := 148) (v := (-1)) dX7_isOfForm_147 rfl (by decide) ?_
      refine aw_icmp_eq (q := 151) (t := 163) dX7_isOfForm_148 rfl (by decide) (fun h11 => ?_) (fun h11 => ?_)
      · replace H := zt h11 H
        refine aw_iconst (q := 164) (v := 0) dX7_isOfForm_163 rfl (by decide) ?_
        cases H
        exact aw_ret dX7_isOfForm_164 rfl rfl rfl rfl ⟨rfl, rfl⟩
      · replace H := zf h11 H
        refine aw_aload_n (q := 152) dX7_isOfForm_151 rfl rfl ?_
        refine aw_getr (q := 155) dX7_isOfForm_152 rfl e_X7_204 (by decide) (o_X7 sg s) rfl ?_
        refine aw_iconst (q := 156) (v := 1) dX7_isOfForm_155 rfl (by decide) ?_
        refine aw_icmp_neP (q := 159) (t := 163) dX7_isOfForm_156 rfl (by decide) (fun h12 => ?_) (fun h12 => ?_)
        · replace H := zt h12 H
          refine aw_iconst (q := 160) (v := 1) dX7_isOfForm_159 rfl (by decide) ?_
          refine aw_goto (q := 164) dX7_isOfForm_160 (by decide) ?_
          cases H
          exact aw_ret dX7_isOfForm_164 rfl rfl rfl rfl ⟨rfl, rfl⟩
        · replace H := zf h12 H
          refine aw_iconst (q := 164) (v := 0) dX7_isOfForm_163 rfl (by decide) ?_
          cases H
          exact aw_ret dX7_isOfForm_164 rfl rfl rfl rfl ⟨rfl, rfl⟩
    · replace H := zf h2 H
      by_cases h3 : x1 = 3
      · replace H := zt h3 H
        refine aw_tabIn (q := 146) (off := 145) dX7_isOfForm_1 (by rw [h3]; decide) (by rw [h3]; decide) (by rw [h3]; rfl) (by decide) ?_
        refine aw_iload_n (q := 147) dX7_isOfForm_146 rfl rfl ?_
        refine aw_iconst (q := 148) (v := (-1)) dX7_isOfForm_147 rfl (by decide) ?_
        refine aw_icmp_eq (q := 151) (t := 163) dX7_isOfForm_148 rfl (by decide) (fun h13 => ?_) (fun h13 => ?_)
        · replace H := zt h13 H
          refine aw_iconst (q := 164) (v := 0) dX7_isOfForm_163 rfl (by decide) ?_
          cases H
          exact aw_ret dX7_isOfForm_164 rfl rfl rfl rfl ⟨rfl, rfl⟩
        · replace H := zf h13 H
          refine aw_aload_n (q := 152) dX7_isOfForm_151 rfl rfl ?_
          refine aw_getr (q := 155) dX7_isOfForm_152 rfl e_X7_204 (by decide) (o_X7 sg s) rfl ?_
          refine aw_iconst (q := 156) (v := 1) dX7_isOfForm_155 rfl (by decide) ?_
          refine aw_icmp_neP (q := 159) (t := 163) dX7_isOfForm_156 rfl (by decide) (fun h14 => ?_) (fun h14 => ?_)
          · replace H := zt h14 H
            refine aw_iconst (q := 160) (v := 1) dX7_isOfForm_159 rfl (by decide) ?_
            refine aw_goto (q := 164) dX7_isOfForm_160 (by decide) ?_
            cases H
            exact aw_ret dX7_isOfForm_164 rfl rfl rfl rfl ⟨rfl, rfl⟩
          · replace H := zf h14 H
            refine aw_iconst (q := 164) (v := 0) dX7_isOfForm_163 rfl (by decide) ?_
            cases H
            exact aw_ret dX7_isOfForm_164 rfl rfl rfl rfl ⟨rfl, rfl⟩
      · replace H := zf h3 H
        by_cases h4 : x1 = 4
        · replace H := zt h4 H
          refine aw_tabIn (q := 146) (off := 145) dX7_isOfForm_1 (by rw [h4]; decide) (by rw [h4]; decide) (by rw [h4]; rfl) (by decide) ?_
          refine aw_iload_n (q := 147) dX7_isOfForm_146 rfl rfl ?_
          refine aw_iconst (q := 148) (v := (-1)) dX7_isOfForm_147 rfl (by decide) ?_
          refine aw_icmp_eq (q := 151) (t := 163) dX7_isOfForm_148 rfl (by decide) (fun h15 => ?_) (fun h15 => ?_)
          · replace H := zt h15 H
            refine aw_iconst (q := 164) (v := 0) dX7_isOfForm_163 rfl (by decide) ?_
            cases H
            exact aw_ret dX7_isOfForm_164 rfl rfl rfl rfl ⟨rfl, rfl⟩
          · replace H := zf h15 H
            refine aw_aload_n (q := 152) dX7_isOfForm_151 rfl rfl ?_
            refine aw_getr (q := 155) dX7_isOfForm_152 rfl e_X7_204 (by decide) (o_X7 sg s) rfl ?_
            refine aw_iconst (q := 156) (v := 1) dX7_isOfForm_155 rfl (by decide) ?_
            refine aw_icmp_neP (q := 159) (t := 163) dX7_isOfForm_156 rfl (by decide) (fun h16 => ?_) (fun h16 => ?_)
            · replace H := zt h16 H
              refine aw_iconst (q := 160) (v := 1) dX7_isOfForm_159 rfl (by decide) ?_
              refine aw_goto (q := 164) dX7_isOfForm_160 (by decide) ?_
              cases H
              exact aw_ret dX7_isOfForm_164 rfl rfl rfl rfl ⟨rfl, rfl⟩
            · replace H := zf h16 H
              refine aw_iconst (q := 164) (v := 0) dX7_isOfForm_163 rfl (by decide) ?_
              cases H
              exact aw_ret dX7_isOfForm_164 rfl rfl rfl rfl ⟨rfl, rfl⟩
        · replace H := zf h4 H
          by_cases h5 : x1 = 5
          · replace H := zt h5 H
            refine aw_tabIn (q := 66) (off := 65) dX7_isOfForm_1 (by rw [h5]; decide) (by rw [h5]; decide) (by rw [h5]; rfl) (by decide) ?_
            refine aw_aload_n (q := 67) dX7_isOfForm_66 rfl rfl ?_
            refine aw_getr (q := 70) dX7_isOfForm_67 rfl e_X7_204 (by decide) (o_X7 sg s) rfl ?_
            refine aw_iconst (q := 71) (v := 2) dX7_isOfForm_70 rfl (by decide) ?_
            refine aw_iconst (q := 72) (v := 5) dX7_isOfForm_71 rfl (by decide) ?_
            refine aw_cs (M' := M_X7_isIn) (as := [.int (s 0 10), .int 2, .int 5]) (q := 75) dX7_isOfForm_72 rfl W_X7_isIn k_X7_45 s_X7_isIn rfl rfl (by decide) (Nat.le_of_ble_eq_true rfl) (c_X7_isIn (zT sg s) (s 0 10) 2 5) (Nat.le_refl _) (Nat.le_refl _) ?_
            rintro r9 h9 ⟨rfl, rfl⟩
            refine aw_ifeqB (q := 78) (t := 90) dX7_isOfForm_75 rfl (by decide) (fun h17 => ?_) (fun h17 => ?_)
            · replace H := zt h17 H
              refine aw_aload_n (q := 79) dX7_isOfForm_78 rfl rfl ?_
              refine aw_iconst (q := 80) (v := 0) dX7_isOfForm_79 rfl (by decide) ?_
              obtain ⟨v18, hv18, H⟩ := zbd H
              refine aw_cv (M' := M_X7_areUnlike) (as := [.int 0]) (q := 83) dX7_isOfForm_80 rfl W_X7_areUnlike k_X7_223 i_X7_areUnlike v_X7_areUnlike (by decide) (o_X7 sg s) rfl rfl rfl (by decide) (Nat.le_of_ble_eq_true rfl) (c_X7_areUnlike sg s 0 hv18) (Nat.le_refl _) (Nat.le_refl _) ?_
              rintro r9 h9 ⟨rfl, rfl⟩
              refine aw_ifeqB (q := 86) (t := 90) dX7_isOfForm_83 rfl (by decide) (fun h19 => ?_) (fun h19 => ?_)
              · replace H := zt h19 H
                refine aw_iconst (q := 87) (v := 1) dX7_isOfForm_86 rfl (by decide) ?_
                refine aw_goto (q := 91) dX7_isOfForm_87 (by decide) ?_
                cases H
                exact aw_ret dX7_isOfForm_91 rfl rfl rfl rfl ⟨rfl, rfl⟩
              · replace H := zf h19 H
                refine aw_iconst (q := 91) (v := 0) dX7_isOfForm_90 rfl (by decide) ?_
                cases H
                exact aw_ret dX7_isOfForm_91 rfl rfl rfl rfl ⟨rfl, rfl⟩
            · replace H := zf h17 H
              refine aw_iconst (q := 91) (v := 0) dX7_isOfForm_90 rfl (by decide) ?_
              cases H
              exact aw_ret dX7_isOfForm_91 rfl rfl rfl rfl ⟨rfl, rfl⟩
          · replace H := zf h5 H
            by_cases h6 : x1 = 6
            · replace H := zt h6 H
              refine aw_tabIn (q := 92) (off := 91) dX7_isOfForm_1 (by rw [h6]; decide) (by rw [h6]; decide) (by rw [h6]; rfl) (by decide) ?_
              refine aw_aload_n (q := 93) dX7_isOfForm_92 rfl rfl ?_
              refine aw_getr (q := 96) dX7_isOfForm_93 rfl e_X7_204 (by decide) (o_X7 sg s) rfl ?_
              refine aw_iconst (q := 97) (v := 2) dX7_isOfForm_96 rfl (by decide) ?_
              refine aw_bipush (q := 99) (v := 7) dX7_isOfForm_97 rfl (by decide) ?_
              refine aw_cs (M' := M_X7_isIn) (as := [.int (s 0 10), .int 2, .int 7]) (q := 102) dX7_isOfForm_99 rfl W_X7_isIn k_X7_45 s_X7_isIn rfl rfl (by decide) (Nat.le_of_ble_eq_true rfl) (c_X7_isIn (zT sg s) (s 0 10) 2 7) (Nat.le_refl _) (Nat.le_refl _) ?_
              rintro r9 h9 ⟨rfl, rfl⟩
              refine aw_ifeqB (q := 105) (t := 117) dX7_isOfForm_102 rfl (by decide) (fun h20 => ?_) (fun h20 => ?_)
              · replace H := zt h20 H
                refine aw_aload_n (q := 106) dX7_isOfForm_105 rfl rfl ?_
                refine aw_iconst (q := 107) (v := 0) dX7_isOfForm_106 rfl (by decide) ?_
                obtain ⟨v21, hv21, H⟩ := zbd H
                refine aw_cv (M' := M_X7_areUnlike) (as := [.int 0]) (q := 110) dX7_isOfForm_107 rfl W_X7_areUnlike k_X7_223 i_X7_areUnlike v_X7_areUnlike (by decide) (o_X7 sg s) rfl rfl rfl (by decide) (Nat.le_of_ble_eq_true rfl) (c_X7_areUnlike sg s 0 hv21) (Nat.le_refl _) (Nat.le_refl _) ?_
                rintro r9 h9 ⟨rfl, rfl⟩
                refine aw_ifeqB (q := 113) (t := 117) dX7_isOfForm_110 rfl (by decide) (fun h22 => ?_) (fun h22 => ?_)
                · replace H := zt h22 H
                  refine aw_iconst (q := 114) (v := 1) dX7_isOfForm_113 rfl (by decide) ?_
                  refine aw_goto (q := 118) dX7_isOfForm_114 (by decide) ?_
                  cases H
                  exact aw_ret dX7_isOfForm_118 rfl rfl rfl rfl ⟨rfl, rfl⟩
                · replace H := zf h22 H
                  refine aw_iconst (q := 118) (v := 0) dX7_isOfForm_117 rfl (by decide) ?_
                  cases H
                  exact aw_ret dX7_isOfForm_118 rfl rfl rfl rfl ⟨rfl, rfl⟩
              · replace H := zf h20 H
                refine aw_iconst (q := 118) (v := 0) dX7_isOfForm_117 rfl (by decide) ?_
                cases H
                exact aw_ret dX7_isOfForm_118 rfl rfl rfl rfl ⟨rfl, rfl⟩
            · replace H := zf h6 H
              by_cases h7 : x1 = 7
              · replace H := zt h7 H
                refine aw_tabIn (q := 119) (off := 118) dX7_isOfForm_1 (by rw [h7]; decide) (by rw [h7]; decide) (by rw [h7]; rfl) (by decide) ?_
                refine aw_aload_n (q := 120) dX7_isOfForm_119 rfl rfl ?_
                refine aw_getr (q := 123) dX7_isOfForm_120 rfl e_X7_204 (by decide) (o_X7 sg s) rfl ?_
                refine aw_iconst (q := 124) (v := 1) dX7_isOfForm_123 rfl (by decide) ?_
                refine aw_bipush (q := 126) (v := 8) dX7_isOfForm_124 rfl (by decide) ?_
                refine aw_cs (M' := M_X7_isIn) (as := [.int (s 0 10), .int 1, .int 8]) (q := 129) dX7_isOfForm_126 rfl W_X7_isIn k_X7_45 s_X7_isIn rfl rfl (by decide) (Nat.le_of_ble_eq_true rfl) (c_X7_isIn (zT sg s) (s 0 10) 1 8) (Nat.le_refl _) (Nat.le_refl _) ?_
                rintro r9 h9 ⟨rfl, rfl⟩
                refine aw_ifeqB (q := 132) (t := 144) dX7_isOfForm_129 rfl (by decide) (fun h23 => ?_) (fun h23 => ?_)
                · replace H := zt h23 H
                  refine aw_aload_n (q := 133) dX7_isOfForm_132 rfl rfl ?_
                  refine aw_iconst (q := 134) (v := 1) dX7_isOfForm_133 rfl (by decide) ?_
                  obtain ⟨v24, hv24, H⟩ := zbd H
                  refine aw_cv (M' := M_X7_areUnlike) (as := [.int 1]) (q := 137) dX7_isOfForm_134 rfl W_X7_areUnlike k_X7_223 i_X7_areUnlike v_X7_areUnlike (by decide) (o_X7 sg s) rfl rfl rfl (by decide) (Nat.le_of_ble_eq_true rfl) (c_X7_areUnlike sg s 1 hv24) (Nat.le_refl _) (Nat.le_refl _) ?_
                  rintro r9 h9 ⟨rfl, rfl⟩
                  refine aw_ifeqB (q := 140) (t := 144) dX7_isOfForm_137 rfl (by decide) (fun h25 => ?_) (fun h25 => ?_)
                  · replace H := zt h25 H
                    refine aw_iconst (q := 141) (v := 1) dX7_isOfForm_140 rfl (by decide) ?_
                    refine aw_goto (q := 145) dX7_isOfForm_141 (by decide) ?_
                    cases H
                    exact aw_ret dX7_isOfForm_145 rfl rfl rfl rfl ⟨rfl, rfl⟩
                  · replace H := zf h25 H
                    refine aw_iconst (q := 145) (v := 0) dX7_isOfForm_144 rfl (by decide) ?_
                    cases H
                    exact aw_ret dX7_isOfForm_145 rfl rfl rfl rfl ⟨rfl, rfl⟩
                · replace H := zf h23 H
                  refine aw_iconst (q := 145) (v := 0) dX7_isOfForm_144 rfl (by decide) ?_
                  cases H
                  exact aw_ret dX7_isOfForm_145 rfl rfl rfl rfl ⟨rfl, rfl⟩
              · replace H := zf h7 H
                refine aw_tabOut (q := 146) dX7_isOfForm_1 (by have w1 : ¬ x1.toInt = 1 := zne h1; have w2 : ¬ x1.toInt = 2 := zne h2; have w3 : ¬ x1.toInt = 3 := zne h3; have w4 : ¬ x1.toInt = 4 := zne h4; have w5 : ¬ x1.toInt = 5 := zne h5; have w6 : ¬ x1.toInt = 6 := zne h6; have w7 : ¬ x1.toInt = 7 := zne h7; omega) (by decide) ?_
                refine aw_iload_n (q := 147) dX7_isOfForm_146 rfl rfl ?_
                refine aw_iconst (q := 148) (v := (-1)) dX7_isOfForm_147 rfl (by decide) ?_
                refine aw_icmp_eq (q := 151) (t := 163) dX7_isOfForm_148 rfl (by decide) (fun h26 => ?_) (fun h26 => ?_)
                · replace H := zt h26 H
                  refine aw_iconst (q := 164) (v := 0) dX7_isOfForm_163 rfl (by decide) ?_
                  cases H
                  exact aw_ret dX7_isOfForm_164 rfl rfl rfl rfl ⟨rfl, rfl⟩
                · replace H := zf h26 H
                  refine aw_aload_n (q := 152) dX7_isOfForm_151 rfl rfl ?_
                  refine aw_getr (q := 155) dX7_isOfForm_152 rfl e_X7_204 (by decide) (o_X7 sg s) rfl ?_
                  refine aw_iconst (q := 156) (v := 1) dX7_isOfForm_155 rfl (by decide) ?_
                  refine aw_icmp_neP (q := 159) (t := 163) dX7_isOfForm_156 rfl (by decide) (fun h27 => ?_) (fun h27 => ?_)
                  · replace H := zt h27 H
                    refine aw_iconst (q := 160) (v := 1) dX7_isOfForm_159 rfl (by decide) ?_
                    refine aw_goto (q := 164) dX7_isOfForm_160 (by decide) ?_
                    cases H
                    exact aw_ret dX7_isOfForm_164 rfl rfl rfl rfl ⟨rfl, rfl⟩
                  · replace H := zf h27 H
                    refine aw_iconst (q := 164) (v := 0) dX7_isOfForm_163 rfl (by decide) ?_
                    cases H
                    exact aw_ret dX7_isOfForm_164 rfl rfl rfl rfl ⟨rfl, rfl⟩
def f_X7_areThere_21 : Nat → zr → Int32 → Int32 → Bool → Int32 → Option (Bool)
  | 0, _, _, _, _, _ => none
  | k + 1, s, x1, x2, x3, x4 =>
    if (s 0 10) ≤ x4 then (
      some x3
    ) else (
      if x3 = true then (
        if zin x4 9 = true then
        if x1 = 7 then (
          if x4 ≤ 0 then (
            if x2 ≤ (s 7 x4.toNatClampNeg) then (
              f_X7_areThere_21 k s x1 x2 false (x4 + 1)
            ) else (
              f_X7_areThere_21 k s x1 x2 true (x4 + 1)
            )
          ) else (
            if (7 : Int32) ≤ (s 7 x4.toNatClampNeg) then (
              f_X7_areThere_21 k s x1 x2 false (x4 + 1)
            ) else (
              f_X7_areThere_21 k s x1 x2 true (x4 + 1)
            )
          )
        ) else (
          if x2 ≤ (s 7 x4.toNatClampNeg) then (
            f_X7_areThere_21 k s x1 x2 false (x4 + 1)
          ) else (
            f_X7_areThere_21 k s x1 x2 true (x4 + 1)
          )
        )
        else none
      ) else (
        f_X7_areThere_21 k s x1 x2 false (x4 + 1)
      )
    )
set_option maxHeartbeats 4000000 in
set_option maxRecDepth 100000 in
theorem L_X7_areThere_21 {G : zG} {sl : Nat} {P : Option Value → zH → Prop} (sg : zs) (x1 : Int32) (x2 : Int32) : ∀ (k : Nat) (s : zr) (x3 : Bool) (x4 : Int32) (e : Bool), f_X7_areThere_21 k s x1 x2 x3 x4 = some e → (AV G M_X7_areThere 1 sl P 73 [none, none, none, some (.int (zb e)), none] [] (zT sg s)) → AV G M_X7_areThere 1 sl P 21 [some (.ref 120), some (.int x1), some (.int x2), some (.int (zb x3)), some (.int x4)] [] (zT sg s) := by
  intro k
  induction k with
  | zero =>
    intro s x3 x4 e H
    unfold f_X7_areThere_21 at H
    cases H
  | succ k ih =>
    intro s x3 x4 e H KE
    unfold f_X7_areThere_21 at H
    refine aw_iload (q := 23) dX7_areThere_21 rfl rfl ?_
    refine aw_aload_n (q := 24) dX7_areThere_23 rfl rfl ?_
    refine aw_getr (q := 27) dX7_areThere_24 rfl e_X7_204 (by decide) (o_X7 sg s) rfl ?_
    refine aw_icmp_ge (q := 30) (t := 73) dX7_areThere_27 rfl (by decide) (fun h1 => ?_) (fun h1 => ?_)
    · replace H := zt h1 H
      cases H
      exact aw_fewer (L' := [none, none, none, some (.int (zb x3)), none]) ⟨rfl, trivial⟩ KE
    · replace H := zf h1 H
      refine aw_iload_n (q := 31) dX7_areThere_30 rfl rfl ?_
      refine aw_ifeqB (q := 34) (t := 65) dX7_areThere_31 rfl (by decide) (fun h2 => ?_) (fun h2 => ?_)
      · replace H := zt h2 H
        refine aw_aload_n (q := 35) dX7_areThere_34 rfl rfl ?_
        refine aw_getr (q := 38) dX7_areThere_35 rfl e_X7_28 (by decide) (o_X7 sg s) rfl ?_
        refine aw_iload (q := 40) dX7_areThere_38 rfl rfl ?_
        obtain ⟨h3, H⟩ := zio H
        refine aw_iald' (q := 41) (v := s 7 x4.toNatClampNeg) dX7_areThere_40 rfl (by decide) (o_X7a11 sg s) (zin_in h3) rfl ?_
        refine aw_iload_n (q := 42) dX7_areThere_41 rfl rfl ?_
        refine aw_bipush (q := 44) (v := 7) dX7_areThere_42 rfl (by decide) ?_
        refine aw_icmp_neP (q := 47) (t := 57) dX7_areThere_44 rfl (by decide) (fun h4 => ?_) (fun h4 => ?_)
        · replace H := zt h4 H
          refine aw_iload (q := 49) dX7_areThere_47 rfl rfl ?_
          refine aw_if_le (q := 52) (t := 57) dX7_areThere_49 rfl (by decide) (fun h5 => ?_) (fun h5 => ?_)
          · replace H := zt h5 H
            refine aw_iload_n (q := 58) dX7_areThere_57 rfl rfl ?_
            refine aw_icmp_ge (q := 61) (t := 65) dX7_areThere_58 rfl (by decide) (fun h6 => ?_) (fun h6 => ?_)
            · replace H := zt h6 H
              refine aw_iconst (q := 66) (v := 0) dX7_areThere_65 rfl (by decide) ?_
              refine aw_istore_n (q := 67) (L' := [some (.ref 120), some (.int x1), some (.int x2), some (.int 0), some (.int x4)]) dX7_areThere_66 rfl (by decide) rfl rfl ?_
              refine aw_iinc (q := 70) (v := x4 + 1) (L' := [some (.ref 120), some (.int x1), some (.int x2), some (.int 0), some (.int (x4 + 1))]) dX7_areThere_67 rfl rfl (by first | rfl | decide) (by decide) rfl rfl ?_
              refine aw_goto (q := 21) dX7_areThere_70 (by decide) ?_
              exact aw_fewer (L' := [some (.ref 120), some (.int x1), some (.int x2), some (.int (zb false)), some (.int (x4 + 1))]) ⟨rfl, ⟨rfl, ⟨rfl, ⟨rfl, ⟨rfl, trivial⟩⟩⟩⟩⟩ (ih s false (x4 + 1) _ H KE)
            · replace H := zf h6 H
              refine aw_iconst (q := 62) (v := 1) dX7_areThere_61 rfl (by decide) ?_
              refine aw_goto (q := 66) dX7_areThere_62 (by decide) ?_
              refine aw_istore_n (q := 67) (L' := [some (.ref 120), some (.int x1), some (.int x2), some (.int 1), some (.int x4)]) dX7_areThere_66 rfl (by decide) rfl rfl ?_
              refine aw_iinc (q := 70) (v := x4 + 1) (L' := [some (.ref 120), some (.int x1), some (.int x2), some (.int 1), some (.int (x4 + 1))]) dX7_areThere_67 rfl rfl (by first | rfl | decide) (by decide) rfl rfl ?_
              refine aw_goto (q := 21) dX7_areThere_70 (by decide) ?_
              exact aw_fewer (L' := [some (.ref 120), some (.int x1), some (.int x2), some (.int (zb true)), some (.int (x4 + 1))]) ⟨rfl, ⟨rfl, ⟨rfl, ⟨rfl, ⟨rfl, trivial⟩⟩⟩⟩⟩ (ih s true (x4 + 1) _ H KE)
          · replace H := zf h5 H
            refine aw_bipush (q := 54) (v := 7) dX7_areThere_52 rfl (by decide) ?_
            refine aw_goto (q := 58) dX7_areThere_54 (by decide) ?_
            refine aw_icmp_ge (q := 61) (t := 65) dX7_areThere_58 rfl (by decide) (fun h7 => ?_) (fun h7 => ?_)
            · replace H := zt h7 H
              refine aw_iconst (q := 66) (v := 0) dX7_areThere_65 rfl (by decide) ?_
              refine aw_istore_n (q := 67) (L' := [some (.ref 120), some (.int x1), some (.int x2), some (.int 0), some (.int x4)]) dX7_areThere_66 rfl (by decide) rfl rfl ?_
              refine aw_iinc (q := 70) (v := x4 + 1) (L' := [some (.ref 120), some (.int x1), some (.int x2), some (.int 0), some (.int (x4 + 1))]) dX7_areThere_67 rfl rfl (by first | rfl | decide) (by decide) rfl rfl ?_
              refine aw_goto (q := 21) dX7_areThere_70 (by decide) ?_
              exact aw_fewer (L' := [some (.ref 120), some (.int x1), some (.int x2), some (.int (zb false)), some (.int (x4 + 1))]) ⟨rfl, ⟨rfl, ⟨rfl, ⟨rfl, ⟨rfl, trivial⟩⟩⟩⟩⟩ (ih s false (x4 + 1) _ H KE)
            · replace H := zf h7 H
              refine aw_iconst (q := 62) (v := 1) dX7_areThere_61 rfl (by decide) ?_
              refine aw_goto (q := 66) dX7_areThere_62 (by decide) ?_
              refine aw_istore_n (q := 67) (L' := [some (.ref 120), some (.int x1), some (.int x2), some (.int 1), some (.int x4)]) dX7_areThere_66 rfl (by decide) rfl rfl ?_
              refine aw_iinc (q := 70) (v := x4 + 1) (L' := [some (.ref 120), some (.int x1), some (.int x2), some (.int 1), some (.int (x4 + 1))]) dX7_areThere_67 rfl rfl (by first | rfl | decide) (by decide) rfl rfl ?_
              refine aw_goto (q := 21) dX7_areThere_70 (by decide) ?_
              exact aw_fewer (L' := [some (.ref 120), some (.int x1), some (.int x2), some (.int (zb true)), some (.int (x4 + 1))]) ⟨rfl, ⟨rfl, ⟨rfl, ⟨rfl, ⟨rfl, trivial⟩⟩⟩⟩⟩ (ih s true (x4 + 1) _ H KE)
        · replace H := zf h4 H
          refine aw_iload_n (q := 58) dX7_areThere_57 rfl rfl ?_
          refine aw_icmp_ge (q := 61) (t := 65) dX7_areThere_58 rfl (by decide) (fun h8 => ?_) (fun h8 => ?_)
          · replace H := zt h8 H
            refine aw_iconst (q := 66) (v := 0) dX7_areThere_65 rfl (by decide) ?_
            refine aw_istore_n (q := 67) (L' := [some (.ref 120), some (.int x1), some (.int x2), some (.int 0), some (.int x4)]) dX7_areThere_66 rfl (by decide) rfl rfl ?_
            refine aw_iinc (q := 70) (v := x4 + 1) (L' := [some (.ref 120), some (.int x1), some (.int x2), some (.int 0), some (.int (x4 + 1))]) dX7_areThere_67 rfl rfl (by first | rfl | decide) (by decide) rfl rfl ?_
            refine aw_goto (q := 21) dX7_areThere_70 (by decide) ?_
            exact aw_fewer (L' := [some (.ref 120), some (.int x1), some (.int x2), some (.int (zb false)), some (.int (x4 + 1))]) ⟨rfl, ⟨rfl, ⟨rfl, ⟨rfl, ⟨rfl, trivial⟩⟩⟩⟩⟩ (ih s false (x4 + 1) _ H KE)
          · replace H := zf h8 H
            refine aw_iconst (q := 62) (v := 1) dX7_areThere_61 rfl (by decide) ?_
            refine aw_goto (q := 66) dX7_areThere_62 (by decide) ?_
            refine aw_istore_n (q := 67) (L' := [some (.ref 120), some (.int x1), some (.int x2), some (.int 1), some (.int x4)]) dX7_areThere_66 rfl (by decide) rfl rfl ?_
            refine aw_iinc (q := 70) (v := x4 + 1) (L' := [some (.ref 120), some (.int x1), some (.int x2), some (.int 1), some (.int (x4 + 1))]) dX7_areThere_67 rfl rfl (by first | rfl | decide) (by decide) rfl rfl ?_
            refine aw_goto (q := 21) dX7_areThere_70 (by decide) ?_
            exact aw_fewer (L' := [some (.ref 120), some (.int x1), some (.int x2), some (.int (zb true)), some (.int (x4 + 1))]) ⟨rfl, ⟨rfl, ⟨rfl, ⟨rfl, ⟨rfl, trivial⟩⟩⟩⟩⟩ (ih s true (x4 + 1) _ H KE)
      · replace H := zf h2 H
        refine aw_iconst (q := 66) (v := 0) dX7_areThere_65 rfl (by decide) ?_
        refine aw_istore_n (q := 67) (L' := [some (.ref 120), some (.int x1), some (.int x2), some (.int 0), some (.int x4)]) dX7_areThere_66 rfl (by decide) rfl rfl ?_
        refine aw_iinc (q := 70) (v := x4 + 1) (L' := [some (.ref 120), some (.int x1), some (.int x2), some (.int 0), some (.int (x4 + 1))]) dX7_areThere_67 rfl rfl (by first | rfl | decide) (by decide) rfl rfl ?_
        refine aw_goto (q := 21) dX7_areThere_70 (by decide) ?_
        exact aw_fewer (L' := [some (.ref 120), some (.int x1), some (.int x2), some (.int (zb false)), some (.int (x4 + 1))]) ⟨rfl, ⟨rfl, ⟨rfl, ⟨rfl, ⟨rfl, trivial⟩⟩⟩⟩⟩ (ih s false (x4 + 1) _ H KE)
def f_X7_areThere (s : zr) (x1 : Int32) : Option Bool :=
  if (5 : Int32) ≤ x1 then (
    Option.bind (f_X7_areThere_21 zFu s x1 16 true 0) fun e2 =>
    some e2
  ) else (
    zlt (f_X7_manyOf s x1 : Int32) fun y3 =>
    Option.bind (f_X7_areThere_21 zFu s x1 y3 true 0) fun e5 =>
    some e5
  )
set_option maxHeartbeats 4000000 in
set_option maxRecDepth 100000 in
theorem c_X7_areThere {G : zG} {sl : Nat} (sg : zs) (s : zr) (x1 : Int32) {v9 : Bool} (H : f_X7_areThere s x1 = some v9) : zMv G 1 M_X7_areThere [.ref 120, .int x1] sl (zT sg s) (fun r h' => r = some (.int (zb v9)) ∧ h' = (zT sg s)) := by
  unfold f_X7_areThere at H
  refine zMv_of (L := [some (.ref 120), some (.int x1), none, none, none]) (by decide) rfl (Nat.le_of_ble_eq_true rfl) rfl ?_
  refine aw_iload_n (q := 1) dX7_areThere_0 rfl rfl ?_
  refine aw_iconst (q := 2) (v := 5) dX7_areThere_1 rfl (by decide) ?_
  refine aw_icmp_ge (q := 5) (t := 13) dX7_areThere_2 rfl (by decide) (fun h1 => ?_) (fun h1 => ?_)
  · replace H := zt h1 H
    refine aw_bipush (q := 15) (v := 16) dX7_areThere_13 rfl (by decide) ?_
    refine aw_istore_n (q := 16) (L' := [some (.ref 120), some (.int x1), some (.int 16), none, none]) dX7_areThere_15 rfl (by decide) rfl rfl ?_
    refine aw_iconst (q := 17) (v := 1) dX7_areThere_16 rfl (by decide) ?_
    refine aw_istore_n (q := 18) (L' := [some (.ref 120), some (.int x1), some (.int 16), some (.int 1), none]) dX7_areThere_17 rfl (by decide) rfl rfl ?_
    refine aw_iconst (q := 19) (v := 0) dX7_areThere_18 rfl (by decide) ?_
    refine aw_istore (q := 21) (L' := [some (.ref 120), some (.int x1), some (.int 16), some (.int 1), some (.int 0)]) dX7_areThere_19 rfl (by decide) rfl rfl ?_
    obtain ⟨e2, he2, H⟩ := zbd H
    refine aw_fewer (L' := [some (.ref 120), some (.int x1), some (.int 16), some (.int (zb true)), some (.int 0)]) ⟨rfl, ⟨rfl, ⟨rfl, ⟨rfl, ⟨rfl, trivial⟩⟩⟩⟩⟩ ?_
    refine L_X7_areThere_21 sg x1 16 zFu s true 0 e2 he2 ?_
    refine aw_iload_n (q := 74) dX7_areThere_73 rfl rfl ?_
    cases H
    exact aw_retB dX7_areThere_74 rfl rfl rfl ⟨rfl, rfl⟩
  · replace H := zf h1 H
    refine aw_aload_n (q := 6) dX7_areThere_5 rfl rfl ?_
    refine aw_iload_n (q := 7) dX7_areThere_6 rfl rfl ?_
    refine aw_cv (M' := M_X7_manyOf) (as := [.int x1]) (q := 10) dX7_areThere_7 rfl W_X7_manyOf k_X7_77 i_X7_manyOf v_X7_manyOf (by decide) (o_X7 sg s) rfl rfl rfl (by decide) (Nat.le_of_ble_eq_true rfl) (c_X7_manyOf sg s x1) (Nat.le_refl _) (Nat.le_refl _) ?_
    rintro r9 h9 ⟨rfl, rfl⟩
    refine aw_goto (q := 15) dX7_areThere_10 (by decide) ?_
    obtain ⟨y3, q4, H⟩ := zltd H
    refine aw_nm q4 ?_
    refine aw_istore_n (q := 16) (L' := [some (.ref 120), some (.int x1), some (.int y3), none, none]) dX7_areThere_15 rfl (by decide) rfl rfl ?_
    refine aw_iconst (q := 17) (v := 1) dX7_areThere_16 rfl (by decide) ?_
    refine aw_istore_n (q := 18) (L' := [some (.ref 120), some (.int x1), some (.int y3), some (.int 1), none]) dX7_areThere_17 rfl (by decide) rfl rfl ?_
    refine aw_iconst (q := 19) (v := 0) dX7_areThere_18 rfl (by decide) ?_
    refine aw_istore (q := 21) (L' := [some (.ref 120), some (.int x1), some (.int y3), some (.int 1), some (.int 0)]) dX7_areThere_19 rfl (by decide) rfl rfl ?_
    obtain ⟨e5, he5, H⟩ := zbd H
    refine aw_fewer (L' := [some (.ref 120), some (.int x1), some (.int y3), some (.int (zb true)), some (.int 0)]) ⟨rfl, ⟨rfl, ⟨rfl, ⟨rfl, ⟨rfl, trivial⟩⟩⟩⟩⟩ ?_
    refine L_X7_areThere_21 sg x1 y3 zFu s true 0 e5 he5 ?_
    refine aw_iload_n (q := 74) dX7_areThere_73 rfl rfl ?_
    cases H
    exact aw_retB dX7_areThere_74 rfl rfl rfl ⟨rfl, rfl⟩
def f_X7_numberSet_4 : Nat → zr → Int32 → Int32 → Option (Int32)
  | 0, _, _, _ => none
  | k + 1, s, x2, x3 =>
    if (s 0 10) ≤ x3 then (
      some x2
    ) else (
      if zin x3 9 = true then
      zlt (x2 ||| ((1 : Int32) <<< ((s 7 x3.toNatClampNeg) &&& 31)) : Int32) fun y3 =>
      f_X7_numberSet_4 k s y3 (x3 + 1)
      else none
    )
set_option maxHeartbeats 4000000 in
set_option maxRecDepth 100000 in
theorem L_X7_numberSet_4 {G : zG} {sl : Nat} {P : Option Value → zH → Prop} (sg : zs)  : ∀ (k : Nat) (s : zr) (x2 : Int32) (x3 : Int32) (e : Int32), f_X7_numberSet_4 k s x2 x3 = some e → (AV G M_X7_numberSet 0 sl P 29 [none, none, some (.int e), none] [] (zT sg s)) → AV G M_X7_numberSet 0 sl P 4 [some (.ref 120), none, some (.int x2), some (.int x3)] [] (zT sg s) := by
  intro k
  induction k with
  | zero =>
    intro s x2 x3 e H
    unfold f_X7_numberSet_4 at H
    cases H
  | succ k ih =>
    intro s x2 x3 e H KE
    unfold f_X7_numberSet_4 at H
    refine aw_iload_n (q := 5) dX7_numberSet_4 rfl rfl ?_
    refine aw_aload_n (q := 6) dX7_numberSet_5 rfl rfl ?_
    refine aw_getr (q := 9) dX7_numberSet_6 rfl e_X7_204 (by decide) (o_X7 sg s) rfl ?_
    refine aw_icmp_ge (q := 12) (t := 29) dX7_numberSet_9 rfl (by decide) (fun h1 => ?_) (fun h1 => ?_)
    · replace H := zt h1 H
      cases H
      exact aw_fewer (L' := [none, none, some (.int x2), none]) ⟨rfl, trivial⟩ KE
    · replace H := zf h1 H
      refine aw_iload_n (q := 13) dX7_numberSet_12 rfl rfl ?_
      refine aw_iconst (q := 14) (v := 1) dX7_numberSet_13 rfl (by decide) ?_
      refine aw_aload_n (q := 15) dX7_numberSet_14 rfl rfl ?_
      refine aw_getr (q := 18) dX7_numberSet_15 rfl e_X7_28 (by decide) (o_X7 sg s) rfl ?_
      refine aw_iload_n (q := 19) dX7_numberSet_18 rfl rfl ?_
      obtain ⟨h2, H⟩ := zio H
      refine aw_iald' (q := 20) (v := s 7 x3.toNatClampNeg) dX7_numberSet_19 rfl (by decide) (o_X7a11 sg s) (zin_in h2) rfl ?_
      refine aw_ishl (q := 21) dX7_numberSet_20 rfl ?_
      refine aw_ior (q := 22) dX7_numberSet_21 rfl ?_
      obtain ⟨y3, q4, H⟩ := zltd H
      refine aw_nm q4 ?_
      refine aw_istore_n (q := 23) (L' := [some (.ref 120), none, some (.int y3), some (.int x3)]) dX7_numberSet_22 rfl (by decide) rfl rfl ?_
      refine aw_iinc (q := 26) (v := x3 + 1) (L' := [some (.ref 120), none, some (.int y3), some (.int (x3 + 1))]) dX7_numberSet_23 rfl rfl (by first | rfl | decide) (by decide) rfl rfl ?_
      refine aw_goto (q := 4) dX7_numberSet_26 (by decide) ?_
      exact aw_fewer (L' := [some (.ref 120), none, some (.int y3), some (.int (x3 + 1))]) ⟨rfl, ⟨rfl, ⟨rfl, trivial⟩⟩⟩ (ih s y3 (x3 + 1) _ H KE)
def f_X7_numberSet (s : zr) (x1 : Int32) : Option Int32 :=
  Option.bind (f_X7_numberSet_4 zFu s 0 x1) fun e1 =>
  some e1
set_option maxHeartbeats 4000000 in
set_option maxRecDepth 100000 in
theorem c_X7_numberSet {G : zG} {sl : Nat} (sg : zs) (s : zr) (x1 : Int32) {v9 : Int32} (H : f_X7_numberSet s x1 = some v9) : zMv G 0 M_X7_numberSet [.ref 120, .int x1] sl (zT sg s) (fun r h' => r = some (.int v9) ∧ h' = (zT sg s)) := by
  unfold f_X7_numberSet at H
  refine zMv_of (L := [some (.ref 120), some (.int x1), none, none]) (by decide) rfl (Nat.le_of_ble_eq_true rfl) rfl ?_
  refine aw_iconst (q := 1) (v := 0) dX7_numberSet_0 rfl (by decide) ?_
  refine aw_istore_n (q := 2) (L' := [some (.ref 120), some (.int x1), some (.int 0), none]) dX7_numberSet_1 rfl (by decide) rfl rfl ?_
  refine aw_iload_n (q := 3) dX7_numberSet_2 rfl rfl ?_
  refine aw_istore_n (q := 4) (L' := [some (.ref 120), some (.int x1), some (.int 0), some (.int x1)]) dX7_numberSet_3 rfl (by decide) rfl rfl ?_
  obtain ⟨e1, he1, H⟩ := zbd H
  refine aw_fewer (L' := [some (.ref 120), none, some (.int 0), some (.int x1)]) ⟨rfl, ⟨rfl, ⟨rfl, trivial⟩⟩⟩ ?_
  refine L_X7_numberSet_4 sg  zFu s 0 x1 e1 he1 ?_
  refine aw_iload_n (q := 30) dX7_numberSet_29 rfl rfl ?_
  cases H
  exact aw_ret dX7_numberSet_30 rfl rfl rfl rfl ⟨rfl, rfl⟩
def f_X7_does (s : zr) (x1 : Int32) : Option (Int32 × zr) :=
  if x1 = 7 then (
    Option.bind (f_X7_numberSet s 1) fun v2 =>
    if zin ((72 : Int32) + (s 7 0)) 88 = true then
    zlt (zm s 1 (((72 : Int32) + (s 7 0)).toNatClampNeg) v2) fun s4 =>
    some (0, s4)
    else none
  ) else (
    if x1 = 5 then (
      Option.bind (f_X7_numberSet s 0) fun v7 =>
      Option.bind (f_X7_checksNet s v7) fun v8 =>
      if v8 = 0 then (
        Option.bind (f_X7_numberSet s 0) fun v10 =>
        Option.bind (f_X7_addsNet s v10) fun v11 =>
        some (v11.1, v11.2)
      ) else (
        some (v8, s)
      )
    ) else (
      if x1 = 6 then (
        Option.bind (f_X7_numberSet s 2) fun v13 =>
        Option.bind (f_X7_checksChip s (s 7 0) (s 7 1) v13) fun v14 =>
        if v14 = 0 then (
          Option.bind (f_X7_numberSet s 2) fun v16 =>
          Option.bind (f_X7_addsChip s (s 7 0) (s 7 1) v16) fun v17 =>
          some (v17.1, v17.2)
        ) else (
          some (v14, s)
        )
      ) else (
        zlt (s 7 0 : Int32) fun y18 =>
        if x1 = 1 then (
          if (s 7 1) ≤ (s 7 0) then (
            zlt (s 7 0 : Int32) fun y22 =>
            zlt (s 7 1 : Int32) fun y24 =>
            Option.bind (f_X7_checksFault s x1 y24 y22) fun v26 =>
            if v26 = 0 then (
              Option.bind (f_X7_addsFault s x1 y24 y22) fun v28 =>
              some (v28.1, v28.2)
            ) else (
              some (v26, s)
            )
          ) else (
            zlt (s 7 1 : Int32) fun y29 =>
            zlt (s 7 0 : Int32) fun y31 =>
            Option.bind (f_X7_checksFault s x1 y31 y29) fun v33 =>
            if v33 = 0 then (
              Option.bind (f_X7_addsFault s x1 y31 y29) fun v35 =>
              some (v35.1, v35.2)
            ) else (
              some (v33, s)
            )
          )
        ) else (
          Option.bind (f_X7_checksFault s x1 y18 0) fun v36 =>
          if v36 = 0 then (
            Option.bind (f_X7_addsFault s x1 y18 0) fun v38 =>
            some (v38.1, v38.2)
          ) else (
            some (v36, s)
          )
        )
      )
    )
  )
set_option maxHeartbeats 4000000 in
set_option maxRecDepth 100000 in
theorem c_X7_does {G : zG} {sl : Nat} (sg : zs) (s : zr) (x1 : Int32) {v9 : (Int32 × zr)} (H : f_X7_does s x1 = some v9) : zMv G 4 M_X7_does [.ref 120, .int x1] sl (zT sg s) (fun r h' => r = some (.int v9.1) ∧ h' = zT sg v9.2) := by
  unfold f_X7_does at H
  refine zMv_of (L := [some (.ref 120), some (.int x1), none, none, none]) (by decide) rfl (Nat.le_of_ble_eq_true rfl) rfl ?_
  refine aw_iload_n (q := 1) dX7_does_0 rfl rfl ?_
  refine aw_bipush (q := 3) (v := 7) dX7_does_1 rfl (by decide) ?_
  refine aw_icmp_neP (q := 6) (t := 27) dX7_does_3 rfl (by decide) (fun h1 => ?_) (fun h1 => ?_)
  · replace H := zt h1 H
    refine aw_aload_n (q := 7) dX7_does_6 rfl rfl ?_
    refine aw_getr (q := 10) dX7_does_7 rfl e_X7_7 (by decide) (o_X7 sg s) rfl ?_
    refine aw_bipush (q := 12) (v := 72) dX7_does_10 rfl (by decide) ?_
    refine aw_aload_n (q := 13) dX7_does_12 rfl rfl ?_
    refine aw_getr (q := 16) dX7_does_13 rfl e_X7_28 (by decide) (o_X7 sg s) rfl ?_
    refine aw_iconst (q := 17) (v := 0) dX7_does_16 rfl (by decide) ?_
    refine aw_iald' (q := 18) (v := s 7 0) dX7_does_17 rfl (by decide) (o_X7a11 sg s) (zin_in (by decide)) rfl ?_
    refine aw_iadd (q := 19) dX7_does_18 rfl ?_
    refine aw_aload_n (q := 20) dX7_does_19 rfl rfl ?_
    refine aw_iconst (q := 21) (v := 1) dX7_does_20 rfl (by decide) ?_
    obtain ⟨v2, hv2, H⟩ := zbd H
    refine aw_cv (M' := M_X7_numberSet) (as := [.int 1]) (q := 24) dX7_does_21 rfl W_X7_numberSet k_X7_226 i_X7_numberSet v_X7_numberSet (by decide) (o_X7 sg s) rfl rfl rfl (by decide) (Nat.le_of_ble_eq_true rfl) (c_X7_numberSet sg s 1 hv2) (Nat.le_refl _) (Nat.le_refl _) ?_
    rintro r9 h9 ⟨rfl, rfl⟩
    obtain ⟨h3, H⟩ := zio H
    obtain ⟨s4, q5, H⟩ := zltd H
    refine aw_iast (q := 25) dX7_does_24 rfl (by decide) (o_X7a0 sg s) (zin_in h3) ((p_X7a0).trans (congrArg (fun z => zT sg z) q5.symm)) ?_
    refine aw_iconst (q := 26) (v := 0) dX7_does_25 rfl (by decide) ?_
    cases H
    exact aw_ret dX7_does_26 rfl rfl rfl rfl ⟨rfl, rfl⟩
  · replace H := zf h1 H
    refine aw_iload_n (q := 28) dX7_does_27 rfl rfl ?_
    refine aw_iconst (q := 29) (v := 5) dX7_does_28 rfl (by decide) ?_
    refine aw_icmp_neP (q := 32) (t := 60) dX7_does_29 rfl (by decide) (fun h6 => ?_) (fun h6 => ?_)
    · replace H := zt h6 H
      refine aw_aload_n (q := 33) dX7_does_32 rfl rfl ?_
      refine aw_aload_n (q := 34) dX7_does_33 rfl rfl ?_
      refine aw_iconst (q := 35) (v := 0) dX7_does_34 rfl (by decide) ?_
      obtain ⟨v7, hv7, H⟩ := zbd H
      refine aw_cv (M' := M_X7_numberSet) (as := [.int 0]) (q := 38) dX7_does_35 rfl W_X7_numberSet k_X7_226 i_X7_numberSet v_X7_numberSet (by decide) (o_X7 sg s) rfl rfl rfl (by decide) (Nat.le_of_ble_eq_true rfl) (c_X7_numberSet sg s 0 hv7) (Nat.le_refl _) (Nat.le_refl _) ?_
      rintro r9 h9 ⟨rfl, rfl⟩
      obtain ⟨v8, hv8, H⟩ := zbd H
      refine aw_cv (M' := M_X7_checksNet) (as := [.int v7]) (q := 41) dX7_does_38 rfl W_X7_checksNet k_X7_58 i_X7_checksNet v_X7_checksNet (by decide) (o_X7 sg s) rfl rfl rfl (by decide) (Nat.le_of_ble_eq_true rfl) (c_X7_checksNet sg s v7 hv8) (Nat.le_refl _) (Nat.le_refl _) ?_
      rintro r9 h9 ⟨rfl, rfl⟩
      refine aw_istore_n (q := 42) (L' := [some (.ref 120), some (.int x1), some (.int v8), none, none]) dX7_does_41 rfl (by decide) rfl rfl ?_
      refine aw_iload_n (q := 43) dX7_does_42 rfl rfl ?_
      refine aw_if_eq (q := 46) (t := 50) dX7_does_43 rfl (by decide) (fun h9 => ?_) (fun h9 => ?_)
      · replace H := zt h9 H
        refine aw_aload_n (q := 51) dX7_does_50 rfl rfl ?_
        refine aw_aload_n (q := 52) dX7_does_51 rfl rfl ?_
        refine aw_iconst (q := 53) (v := 0) dX7_does_52 rfl (by decide) ?_
        obtain ⟨v10, hv10, H⟩ := zbd H
        refine aw_cv (M' := M_X7_numberSet) (as := [.int 0]) (q := 56) dX7_does_53 rfl W_X7_numberSet k_X7_226 i_X7_numberSet v_X7_numberSet (by decide) (o_X7 sg s) rfl rfl rfl (by decide) (Nat.le_of_ble_eq_true rfl) (c_X7_numberSet sg s 0 hv10) (Nat.le_refl _) (Nat.le_refl _) ?_
        rintro r9 h9 ⟨rfl, rfl⟩
        obtain ⟨v11, hv11, H⟩ := zbd H
        refine aw_cv (M' := M_X7_addsNet) (as := [.int v10]) (q := 59) dX7_does_56 rfl W_X7_addsNet k_X7_64 i_X7_addsNet v_X7_addsNet (by decide) (o_X7 sg s) rfl rfl rfl (by decide) (Nat.le_of_ble_eq_true rfl) (c_X7_addsNet sg s v10 hv11) (Nat.le_refl _) (Nat.le_refl _) ?_
        rintro r9 h9 ⟨rfl, rfl⟩
        cases H
        exact aw_ret dX7_does_59 rfl rfl rfl rfl ⟨rfl, rfl⟩
      · replace H := zf h9 H
        refine aw_iload_n (q := 47) dX7_does_46 rfl rfl ?_
        refine aw_goto (q := 59) dX7_does_47 (by decide) ?_
        cases H
        exact aw_ret dX7_does_59 rfl rfl rfl rfl ⟨rfl, rfl⟩
    · replace H := zf h6 H
      refine aw_iload_n (q := 61) dX7_does_60 rfl rfl ?_
      refine aw_bipush (q := 63) (v := 6) dX7_does_61 rfl (by decide) ?_
      refine aw_icmp_neP (q := 66) (t := 118) dX7_does_63 rfl (by decide) (fun h12 => ?_) (fun h12 => ?_)
      · replace H := zt h12 H
        refine aw_aload_n (q := 67) dX7_does_66 rfl rfl ?_
        refine aw_aload_n (q := 68) dX7_does_67 rfl rfl ?_
        refine aw_getr (q := 71) dX7_does_68 rfl e_X7_28 (by decide) (o_X7 sg s) rfl ?_
        refine aw_iconst (q := 72) (v := 0) dX7_does_71 rfl (by decide) ?_
        refine aw_iald' (q := 73) (v := s 7 0) dX7_does_72 rfl (by decide) (o_X7a11 sg s) (zin_in (by decide)) rfl ?_
        refine aw_aload_n (q := 74) dX7_does_73 rfl rfl ?_
        refine aw_getr (q := 77) dX7_does_74 rfl e_X7_28 (by decide) (o_X7 sg s) rfl ?_
        refine aw_iconst (q := 78) (v := 1) dX7_does_77 rfl (by decide) ?_
        refine aw_iald' (q := 79) (v := s 7 1) dX7_does_78 rfl (by decide) (o_X7a11 sg s) (zin_in (by decide)) rfl ?_
        refine aw_aload_n (q := 80) dX7_does_79 rfl rfl ?_
        refine aw_iconst (q := 81) (v := 2) dX7_does_80 rfl (by decide) ?_
        obtain ⟨v13, hv13, H⟩ := zbd H
        refine aw_cv (M' := M_X7_numberSet) (as := [.int 2]) (q := 84) dX7_does_81 rfl W_X7_numberSet k_X7_226 i_X7_numberSet v_X7_numberSet (by decide) (o_X7 sg s) rfl rfl rfl (by decide) (Nat.le_of_ble_eq_true rfl) (c_X7_numberSet sg s 2 hv13) (Nat.le_refl _) (Nat.le_refl _) ?_
        rintro r9 h9 ⟨rfl, rfl⟩
        obtain ⟨v14, hv14, H⟩ := zbd H
        refine aw_cv (M' := M_X7_checksChip) (as := [.int (s 7 0), .int (s 7 1), .int v13]) (q := 87) dX7_does_84 rfl W_X7_checksChip k_X7_70 i_X7_checksChip v_X7_checksChip (by decide) (o_X7 sg s) rfl rfl rfl (by decide) (Nat.le_of_ble_eq_true rfl) (c_X7_checksChip sg s (s 7 0) (s 7 1) v13 hv14) (Nat.le_refl _) (Nat.le_refl _) ?_
        rintro r9 h9 ⟨rfl, rfl⟩
        refine aw_istore_n (q := 88) (L' := [some (.ref 120), some (.int x1), some (.int v14), none, none]) dX7_does_87 rfl (by decide) rfl rfl ?_
        refine aw_iload_n (q := 89) dX7_does_88 rfl rfl ?_
        refine aw_if_eq (q := 92) (t := 96) dX7_does_89 rfl (by decide) (fun h15 => ?_) (fun h15 => ?_)
        · replace H := zt h15 H
          refine aw_aload_n (q := 97) dX7_does_96 rfl rfl ?_
          refine aw_aload_n (q := 98) dX7_does_97 rfl rfl ?_
          refine aw_getr (q := 101) dX7_does_98 rfl e_X7_28 (by decide) (o_X7 sg s) rfl ?_
          refine aw_iconst (q := 102) (v := 0) dX7_does_101 rfl (by decide) ?_
          refine aw_iald' (q := 103) (v := s 7 0) dX7_does_102 rfl (by decide) (o_X7a11 sg s) (zin_in (by decide)) rfl ?_
          refine aw_aload_n (q := 104) dX7_does_103 rfl rfl ?_
          refine aw_getr (q := 107) dX7_does_104 rfl e_X7_28 (by decide) (o_X7 sg s) rfl ?_
          refine aw_iconst (q := 108) (v := 1) dX7_does_107 rfl (by decide) ?_
          refine aw_iald' (q := 109) (v := s 7 1) dX7_does_108 rfl (by decide) (o_X7a11 sg s) (zin_in (by decide)) rfl ?_
          refine aw_aload_n (q := 110) dX7_does_109 rfl rfl ?_
          refine aw_iconst (q := 111) (v := 2) dX7_does_110 rfl (by decide) ?_
          obtain ⟨v16, hv16, H⟩ := zbd H
          refine aw_cv (M' := M_X7_numberSet) (as := [.int 2]) (q := 114) dX7_does_111 rfl W_X7_numberSet k_X7_226 i_X7_numberSet v_X7_numberSet (by decide) (o_X7 sg s) rfl rfl rfl (by decide) (Nat.le_of_ble_eq_true rfl) (c_X7_numberSet sg s 2 hv16) (Nat.le_refl _) (Nat.le_refl _) ?_
          rintro r9 h9 ⟨rfl, rfl⟩
          obtain ⟨v17, hv17, H⟩ := zbd H
          refine aw_cv (M' := M_X7_addsChip) (as := [.int (s 7 0), .int (s 7 1), .int v16]) (q := 117) dX7_does_114 rfl W_X7_addsChip k_X7_74 i_X7_addsChip v_X7_addsChip (by decide) (o_X7 sg s) rfl rfl rfl (by decide) (Nat.le_of_ble_eq_true rfl) (c_X7_addsChip sg s (s 7 0) (s 7 1) v16 hv17) (Nat.le_refl _) (Nat.le_refl _) ?_
          rintro r9 h9 ⟨rfl, rfl⟩
          cases H
          exact aw_ret dX7_does_117 rfl rfl rfl rfl ⟨rfl, rfl⟩
        · replace H := zf h15 H
          refine aw_iload_n (q := 93) dX7_does_92 rfl rfl ?_
          refine aw_goto (q := 117) dX7_does_93 (by decide) ?_
          cases H
          exact aw_ret dX7_does_117 rfl rfl rfl rfl ⟨rfl, rfl⟩
      · replace H := zf h12 H
        refine aw_aload_n (q := 119) dX7_does_118 rfl rfl ?_
        refine aw_getr (q := 122) dX7_does_119 rfl e_X7_28 (by decide) (o_X7 sg s) rfl ?_
        refine aw_iconst (q := 123) (v := 0) dX7_does_122 rfl (by decide) ?_
        refine aw_iald' (q := 124) (v := s 7 0) dX7_does_123 rfl (by decide) (o_X7a11 sg s) (zin_in (by decide)) rfl ?_
        obtain ⟨y18, q19, H⟩ := zltd H
        refine aw_nm q19 ?_
        refine aw_istore_n (q := 125) (L' := [some (.ref 120), some (.int x1), none, some (.int y18), none]) dX7_does_124 rfl (by decide) rfl rfl ?_
        refine aw_iconst (q := 126) (v := 0) dX7_does_125 rfl (by decide) ?_
        refine aw_istore (q := 128) (L' := [some (.ref 120), some (.int x1), none, some (.int y18), some (.int 0)]) dX7_does_126 rfl (by decide) rfl rfl ?_
        refine aw_iload_n (q := 129) dX7_does_128 rfl rfl ?_
        refine aw_iconst (q := 130) (v := 1) dX7_does_129 rfl (by decide) ?_
        refine aw_icmp_neP (q := 133) (t := 196) dX7_does_130 rfl (by decide) (fun h20 => ?_) (fun h20 => ?_)
        · replace H := zt h20 H
          refine aw_aload_n (q := 134) dX7_does_133 rfl rfl ?_
          refine aw_getr (q := 137) dX7_does_134 rfl e_X7_28 (by decide) (o_X7 sg s) rfl ?_
          refine aw_iconst (q := 138) (v := 0) dX7_does_137 rfl (by decide) ?_
          refine aw_iald' (q := 139) (v := s 7 0) dX7_does_138 rfl (by decide) (o_X7a11 sg s) (zin_in (by decide)) rfl ?_
          refine aw_aload_n (q := 140) dX7_does_139 rfl rfl ?_
          refine aw_getr (q := 143) dX7_does_140 rfl e_X7_28 (by decide) (o_X7 sg s) rfl ?_
          refine aw_iconst (q := 144) (v := 1) dX7_does_143 rfl (by decide) ?_
          refine aw_iald' (q := 145) (v := s 7 1) dX7_does_144 rfl (by decide) (o_X7a11 sg s) (zin_in (by decide)) rfl ?_
          refine aw_icmp_ge (q := 148) (t := 157) dX7_does_145 rfl (by decide) (fun h21 => ?_) (fun h21 => ?_)
          · replace H := zt h21 H
            refine aw_aload_n (q := 158) dX7_does_157 rfl rfl ?_
            refine aw_getr (q := 161) dX7_does_158 rfl e_X7_28 (by decide) (o_X7 sg s) rfl ?_
            refine aw_iconst (q := 162) (v := 0) dX7_does_161 rfl (by decide) ?_
            refine aw_iald' (q := 163) (v := s 7 0) dX7_does_162 rfl (by decide) (o_X7a11 sg s) (zin_in (by decide)) rfl ?_
            obtain ⟨y22, q23, H⟩ := zltd H
            refine aw_nm q23 ?_
            refine aw_istore (q := 165) (L' := [some (.ref 120), some (.int x1), none, some (.int y18), some (.int y22)]) dX7_does_163 rfl (by decide) rfl rfl ?_
            refine aw_aload_n (q := 166) dX7_does_165 rfl rfl ?_
            refine aw_getr (q := 169) dX7_does_166 rfl e_X7_28 (by decide) (o_X7 sg s) rfl ?_
            refine aw_iconst (q := 170) (v := 0) dX7_does_169 rfl (by decide) ?_
            refine aw_iald' (q := 171) (v := s 7 0) dX7_does_170 rfl (by decide) (o_X7a11 sg s) (zin_in (by decide)) rfl ?_
            refine aw_aload_n (q := 172) dX7_does_171 rfl rfl ?_
            refine aw_getr (q := 175) dX7_does_172 rfl e_X7_28 (by decide) (o_X7 sg s) rfl ?_
            refine aw_iconst (q := 176) (v := 1) dX7_does_175 rfl (by decide) ?_
            refine aw_iald' (q := 177) (v := s 7 1) dX7_does_176 rfl (by decide) (o_X7a11 sg s) (zin_in (by decide)) rfl ?_
            refine aw_icmp_ge (q := 180) (t := 189) dX7_does_177 rfl (by decide) (fun _ => ?_) (fun z => absurd h21 z)
            refine aw_aload_n (q := 190) dX7_does_189 rfl rfl ?_
            refine aw_getr (q := 193) dX7_does_190 rfl e_X7_28 (by decide) (o_X7 sg s) rfl ?_
            refine aw_iconst (q := 194) (v := 1) dX7_does_193 rfl (by decide) ?_
            refine aw_iald' (q := 195) (v := s 7 1) dX7_does_194 rfl (by decide) (o_X7a11 sg s) (zin_in (by decide)) rfl ?_
            obtain ⟨y24, q25, H⟩ := zltd H
            refine aw_nm q25 ?_
            refine aw_istore_n (q := 196) (L' := [some (.ref 120), some (.int x1), none, some (.int y24), some (.int y22)]) dX7_does_195 rfl (by decide) rfl rfl ?_
            refine aw_aload_n (q := 197) dX7_does_196 rfl rfl ?_
            refine aw_iload_n (q := 198) dX7_does_197 rfl rfl ?_
            refine aw_iload_n (q := 199) dX7_does_198 rfl rfl ?_
            refine aw_iload (q := 201) dX7_does_199 rfl rfl ?_
            obtain ⟨v26, hv26, H⟩ := zbd H
            refine aw_cv (M' := M_X7_checksFault) (as := [.int x1, .int y24, .int y22]) (q := 204) dX7_does_201 rfl W_X7_checksFault k_X7_80 i_X7_checksFault v_X7_checksFault (by decide) (o_X7 sg s) rfl rfl rfl (by decide) (Nat.le_of_ble_eq_true rfl) (c_X7_checksFault sg s x1 y24 y22 hv26) (Nat.le_refl _) (Nat.le_refl _) ?_
            rintro r9 h9 ⟨rfl, rfl⟩
            refine aw_istore_n (q := 205) (L' := [some (.ref 120), some (.int x1), some (.int v26), some (.int y24), some (.int y22)]) dX7_does_204 rfl (by decide) rfl rfl ?_
            refine aw_iload_n (q := 206) dX7_does_205 rfl rfl ?_
            refine aw_if_eq (q := 209) (t := 213) dX7_does_206 rfl (by decide) (fun h27 => ?_) (fun h27 => ?_)
            · replace H := zt h27 H
              refine aw_aload_n (q := 214) dX7_does_213 rfl rfl ?_
              refine aw_iload_n (q := 215) dX7_does_214 rfl rfl ?_
              refine aw_iload_n (q := 216) dX7_does_215 rfl rfl ?_
              refine aw_iload (q := 218) dX7_does_216 rfl rfl ?_
              obtain ⟨v28, hv28, H⟩ := zbd H
              refine aw_cv (M' := M_X7_addsFault) (as := [.int x1, .int y24, .int y22]) (q := 221) dX7_does_218 rfl W_X7_addsFault k_X7_83 i_X7_addsFault v_X7_addsFault (by decide) (o_X7 sg s) rfl rfl rfl (by decide) (Nat.le_of_ble_eq_true rfl) (c_X7_addsFault sg s x1 y24 y22 hv28) (Nat.le_refl _) (Nat.le_refl _) ?_
              rintro r9 h9 ⟨rfl, rfl⟩
              cases H
              exact aw_ret dX7_does_221 rfl rfl rfl rfl ⟨rfl, rfl⟩
            · replace H := zf h27 H
              refine aw_iload_n (q := 210) dX7_does_209 rfl rfl ?_
              refine aw_goto (q := 221) dX7_does_210 (by decide) ?_
              cases H
              exact aw_ret dX7_does_221 rfl rfl rfl rfl ⟨rfl, rfl⟩
          · replace H := zf h21 H
            refine aw_aload_n (q := 149) dX7_does_148 rfl rfl ?_
            refine aw_getr (q := 152) dX7_does_149 rfl e_X7_28 (by decide) (o_X7 sg s) rfl ?_
            refine aw_iconst (q := 153) (v := 1) dX7_does_152 rfl (by decide) ?_
            refine aw_iald' (q := 154) (v := s 7 1) dX7_does_153 rfl (by decide) (o_X7a11 sg s) (zin_in (by decide)) rfl ?_
            refine aw_goto (q := 163) dX7_does_154 (by decide) ?_
            obtain ⟨y29, q30, H⟩ := zltd H
            refine aw_nm q30 ?_
            refine aw_istore (q := 165) (L' := [some (.ref 120), some (.int x1), none, some (.int y18), some (.int y29)]) dX7_does_163 rfl (by decide) rfl rfl ?_
            refine aw_aload_n (q := 166) dX7_does_165 rfl rfl ?_
            refine aw_getr (q := 169) dX7_does_166 rfl e_X7_28 (by decide) (o_X7 sg s) rfl ?_
            refine aw_iconst (q := 170) (v := 0) dX7_does_169 rfl (by decide) ?_
            refine aw_iald' (q := 171) (v := s 7 0) dX7_does_170 rfl (by decide) (o_X7a11 sg s) (zin_in (by decide)) rfl ?_
            refine aw_aload_n (q := 172) dX7_does_171 rfl rfl ?_
            refine aw_getr (q := 175) dX7_does_172 rfl e_X7_28 (by decide) (o_X7 sg s) rfl ?_
            refine aw_iconst (q := 176) (v := 1) dX7_does_175 rfl (by decide) ?_
            refine aw_iald' (q := 177) (v := s 7 1) dX7_does_176 rfl (by decide) (o_X7a11 sg s) (zin_in (by decide)) rfl ?_
            refine aw_icmp_ge (q := 180) (t := 189) dX7_does_177 rfl (by decide) (fun z => absurd z h21) (fun _ => ?_)
            refine aw_aload_n (q := 181) dX7_does_180 rfl rfl ?_
            refine aw_getr (q := 184) dX7_does_181 rfl e_X7_28 (by decide) (o_X7 sg s) rfl ?_
            refine aw_iconst (q := 185) (v := 0) dX7_does_184 rfl (by decide) ?_
            refine aw_iald' (q := 186) (v := s 7 0) dX7_does_185 rfl (by decide) (o_X7a11 sg s) (zin_in (by decide)) rfl ?_
            refine aw_goto (q := 195) dX7_does_186 (by decide) ?_
            obtain ⟨y31, q32, H⟩ := zltd H
            refine aw_nm q32 ?_
            refine aw_istore_n (q := 196) (L' := [some (.ref 120), some (.int x1), none, some (.int y31), some (.int y29)]) dX7_does_195 rfl (by decide) rfl rfl ?_
            refine aw_aload_n (q := 197) dX7_does_196 rfl rfl ?_
            refine aw_iload_n (q := 198) dX7_does_197 rfl rfl ?_
            refine aw_iload_n (q := 199) dX7_does_198 rfl rfl ?_
            refine aw_iload (q := 201) dX7_does_199 rfl rfl ?_
            obtain ⟨v33, hv33, H⟩ := zbd H
            refine aw_cv (M' := M_X7_checksFault) (as := [.int x1, .int y31, .int y29]) (q := 204) dX7_does_201 rfl W_X7_checksFault k_X7_80 i_X7_checksFault v_X7_checksFault (by decide) (o_X7 sg s) rfl rfl rfl (by decide) (Nat.le_of_ble_eq_true rfl) (c_X7_checksFault sg s x1 y31 y29 hv33) (Nat.le_refl _) (Nat.le_refl _) ?_
            rintro r9 h9 ⟨rfl, rfl⟩
            refine aw_istore_n (q := 205) (L' := [some (.ref 120), some (.int x1), some (.int v33), some (.int y31), some (.int y29)]) dX7_does_204 rfl (by decide) rfl rfl ?_
            refine aw_iload_n (q := 206) dX7_does_205 rfl rfl ?_
            refine aw_if_eq (q := 209) (t := 213) dX7_does_206 rfl (by decide) (fun h34 => ?_) (fun h34 => ?_)
            · replace H := zt h34 H
              refine aw_aload_n (q := 214) dX7_does_213 rfl rfl ?_
              refine aw_iload_n (q := 215) dX7_does_214 rfl rfl ?_
              refine aw_iload_n (q := 216) dX7_does_215 rfl rfl ?_
              refine aw_iload (q := 218) dX7_does_216 rfl rfl ?_
              obtain ⟨v35, hv35, H⟩ := zbd H
              refine aw_cv (M' := M_X7_addsFault) (as := [.int x1, .int y31, .int y29]) (q := 221) dX7_does_218 rfl W_X7_addsFault k_X7_83 i_X7_addsFault v_X7_addsFault (by decide) (o_X7 sg s) rfl rfl rfl (by decide) (Nat.le_of_ble_eq_true rfl) (c_X7_addsFault sg s x1 y31 y29 hv35) (Nat.le_refl _) (Nat.le_refl _) ?_
              rintro r9 h9 ⟨rfl, rfl⟩
              cases H
              exact aw_ret dX7_does_221 rfl rfl rfl rfl ⟨rfl, rfl⟩
            · replace H := zf h34 H
              refine aw_iload_n (q := 210) dX7_does_209 rfl rfl ?_
              refine aw_goto (q := 221) dX7_does_210 (by decide) ?_
              cases H
              exact aw_ret dX7_does_221 rfl rfl rfl rfl ⟨rfl, rfl⟩
        · replace H := zf h20 H
          refine aw_aload_n (q := 197) dX7_does_196 rfl rfl ?_
          refine aw_iload_n (q := 198) dX7_does_197 rfl rfl ?_
          refine aw_iload_n (q := 199) dX7_does_198 rfl rfl ?_
          refine aw_iload (q := 201) dX7_does_199 rfl rfl ?_
          obtain ⟨v36, hv36, H⟩ := zbd H
          refine aw_cv (M' := M_X7_checksFault) (as := [.int x1, .int y18, .int 0]) (q := 204) dX7_does_201 rfl W_X7_checksFault k_X7_80 i_X7_checksFault v_X7_checksFault (by decide) (o_X7 sg s) rfl rfl rfl (by decide) (Nat.le_of_ble_eq_true rfl) (c_X7_checksFault sg s x1 y18 0 hv36) (Nat.le_refl _) (Nat.le_refl _) ?_
          rintro r9 h9 ⟨rfl, rfl⟩
          refine aw_istore_n (q := 205) (L' := [some (.ref 120), some (.int x1), some (.int v36), some (.int y18), some (.int 0)]) dX7_does_204 rfl (by decide) rfl rfl ?_
          refine aw_iload_n (q := 206) dX7_does_205 rfl rfl ?_
          refine aw_if_eq (q := 209) (t := 213) dX7_does_206 rfl (by decide) (fun h37 => ?_) (fun h37 => ?_)
          · replace H := zt h37 H
            refine aw_aload_n (q := 214) dX7_does_213 rfl rfl ?_
            refine aw_iload_n (q := 215) dX7_does_214 rfl rfl ?_
            refine aw_iload_n (q := 216) dX7_does_215 rfl rfl ?_
            refine aw_iload (q := 218) dX7_does_216 rfl rfl ?_
            obtain ⟨v38, hv38, H⟩ := zbd H
            refine aw_cv (M' := M_X7_addsFault) (as := [.int x1, .int y18, .int 0]) (q := 221) dX7_does_218 rfl W_X7_addsFault k_X7_83 i_X7_addsFault v_X7_addsFault (by decide) (o_X7 sg s) rfl rfl rfl (by decide) (Nat.le_of_ble_eq_true rfl) (c_X7_addsFault sg s x1 y18 0 hv38) (Nat.le_refl _) (Nat.le_refl _) ?_
            rintro r9 h9 ⟨rfl, rfl⟩
            cases H
            exact aw_ret dX7_does_221 rfl rfl rfl rfl ⟨rfl, rfl⟩
          · replace H := zf h37 H
            refine aw_iload_n (q := 210) dX7_does_209 rfl rfl ?_
            refine aw_goto (q := 221) dX7_does_210 (by decide) ?_
            cases H
            exact aw_ret dX7_does_221 rfl rfl rfl rfl ⟨rfl, rfl⟩
