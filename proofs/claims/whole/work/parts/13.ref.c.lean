def f_X7_readsOne (s : zr) (x1 : Int32) (x2 : Int32) (x3 : Int32) (x4 : Int32) : Option Int32 :=
  Option.bind (f_X7_netOf s x2) fun v1 =>
  if v1 = (-1) then (
    if x2 = x3 then (
      some x4
    ) else (
      some 0
    )
  ) else (
    Option.bind (f_X7_hasFault s x1 0 x2) fun v4 =>
    if v4 = true then (
      if x2 = x3 then (
        some x4
      ) else (
        some 0
      )
    ) else (
      Option.bind (f_X7_hasFault s x1 2 v1) fun v7 =>
      if v7 = true then (
        some 0
      ) else (
        Option.bind (f_X7_hasFault s x1 3 v1) fun v9 =>
        if v9 = true then (
          some 1
        ) else (
          Option.bind (f_X7_netOf s x3) fun v11 =>
          if v11 = (-1) then (
            some 0
          ) else (
            Option.bind (f_X7_hasFault s x1 0 x3) fun v13 =>
            if v13 = true then (
              some 0
            ) else (
              Option.bind (f_X7_areJoined s x1 v1 v11) fun v15 =>
              if v15 = true then (
                some x4
              ) else (
                some 0
              )
            )
          )
        )
      )
    )
  )
set_option maxHeartbeats 4000000 in
set_option maxRecDepth 100000 in
theorem c_X7_readsOne {G : zG} {sl : Nat} (sg : zs) (s : zr) (x1 : Int32) (x2 : Int32) (x3 : Int32) (x4 : Int32) {v9 : Int32} (H : f_X7_readsOne s x1 x2 x3 x4 = some v9) : zMv G 2 M_X7_readsOne [.ref 120, .int x1, .int x2, .int x3, .int x4] sl (zT sg s) (fun r h' => r = some (.int v9) ∧ h' = (zT sg s)) := by
  unfold f_X7_readsOne at H
  refine zMv_of (L := [some (.ref 120), some (.int x1), some (.int x2), some (.int x3), some (.int x4), none, none, none]) (by decide) rfl (Nat.le_of_ble_eq_true rfl) rfl ?_
  refine aw_aload_n (q := 1) dX7_readsOne_0 rfl rfl ?_
  refine aw_iload_n (q := 2) dX7_readsOne_1 rfl rfl ?_
  obtain ⟨v1, hv1, H⟩ := zbd H
  refine aw_cv (M' := M_X7_netOf) (as := [.int x2]) (q := 5) dX7_readsOne_2 rfl W_X7_netOf k_X7_54 i_X7_netOf v_X7_netOf (by decide) (o_X7 sg s) rfl rfl rfl (by decide) (Nat.le_of_ble_eq_true rfl) (c_X7_netOf sg s x2 hv1) (Nat.le_refl _) (Nat.le_refl _) ?_
  rintro r9 h9 ⟨rfl, rfl⟩
  refine aw_istore (q := 7) (L' := [some (.ref 120), some (.int x1), some (.int x2), some (.int x3), some (.int x4), some (.int v1), none, none]) dX7_readsOne_5 rfl (by decide) rfl rfl ?_
  refine aw_iload (q := 9) dX7_readsOne_7 rfl rfl ?_
  refine aw_iconst (q := 10) (v := (-1)) dX7_readsOne_9 rfl (by decide) ?_
  refine aw_icmp_eq (q := 13) (t := 23) dX7_readsOne_10 rfl (by decide) (fun h2 => ?_) (fun h2 => ?_)
  · replace H := zt h2 H
    refine aw_iload_n (q := 24) dX7_readsOne_23 rfl rfl ?_
    refine aw_iload_n (q := 25) dX7_readsOne_24 rfl rfl ?_
    refine aw_icmp_neP (q := 28) (t := 33) dX7_readsOne_25 rfl (by decide) (fun h3 => ?_) (fun h3 => ?_)
    · replace H := zt h3 H
      refine aw_iload (q := 30) dX7_readsOne_28 rfl rfl ?_
      refine aw_goto (q := 34) dX7_readsOne_30 (by decide) ?_
      cases H
      exact aw_ret dX7_readsOne_34 rfl rfl rfl rfl ⟨rfl, rfl⟩
    · replace H := zf h3 H
      refine aw_iconst (q := 34) (v := 0) dX7_readsOne_33 rfl (by decide) ?_
      cases H
      exact aw_ret dX7_readsOne_34 rfl rfl rfl rfl ⟨rfl, rfl⟩
  · replace H := zf h2 H
    refine aw_aload_n (q := 14) dX7_readsOne_13 rfl rfl ?_
    refine aw_iload_n (q := 15) dX7_readsOne_14 rfl rfl ?_
    refine aw_iconst (q := 16) (v := 0) dX7_readsOne_15 rfl (by decide) ?_
    refine aw_iload_n (q := 17) dX7_readsOne_16 rfl rfl ?_
    obtain ⟨v4, hv4, H⟩ := zbd H
    refine aw_cv (M' := M_X7_hasFault) (as := [.int x1, .int 0, .int x2]) (q := 20) dX7_readsOne_17 rfl W_X7_hasFault k_X7_104 i_X7_hasFault v_X7_hasFault (by decide) (o_X7 sg s) rfl rfl rfl (by decide) (Nat.le_of_ble_eq_true rfl) (c_X7_hasFault sg s x1 0 x2 hv4) (Nat.le_refl _) (Nat.le_refl _) ?_
    rintro r9 h9 ⟨rfl, rfl⟩
    refine aw_ifeqB (q := 23) (t := 35) dX7_readsOne_20 rfl (by decide) (fun h5 => ?_) (fun h5 => ?_)
    · replace H := zt h5 H
      refine aw_iload_n (q := 24) dX7_readsOne_23 rfl rfl ?_
      refine aw_iload_n (q := 25) dX7_readsOne_24 rfl rfl ?_
      refine aw_icmp_neP (q := 28) (t := 33) dX7_readsOne_25 rfl (by decide) (fun h6 => ?_) (fun h6 => ?_)
      · replace H := zt h6 H
        refine aw_iload (q := 30) dX7_readsOne_28 rfl rfl ?_
        refine aw_goto (q := 34) dX7_readsOne_30 (by decide) ?_
        cases H
        exact aw_ret dX7_readsOne_34 rfl rfl rfl rfl ⟨rfl, rfl⟩
      · replace H := zf h6 H
        refine aw_iconst (q := 34) (v := 0) dX7_readsOne_33 rfl (by decide) ?_
        cases H
        exact aw_ret dX7_readsOne_34 rfl rfl rfl rfl ⟨rfl, rfl⟩
    · replace H := zf h5 H
      refine aw_aload_n (q := 36) dX7_readsOne_35 rfl rfl ?_
      refine aw_iload_n (q := 37) dX7_readsOne_36 rfl rfl ?_
      refine aw_iconst (q := 38) (v := 2) dX7_readsOne_37 rfl (by decide) ?_
      refine aw_iload (q := 40) dX7_readsOne_38 rfl rfl ?_
      obtain ⟨v7, hv7, H⟩ := zbd H
      refine aw_cv (M' := M_X7_hasFault) (as := [.int x1, .int 2, .int v1]) (q := 43) dX7_readsOne_40 rfl W_X7_hasFault k_X7_104 i_X7_hasFault v_X7_hasFault (by decide) (o_X7 sg s) rfl rfl rfl (by decide) (Nat.le_of_ble_eq_true rfl) (c_X7_hasFault sg s x1 2 v1 hv7) (Nat.le_refl _) (Nat.le_refl _) ?_
      rintro r9 h9 ⟨rfl, rfl⟩
      refine aw_ifeqB (q := 46) (t := 48) dX7_readsOne_43 rfl (by decide) (fun h8 => ?_) (fun h8 => ?_)
      · replace H := zt h8 H
        refine aw_iconst (q := 47) (v := 0) dX7_readsOne_46 rfl (by decide) ?_
        cases H
        exact aw_ret dX7_readsOne_47 rfl rfl rfl rfl ⟨rfl, rfl⟩
      · replace H := zf h8 H
        refine aw_aload_n (q := 49) dX7_readsOne_48 rfl rfl ?_
        refine aw_iload_n (q := 50) dX7_readsOne_49 rfl rfl ?_
        refine aw_iconst (q := 51) (v := 3) dX7_readsOne_50 rfl (by decide) ?_
        refine aw_iload (q := 53) dX7_readsOne_51 rfl rfl ?_
        obtain ⟨v9, hv9, H⟩ := zbd H
        refine aw_cv (M' := M_X7_hasFault) (as := [.int x1, .int 3, .int v1]) (q := 56) dX7_readsOne_53 rfl W_X7_hasFault k_X7_104 i_X7_hasFault v_X7_hasFault (by decide) (o_X7 sg s) rfl rfl rfl (by decide) (Nat.le_of_ble_eq_true rfl) (c_X7_hasFault sg s x1 3 v1 hv9) (Nat.le_refl _) (Nat.le_refl _) ?_
        rintro r9 h9 ⟨rfl, rfl⟩
        refine aw_ifeqB (q := 59) (t := 61) dX7_readsOne_56 rfl (by decide) (fun h10 => ?_) (fun h10 => ?_)
        · replace H := zt h10 H
          refine aw_iconst (q := 60) (v := 1) dX7_readsOne_59 rfl (by decide) ?_
          cases H
          exact aw_ret dX7_readsOne_60 rfl rfl rfl rfl ⟨rfl, rfl⟩
        · replace H := zf h10 H
          refine aw_aload_n (q := 62) dX7_readsOne_61 rfl rfl ?_
          refine aw_iload_n (q := 63) dX7_readsOne_62 rfl rfl ?_
          obtain ⟨v11, hv11, H⟩ := zbd H
          refine aw_cv (M' := M_X7_netOf) (as := [.int x3]) (q := 66) dX7_readsOne_63 rfl W_X7_netOf k_X7_54 i_X7_netOf v_X7_netOf (by decide) (o_X7 sg s) rfl rfl rfl (by decide) (Nat.le_of_ble_eq_true rfl) (c_X7_netOf sg s x3 hv11) (Nat.le_refl _) (Nat.le_refl _) ?_
          rintro r9 h9 ⟨rfl, rfl⟩
          refine aw_istore (q := 68) (L' := [some (.ref 120), some (.int x1), some (.int x2), some (.int x3), some (.int x4), some (.int v1), some (.int v11), none]) dX7_readsOne_66 rfl (by decide) rfl rfl ?_
          refine aw_iload (q := 70) dX7_readsOne_68 rfl rfl ?_
          refine aw_iconst (q := 71) (v := (-1)) dX7_readsOne_70 rfl (by decide) ?_
          refine aw_icmp_eq (q := 74) (t := 100) dX7_readsOne_71 rfl (by decide) (fun h12 => ?_) (fun h12 => ?_)
          · replace H := zt h12 H
            refine aw_iconst (q := 101) (v := 0) dX7_readsOne_100 rfl (by decide) ?_
            refine aw_istore (q := 103) (L' := [some (.ref 120), some (.int x1), some (.int x2), some (.int x3), some (.int x4), some (.int v1), some (.int v11), some (.int 0)]) dX7_readsOne_101 rfl (by decide) rfl rfl ?_
            refine aw_iload (q := 105) dX7_readsOne_103 rfl rfl ?_
            refine aw_if_eq (q := 108) (t := 113) dX7_readsOne_105 rfl (by decide) (fun _ => ?_) (fun z => absurd (by decide) z)
            refine aw_iconst (q := 114) (v := 0) dX7_readsOne_113 rfl (by decide) ?_
            cases H
            exact aw_ret dX7_readsOne_114 rfl rfl rfl rfl ⟨rfl, rfl⟩
          · replace H := zf h12 H
            refine aw_aload_n (q := 75) dX7_readsOne_74 rfl rfl ?_
            refine aw_iload_n (q := 76) dX7_readsOne_75 rfl rfl ?_
            refine aw_iconst (q := 77) (v := 0) dX7_readsOne_76 rfl (by decide) ?_
            refine aw_iload_n (q := 78) dX7_readsOne_77 rfl rfl ?_
            obtain ⟨v13, hv13, H⟩ := zbd H
            refine aw_cv (M' := M_X7_hasFault) (as := [.int x1, .int 0, .int x3]) (q := 81) dX7_readsOne_78 rfl W_X7_hasFault k_X7_104 i_X7_hasFault v_X7_hasFault (by decide) (o_X7 sg s) rfl rfl rfl (by decide) (Nat.le_of_ble_eq_true rfl) (c_X7_hasFault sg s x1 0 x3 hv13) (Nat.le_refl _) (Nat.le_refl _) ?_
            rintro r9 h9 ⟨rfl, rfl⟩
            refine aw_ifneB (q := 84) (t := 100) dX7_readsOne_81 rfl (by decide) (fun h14 => ?_) (fun h14 => ?_)
            · replace H := zt h14 H
              refine aw_iconst (q := 101) (v := 0) dX7_readsOne_100 rfl (by decide) ?_
              refine aw_istore (q := 103) (L' := [some (.ref 120), some (.int x1), some (.int x2), some (.int x3), some (.int x4), some (.int v1), some (.int v11), some (.int 0)]) dX7_readsOne_101 rfl (by decide) rfl rfl ?_
              refine aw_iload (q := 105) dX7_readsOne_103 rfl rfl ?_
              refine aw_if_eq (q := 108) (t := 113) dX7_readsOne_105 rfl (by decide) (fun _ => ?_) (fun z => absurd (by decide) z)
              refine aw_iconst (q := 114) (v := 0) dX7_readsOne_113 rfl (by decide) ?_
              cases H
              exact aw_ret dX7_readsOne_114 rfl rfl rfl rfl ⟨rfl, rfl⟩
            · replace H := zf h14 H
              refine aw_aload_n (q := 85) dX7_readsOne_84 rfl rfl ?_
              refine aw_iload_n (q := 86) dX7_readsOne_85 rfl rfl ?_
              refine aw_iload (q := 88) dX7_readsOne_86 rfl rfl ?_
              refine aw_iload (q := 90) dX7_readsOne_88 rfl rfl ?_
              obtain ⟨v15, hv15, H⟩ := zbd H
              refine aw_cv (M' := M_X7_areJoined) (as := [.int x1, .int v1, .int v11]) (q := 93) dX7_readsOne_90 rfl W_X7_areJoined k_X7_121 i_X7_areJoined v_X7_areJoined (by decide) (o_X7 sg s) rfl rfl rfl (by decide) (Nat.le_of_ble_eq_true rfl) (c_X7_areJoined sg s x1 v1 v11 hv15) (Nat.le_refl _) (Nat.le_refl _) ?_
              rintro r9 h9 ⟨rfl, rfl⟩
              refine aw_ifeqB (q := 96) (t := 100) dX7_readsOne_93 rfl (by decide) (fun h16 => ?_) (fun h16 => ?_)
              · replace H := zt h16 H
                refine aw_iconst (q := 97) (v := 1) dX7_readsOne_96 rfl (by decide) ?_
                refine aw_goto (q := 101) dX7_readsOne_97 (by decide) ?_
                refine aw_istore (q := 103) (L' := [some (.ref 120), some (.int x1), some (.int x2), some (.int x3), some (.int x4), some (.int v1), some (.int v11), some (.int 1)]) dX7_readsOne_101 rfl (by decide) rfl rfl ?_
                refine aw_iload (q := 105) dX7_readsOne_103 rfl rfl ?_
                refine aw_if_eq (q := 108) (t := 113) dX7_readsOne_105 rfl (by decide) (fun z => absurd z (by decide)) (fun _ => ?_)
                refine aw_iload (q := 110) dX7_readsOne_108 rfl rfl ?_
                refine aw_goto (q := 114) dX7_readsOne_110 (by decide) ?_
                cases H
                exact aw_ret dX7_readsOne_114 rfl rfl rfl rfl ⟨rfl, rfl⟩
              · replace H := zf h16 H
                refine aw_iconst (q := 101) (v := 0) dX7_readsOne_100 rfl (by decide) ?_
                refine aw_istore (q := 103) (L' := [some (.ref 120), some (.int x1), some (.int x2), some (.int x3), some (.int x4), some (.int v1), some (.int v11), some (.int 0)]) dX7_readsOne_101 rfl (by decide) rfl rfl ?_
                refine aw_iload (q := 105) dX7_readsOne_103 rfl rfl ?_
                refine aw_if_eq (q := 108) (t := 113) dX7_readsOne_105 rfl (by decide) (fun _ => ?_) (fun z => absurd (by decide) z)
                refine aw_iconst (q := 114) (v := 0) dX7_readsOne_113 rfl (by decide) ?_
                cases H
                exact aw_ret dX7_readsOne_114 rfl rfl rfl rfl ⟨rfl, rfl⟩
def f_X7_readsBy_6 : Nat → zr → Int32 → Int32 → Int32 → Int32 → Int32 → Int32 → Option (Int32)
  | 0, _, _, _, _, _, _, _ => none
  | k + 1, s, x1, x2, x3, x4, x5, x6 =>
    if (16 : Int32) ≤ x6 then (
      some x5
    ) else (
      if f_X7_has x2 x6 = true then (
        Option.bind (f_X7_readsOne s x1 x6 x3 x4) fun v3 =>
        zlt (x5 ||| (v3 <<< (x6 &&& 31)) : Int32) fun y4 =>
        f_X7_readsBy_6 k s x1 x2 x3 x4 y4 (x6 + 1)
      ) else (
        zlt (x5 ||| 0 : Int32) fun y6 =>
        f_X7_readsBy_6 k s x1 x2 x3 x4 y6 (x6 + 1)
      )
    )
set_option maxHeartbeats 4000000 in
set_option maxRecDepth 100000 in
theorem L_X7_readsBy_6 {G : zG} {sl : Nat} {P : Option Value → zH → Prop} (sg : zs) (x1 : Int32) (x2 : Int32) (x3 : Int32) (x4 : Int32) : ∀ (k : Nat) (s : zr) (x5 : Int32) (x6 : Int32) (e : Int32), f_X7_readsBy_6 k s x1 x2 x3 x4 x5 x6 = some e → (AV G M_X7_readsBy 3 sl P 50 [none, none, none, none, none, some (.int e), none] [] (zT sg s)) → AV G M_X7_readsBy 3 sl P 6 [some (.ref 120), some (.int x1), some (.int x2), some (.int x3), some (.int x4), some (.int x5), some (.int x6)] [] (zT sg s) := by
  intro k
  induction k with
  | zero =>
    intro s x5 x6 e H
    unfold f_X7_readsBy_6 at H
    cases H
  | succ k ih =>
    intro s x5 x6 e H KE
    unfold f_X7_readsBy_6 at H
    refine aw_iload (q := 8) dX7_readsBy_6 rfl rfl ?_
    refine aw_bipush (q := 10) (v := 16) dX7_readsBy_8 rfl (by decide) ?_
    refine aw_icmp_ge (q := 13) (t := 50) dX7_readsBy_10 rfl (by decide) (fun h1 => ?_) (fun h1 => ?_)
    · replace H := zt h1 H
      cases H
      exact aw_fewer (L' := [none, none, none, none, none, some (.int x5), none]) ⟨rfl, trivial⟩ KE
    · replace H := zf h1 H
      refine aw_iload (q := 15) dX7_readsBy_13 rfl rfl ?_
      refine aw_iload_n (q := 16) dX7_readsBy_15 rfl rfl ?_
      refine aw_iload (q := 18) dX7_readsBy_16 rfl rfl ?_
      refine aw_cs (M' := M_X7_has) (as := [.int x2, .int x6]) (q := 21) dX7_readsBy_18 rfl W_X7_has k_X7_36 s_X7_has rfl rfl (by decide) (Nat.le_of_ble_eq_true rfl) (c_X7_has (zT sg s) x2 x6) (Nat.le_refl _) (Nat.le_refl _) ?_
      rintro r9 h9 ⟨rfl, rfl⟩
      refine aw_ifeqB (q := 24) (t := 40) dX7_readsBy_21 rfl (by decide) (fun h2 => ?_) (fun h2 => ?_)
      · replace H := zt h2 H
        refine aw_aload_n (q := 25) dX7_readsBy_24 rfl rfl ?_
        refine aw_iload_n (q := 26) dX7_readsBy_25 rfl rfl ?_
        refine aw_iload (q := 28) dX7_readsBy_26 rfl rfl ?_
        refine aw_iload_n (q := 29) dX7_readsBy_28 rfl rfl ?_
        refine aw_iload (q := 31) dX7_readsBy_29 rfl rfl ?_
        obtain ⟨v3, hv3, H⟩ := zbd H
        refine aw_cv (M' := M_X7_readsOne) (as := [.int x1, .int x6, .int x3, .int x4]) (q := 34) dX7_readsBy_31 rfl W_X7_readsOne k_X7_124 i_X7_readsOne v_X7_readsOne (by decide) (o_X7 sg s) rfl rfl rfl (by decide) (Nat.le_of_ble_eq_true rfl) (c_X7_readsOne sg s x1 x6 x3 x4 hv3) (Nat.le_refl _) (Nat.le_refl _) ?_
        rintro r9 h9 ⟨rfl, rfl⟩
        refine aw_iload (q := 36) dX7_readsBy_34 rfl rfl ?_
        refine aw_ishl (q := 37) dX7_readsBy_36 rfl ?_
        refine aw_goto (q := 41) dX7_readsBy_37 (by decide) ?_
        refine aw_ior (q := 42) dX7_readsBy_41 rfl ?_
        obtain ⟨y4, q5, H⟩ := zltd H
        refine aw_nm q5 ?_
        refine aw_istore (q := 44) (L' := [some (.ref 120), some (.int x1), some (.int x2), some (.int x3), some (.int x4), some (.int y4), some (.int x6)]) dX7_readsBy_42 rfl (by decide) rfl rfl ?_
        refine aw_iinc (q := 47) (v := x6 + 1) (L' := [some (.ref 120), some (.int x1), some (.int x2), some (.int x3), some (.int x4), some (.int y4), some (.int (x6 + 1))]) dX7_readsBy_44 rfl rfl (by first | rfl | decide) (by decide) rfl rfl ?_
        refine aw_goto (q := 6) dX7_readsBy_47 (by decide) ?_
        exact aw_fewer (L' := [some (.ref 120), some (.int x1), some (.int x2), some (.int x3), some (.int x4), some (.int y4), some (.int (x6 + 1))]) ⟨rfl, ⟨rfl, ⟨rfl, ⟨rfl, ⟨rfl, ⟨rfl, ⟨rfl, trivial⟩⟩⟩⟩⟩⟩⟩ (ih s y4 (x6 + 1) _ H KE)
      · replace H := zf h2 H
        refine aw_iconst (q := 41) (v := 0) dX7_readsBy_40 rfl (by decide) ?_
        refine aw_ior (q := 42) dX7_readsBy_41 rfl ?_
        obtain ⟨y6, q7, H⟩ := zltd H
        refine aw_nm q7 ?_
        refine aw_istore (q := 44) (L' := [some (.ref 120), some (.int x1), some (.int x2), some (.int x3), some (.int x4), some (.int y6), some (.int x6)]) dX7_readsBy_42 rfl (by decide) rfl rfl ?_
        refine aw_iinc (q := 47) (v := x6 + 1) (L' := [some (.ref 120), some (.int x1), some (.int x2), some (.int x3), some (.int x4), some (.int y6), some (.int (x6 + 1))]) dX7_readsBy_44 rfl rfl (by first | rfl | decide) (by decide) rfl rfl ?_
        refine aw_goto (q := 6) dX7_readsBy_47 (by decide) ?_
        exact aw_fewer (L' := [some (.ref 120), some (.int x1), some (.int x2), some (.int x3), some (.int x4), some (.int y6), some (.int (x6 + 1))]) ⟨rfl, ⟨rfl, ⟨rfl, ⟨rfl, ⟨rfl, ⟨rfl, ⟨rfl, trivial⟩⟩⟩⟩⟩⟩⟩ (ih s y6 (x6 + 1) _ H KE)
def f_X7_readsBy (s : zr) (x1 : Int32) (x2 : Int32) (x3 : Int32) (x4 : Int32) : Option Int32 :=
  Option.bind (f_X7_readsBy_6 zFu s x1 x2 x3 x4 0 0) fun e1 =>
  some e1
set_option maxHeartbeats 4000000 in
set_option maxRecDepth 100000 in
theorem c_X7_readsBy {G : zG} {sl : Nat} (sg : zs) (s : zr) (x1 : Int32) (x2 : Int32) (x3 : Int32) (x4 : Int32) {v9 : Int32} (H : f_X7_readsBy s x1 x2 x3 x4 = some v9) : zMv G 3 M_X7_readsBy [.ref 120, .int x1, .int x2, .int x3, .int x4] sl (zT sg s) (fun r h' => r = some (.int v9) ∧ h' = (zT sg s)) := by
  unfold f_X7_readsBy at H
  refine zMv_of (L := [some (.ref 120), some (.int x1), some (.int x2), some (.int x3), some (.int x4), none, none]) (by decide) rfl (Nat.le_of_ble_eq_true rfl) rfl ?_
  refine aw_iconst (q := 1) (v := 0) dX7_readsBy_0 rfl (by decide) ?_
  refine aw_istore (q := 3) (L' := [some (.ref 120), some (.int x1), some (.int x2), some (.int x3), some (.int x4), some (.int 0), none]) dX7_readsBy_1 rfl (by decide) rfl rfl ?_
  refine aw_iconst (q := 4) (v := 0) dX7_readsBy_3 rfl (by decide) ?_
  refine aw_istore (q := 6) (L' := [some (.ref 120), some (.int x1), some (.int x2), some (.int x3), some (.int x4), some (.int 0), some (.int 0)]) dX7_readsBy_4 rfl (by decide) rfl rfl ?_
  obtain ⟨e1, he1, H⟩ := zbd H
  refine aw_fewer (L' := [some (.ref 120), some (.int x1), some (.int x2), some (.int x3), some (.int x4), some (.int 0), some (.int 0)]) ⟨rfl, ⟨rfl, ⟨rfl, ⟨rfl, ⟨rfl, ⟨rfl, ⟨rfl, trivial⟩⟩⟩⟩⟩⟩⟩ ?_
  refine L_X7_readsBy_6 sg x1 x2 x3 x4 zFu s 0 0 e1 he1 ?_
  refine aw_iload (q := 52) dX7_readsBy_50 rfl rfl ?_
  cases H
  exact aw_ret dX7_readsBy_52 rfl rfl rfl rfl ⟨rfl, rfl⟩
def f_X7_measuresOne_36 : Nat → zr → Int32 → Int32 → Int32 → Int32 → Int32 → Option (zr)
  | 0, _, _, _, _, _, _ => none
  | k + 1, s, x2, x4, x5, x6, x7 =>
    if (2 : Int32) ≤ x7 then (
      some s
    ) else (
      if f_X7_has x5 x6 = true then (
        Option.bind (f_X7_readsBy s x2 x5 x6 x7) fun v3 =>
        if zin (((x4 + 1) + ((2 : Int32) * x6)) + x7) 363 = true then
        zlt (zm s 4 ((((x4 + 1) + ((2 : Int32) * x6)) + x7).toNatClampNeg) v3) fun s5 =>
        f_X7_measuresOne_36 k s5 x2 x4 x5 x6 (x7 + 1)
        else none
      ) else (
        if zin (((x4 + 1) + ((2 : Int32) * x6)) + x7) 363 = true then
        zlt (zm s 4 ((((x4 + 1) + ((2 : Int32) * x6)) + x7).toNatClampNeg) (-1)) fun s8 =>
        f_X7_measuresOne_36 k s8 x2 x4 x5 x6 (x7 + 1)
        else none
      )
    )
set_option maxHeartbeats 4000000 in
set_option maxRecDepth 100000 in
theorem L_X7_measuresOne_36 {G : zG} {sl : Nat} {P : Option Value → zH → Prop} (sg : zs) (x2 : Int32) (x4 : Int32) (x5 : Int32) (x6 : Int32) : ∀ (k : Nat) (s : zr) (x7 : Int32) (e : zr), f_X7_measuresOne_36 k s x2 x4 x5 x6 x7 = some e → (AV G M_X7_measuresOne 7 sl P 90 [some (.ref 120), none, some (.int x2), none, some (.int x4), some (.int x5), some (.int x6), none] [] (zT sg e)) → AV G M_X7_measuresOne 7 sl P 36 [some (.ref 120), none, some (.int x2), none, some (.int x4), some (.int x5), some (.int x6), some (.int x7)] [] (zT sg s) := by
  intro k
  induction k with
  | zero =>
    intro s x7 e H
    unfold f_X7_measuresOne_36 at H
    cases H
  | succ k ih =>
    intro s x7 e H KE
    unfold f_X7_measuresOne_36 at H
    refine aw_iload (q := 38) dX7_measuresOne_36 rfl rfl ?_
    refine aw_iconst (q := 39) (v := 2) dX7_measuresOne_38 rfl (by decide) ?_
    refine aw_icmp_ge (q := 42) (t := 90) dX7_measuresOne_39 rfl (by decide) (fun h1 => ?_) (fun h1 => ?_)
    · replace H := zt h1 H
      cases H
      exact aw_fewer (L' := [some (.ref 120), none, some (.int x2), none, some (.int x4), some (.int x5), some (.int x6), none]) ⟨rfl, ⟨rfl, ⟨rfl, ⟨rfl, ⟨rfl, trivial⟩⟩⟩⟩⟩ KE
    · replace H := zf h1 H
      refine aw_aload_n (q := 43) dX7_measuresOne_42 rfl rfl ?_
      refine aw_getr (q := 46) dX7_measuresOne_43 rfl e_X7_19 (by decide) (o_X7 sg s) rfl ?_
      refine aw_iload (q := 48) dX7_measuresOne_46 rfl rfl ?_
      refine aw_iconst (q := 49) (v := 1) dX7_measuresOne_48 rfl (by decide) ?_
      refine aw_iadd (q := 50) dX7_measuresOne_49 rfl ?_
      refine aw_iconst (q := 51) (v := 2) dX7_measuresOne_50 rfl (by decide) ?_
      refine aw_iload (q := 53) dX7_measuresOne_51 rfl rfl ?_
      refine aw_imul (q := 54) dX7_measuresOne_53 rfl ?_
      refine aw_iadd (q := 55) dX7_measuresOne_54 rfl ?_
      refine aw_iload (q := 57) dX7_measuresOne_55 rfl rfl ?_
      refine aw_iadd (q := 58) dX7_measuresOne_57 rfl ?_
      refine aw_iload (q := 60) dX7_measuresOne_58 rfl rfl ?_
      refine aw_iload (q := 62) dX7_measuresOne_60 rfl rfl ?_
      refine aw_cs (M' := M_X7_has) (as := [.int x5, .int x6]) (q := 65) dX7_measuresOne_62 rfl W_X7_has k_X7_36 s_X7_has rfl rfl (by decide) (Nat.le_of_ble_eq_true rfl) (c_X7_has (zT sg s) x5 x6) (Nat.le_refl _) (Nat.le_refl _) ?_
      rintro r9 h9 ⟨rfl, rfl⟩
      refine aw_ifeqB (q := 68) (t := 82) dX7_measuresOne_65 rfl (by decide) (fun h2 => ?_) (fun h2 => ?_)
      · replace H := zt h2 H
        refine aw_aload_n (q := 69) dX7_measuresOne_68 rfl rfl ?_
        refine aw_iload_n (q := 70) dX7_measuresOne_69 rfl rfl ?_
        refine aw_iload (q := 72) dX7_measuresOne_70 rfl rfl ?_
        refine aw_iload (q := 74) dX7_measuresOne_72 rfl rfl ?_
        refine aw_iload (q := 76) dX7_measuresOne_74 rfl rfl ?_
        obtain ⟨v3, hv3, H⟩ := zbd H
        refine aw_cv (M' := M_X7_readsBy) (as := [.int x2, .int x5, .int x6, .int x7]) (q := 79) dX7_measuresOne_76 rfl W_X7_readsBy k_X7_131 i_X7_readsBy v_X7_readsBy (by decide) (o_X7 sg s) rfl rfl rfl (by decide) (Nat.le_of_ble_eq_true rfl) (c_X7_readsBy sg s x2 x5 x6 x7 hv3) (Nat.le_refl _) (Nat.le_refl _) ?_
        rintro r9 h9 ⟨rfl, rfl⟩
        refine aw_goto (q := 83) dX7_measuresOne_79 (by decide) ?_
        obtain ⟨h4, H⟩ := zio H
        obtain ⟨s5, q6, H⟩ := zltd H
        refine aw_iast (q := 84) dX7_measuresOne_83 rfl (by decide) (o_X7a4 sg s) (zin_in h4) ((p_X7a4).trans (congrArg (fun z => zT sg z) q6.symm)) ?_
        refine aw_iinc (q := 87) (v := x7 + 1) (L' := [some (.ref 120), none, some (.int x2), none, some (.int x4), some (.int x5), some (.int x6), some (.int (x7 + 1))]) dX7_measuresOne_84 rfl rfl (by first | rfl | decide) (by decide) rfl rfl ?_
        refine aw_goto (q := 36) dX7_measuresOne_87 (by decide) ?_
        exact aw_fewer (L' := [some (.ref 120), none, some (.int x2), none, some (.int x4), some (.int x5), some (.int x6), some (.int (x7 + 1))]) ⟨rfl, ⟨rfl, ⟨rfl, ⟨rfl, ⟨rfl, ⟨rfl, trivial⟩⟩⟩⟩⟩⟩ (ih s5 (x7 + 1) _ H KE)
      · replace H := zf h2 H
        refine aw_iconst (q := 83) (v := (-1)) dX7_measuresOne_82 rfl (by decide) ?_
        obtain ⟨h7, H⟩ := zio H
        obtain ⟨s8, q9, H⟩ := zltd H
        refine aw_iast (q := 84) dX7_measuresOne_83 rfl (by decide) (o_X7a4 sg s) (zin_in h7) ((p_X7a4).trans (congrArg (fun z => zT sg z) q9.symm)) ?_
        refine aw_iinc (q := 87) (v := x7 + 1) (L' := [some (.ref 120), none, some (.int x2), none, some (.int x4), some (.int x5), some (.int x6), some (.int (x7 + 1))]) dX7_measuresOne_84 rfl rfl (by first | rfl | decide) (by decide) rfl rfl ?_
        refine aw_goto (q := 36) dX7_measuresOne_87 (by decide) ?_
        exact aw_fewer (L' := [some (.ref 120), none, some (.int x2), none, some (.int x4), some (.int x5), some (.int x6), some (.int (x7 + 1))]) ⟨rfl, ⟨rfl, ⟨rfl, ⟨rfl, ⟨rfl, ⟨rfl, trivial⟩⟩⟩⟩⟩⟩ (ih s8 (x7 + 1) _ H KE)
def f_X7_measuresOne_26 : Nat → zr → Int32 → Int32 → Int32 → Int32 → Option (zr)
  | 0, _, _, _, _, _ => none
  | k + 1, s, x2, x4, x5, x6 =>
    if (16 : Int32) ≤ x6 then (
      some s
    ) else (
      Option.bind (f_X7_measuresOne_36 zFu s x2 x4 x5 x6 0) fun e2 =>
      f_X7_measuresOne_26 k e2 x2 x4 x5 (x6 + 1)
    )
set_option maxHeartbeats 4000000 in
set_option maxRecDepth 100000 in
theorem L_X7_measuresOne_26 {G : zG} {sl : Nat} {P : Option Value → zH → Prop} (sg : zs) (x2 : Int32) (x4 : Int32) (x5 : Int32) : ∀ (k : Nat) (s : zr) (x6 : Int32) (e : zr), f_X7_measuresOne_26 k s x2 x4 x5 x6 = some e → (AV G M_X7_measuresOne 7 sl P 96 [none, none, none, none, none, none, none, none] [] (zT sg e)) → AV G M_X7_measuresOne 7 sl P 26 [some (.ref 120), none, some (.int x2), none, some (.int x4), some (.int x5), some (.int x6), none] [] (zT sg s) := by
  intro k
  induction k with
  | zero =>
    intro s x6 e H
    unfold f_X7_measuresOne_26 at H
    cases H
  | succ k ih =>
    intro s x6 e H KE
    unfold f_X7_measuresOne_26 at H
    refine aw_iload (q := 28) dX7_measuresOne_26 rfl rfl ?_
    refine aw_bipush (q := 30) (v := 16) dX7_measuresOne_28 rfl (by decide) ?_
    refine aw_icmp_ge (q := 33) (t := 96) dX7_measuresOne_30 rfl (by decide) (fun h1 => ?_) (fun h1 => ?_)
    · replace H := zt h1 H
      cases H
      exact aw_fewer (L' := [none, none, none, none, none, none, none, none]) trivial KE
    · replace H := zf h1 H
      refine aw_iconst (q := 34) (v := 0) dX7_measuresOne_33 rfl (by decide) ?_
      refine aw_istore (q := 36) (L' := [some (.ref 120), none, some (.int x2), none, some (.int x4), some (.int x5), some (.int x6), some (.int 0)]) dX7_measuresOne_34 rfl (by decide) rfl rfl ?_
      obtain ⟨e2, he2, H⟩ := zbd H
      refine aw_fewer (L' := [some (.ref 120), none, some (.int x2), none, some (.int x4), some (.int x5), some (.int x6), some (.int 0)]) ⟨rfl, ⟨rfl, ⟨rfl, ⟨rfl, ⟨rfl, ⟨rfl, trivial⟩⟩⟩⟩⟩⟩ ?_
      refine L_X7_measuresOne_36 sg x2 x4 x5 x6 zFu s 0 e2 he2 ?_
      refine aw_iinc (q := 93) (v := x6 + 1) (L' := [some (.ref 120), none, some (.int x2), none, some (.int x4), some (.int x5), some (.int (x6 + 1)), none]) dX7_measuresOne_90 rfl rfl (by first | rfl | decide) (by decide) rfl rfl ?_
      refine aw_goto (q := 26) dX7_measuresOne_93 (by decide) ?_
      exact aw_fewer (L' := [some (.ref 120), none, some (.int x2), none, some (.int x4), some (.int x5), some (.int (x6 + 1)), none]) ⟨rfl, ⟨rfl, ⟨rfl, ⟨rfl, ⟨rfl, trivial⟩⟩⟩⟩⟩ (ih e2 (x6 + 1) _ H KE)
def f_X7_measuresOne (s : zr) (x1 : Int32) (x2 : Int32) (x3 : Int32) : Option zr :=
  zlt (x1 * 33 : Int32) fun y1 =>
  Option.bind (f_X7_reachedBy s x2 x3) fun v3 =>
  if zin y1 363 = true then
  zlt (zm s 4 y1.toNatClampNeg v3) fun s5 =>
  Option.bind (f_X7_measuresOne_26 zFu s5 x2 y1 v3 0) fun e7 =>
  some e7
  else none
set_option maxHeartbeats 4000000 in
set_option maxRecDepth 100000 in
theorem c_X7_measuresOne {G : zG} {sl : Nat} (sg : zs) (s : zr) (x1 : Int32) (x2 : Int32) (x3 : Int32) {v9 : zr} (H : f_X7_measuresOne s x1 x2 x3 = some v9) : zMv G 7 M_X7_measuresOne [.ref 120, .int x1, .int x2, .int x3] sl (zT sg s) (fun r h' => r = none ∧ h' = zT sg v9) := by
  unfold f_X7_measuresOne at H
  refine zMv_of (L := [some (.ref 120), some (.int x1), some (.int x2), some (.int x3), none, none, none, none]) (by decide) rfl (Nat.le_of_ble_eq_true rfl) rfl ?_
  refine aw_iload_n (q := 1) dX7_measuresOne_0 rfl rfl ?_
  refine aw_bipush (q := 3) (v := 33) dX7_measuresOne_1 rfl (by decide) ?_
  refine aw_imul (q := 4) dX7_measuresOne_3 rfl ?_
  obtain ⟨y1, q2, H⟩ := zltd H
  refine aw_nm q2 ?_
  refine aw_istore (q := 6) (L' := [some (.ref 120), some (.int x1), some (.int x2), some (.int x3), some (.int y1), none, none, none]) dX7_measuresOne_4 rfl (by decide) rfl rfl ?_
  refine aw_aload_n (q := 7) dX7_measuresOne_6 rfl rfl ?_
  refine aw_iload_n (q := 8) dX7_measuresOne_7 rfl rfl ?_
  refine aw_iload_n (q := 9) dX7_measuresOne_8 rfl rfl ?_
  obtain ⟨v3, hv3, H⟩ := zbd H
  refine aw_cv (M' := M_X7_reachedBy) (as := [.int x2, .int x3]) (q := 12) dX7_measuresOne_9 rfl W_X7_reachedBy k_X7_128 i_X7_reachedBy v_X7_reachedBy (by decide) (o_X7 sg s) rfl rfl rfl (by decide) (Nat.le_of_ble_eq_true rfl) (c_X7_reachedBy sg s x2 x3 hv3) (Nat.le_refl _) (Nat.le_refl _) ?_
  rintro r9 h9 ⟨rfl, rfl⟩
  refine aw_istore (q := 14) (L' := [some (.ref 120), some (.int x1), some (.int x2), some (.int x3), some (.int y1), some (.int v3), none, none]) dX7_measuresOne_12 rfl (by decide) rfl rfl ?_
  refine aw_aload_n (q := 15) dX7_measuresOne_14 rfl rfl ?_
  refine aw_getr (q := 18) dX7_measuresOne_15 rfl e_X7_19 (by decide) (o_X7 sg s) rfl ?_
  refine aw_iload (q := 20) dX7_measuresOne_18 rfl rfl ?_
  refine aw_iload (q := 22) dX7_measuresOne_20 rfl rfl ?_
  obtain ⟨h4, H⟩ := zio H
  obtain ⟨s5, q6, H⟩ := zltd H
  refine aw_iast (q := 23) dX7_measuresOne_22 rfl (by decide) (o_X7a4 sg s) (zin_in h4) ((p_X7a4).trans (congrArg (fun z => zT sg z) q6.symm)) ?_
  refine aw_iconst (q := 24) (v := 0) dX7_measuresOne_23 rfl (by decide) ?_
  refine aw_istore (q := 26) (L' := [some (.ref 120), some (.int x1), some (.int x2), some (.int x3), some (.int y1), some (.int v3), some (.int 0), none]) dX7_measuresOne_24 rfl (by decide) rfl rfl ?_
  obtain ⟨e7, he7, H⟩ := zbd H
  refine aw_fewer (L' := [some (.ref 120), none, some (.int x2), none, some (.int y1), some (.int v3), some (.int 0), none]) ⟨rfl, ⟨rfl, ⟨rfl, ⟨rfl, ⟨rfl, trivial⟩⟩⟩⟩⟩ ?_
  refine L_X7_measuresOne_26 sg x2 y1 v3 zFu s5 0 e7 he7 ?_
  cases H
  exact aw_vret dX7_measuresOne_96 rfl rfl rfl ⟨rfl, rfl⟩
def f_X7_isBoard (s : zr) (x1 : Int32) : Bool :=
  if x1 = 10 then (
    true
  ) else (
    if (s 1 2) ≤ x1 then (
      false
    ) else (
      true
    )
  )
set_option maxHeartbeats 4000000 in
set_option maxRecDepth 100000 in
theorem c_X7_isBoard {G : zG} {sl : Nat} (sg : zs) (s : zr) (x1 : Int32)  : zMv G 0 M_X7_isBoard [.ref 120, .int x1] sl (zT sg s) (fun r h' => r = some (.int (zb (f_X7_isBoard s x1))) ∧ h' = (zT sg s)) := by
  generalize H : f_X7_isBoard s x1 = r0
  unfold f_X7_isBoard at H
  refine zMv_of (L := [some (.ref 120), some (.int x1)]) (by decide) rfl (Nat.le_of_ble_eq_true rfl) rfl ?_
  refine aw_iload_n (q := 1) dX7_isBoard_0 rfl rfl ?_
  refine aw_bipush (q := 3) (v := 10) dX7_isBoard_1 rfl (by decide) ?_
  refine aw_icmp_eq (q := 6) (t := 16) dX7_isBoard_3 rfl (by decide) (fun h1 => ?_) (fun h1 => ?_)
  · replace H := zt h1 H
    refine aw_iconst (q := 17) (v := 1) dX7_isBoard_16 rfl (by decide) ?_
    refine aw_goto (q := 21) dX7_isBoard_17 (by decide) ?_
    subst H
    exact aw_ret dX7_isBoard_21 rfl rfl rfl rfl ⟨rfl, rfl⟩
  · replace H := zf h1 H
    refine aw_iload_n (q := 7) dX7_isBoard_6 rfl rfl ?_
    refine aw_aload_n (q := 8) dX7_isBoard_7 rfl rfl ?_
    refine aw_getr (q := 11) dX7_isBoard_8 rfl e_X7_7 (by decide) (o_X7 sg s) rfl ?_
    refine aw_iconst (q := 12) (v := 2) dX7_isBoard_11 rfl (by decide) ?_
    refine aw_iald' (q := 13) (v := s 1 2) dX7_isBoard_12 rfl (by decide) (o_X7a0 sg s) (zin_in (by decide)) rfl ?_
    refine aw_icmp_ge (q := 16) (t := 20) dX7_isBoard_13 rfl (by decide) (fun h2 => ?_) (fun h2 => ?_)
    · replace H := zt h2 H
      refine aw_iconst (q := 21) (v := 0) dX7_isBoard_20 rfl (by decide) ?_
      subst H
      exact aw_ret dX7_isBoard_21 rfl rfl rfl rfl ⟨rfl, rfl⟩
    · replace H := zf h2 H
      refine aw_iconst (q := 17) (v := 1) dX7_isBoard_16 rfl (by decide) ?_
      refine aw_goto (q := 21) dX7_isBoard_17 (by decide) ?_
      subst H
      exact aw_ret dX7_isBoard_21 rfl rfl rfl rfl ⟨rfl, rfl⟩
def f_X7_slotOf (x0 : Int32) : Int32 :=
  if x0 = (-1) then (
    10
  ) else (
    x0
  )
set_option maxHeartbeats 4000000 in
set_option maxRecDepth 100000 in
theorem c_X7_slotOf {G : zG} {sl : Nat} (h : zH) (x0 : Int32)  : zMv G 0 M_X7_slotOf [.int x0] sl h (fun r h' => r = some (.int (f_X7_slotOf x0)) ∧ h' = h) := by
  generalize H : f_X7_slotOf x0 = r0
  unfold f_X7_slotOf at H
  refine zMv_of (L := [some (.int x0)]) (by decide) rfl (Nat.le_of_ble_eq_true rfl) rfl ?_
  refine aw_iload_n (q := 1) dX7_slotOf_0 rfl rfl ?_
  refine aw_iconst (q := 2) (v := (-1)) dX7_slotOf_1 rfl (by decide) ?_
  refine aw_icmp_neP (q := 5) (t := 10) dX7_slotOf_2 rfl (by decide) (fun h1 => ?_) (fun h1 => ?_)
  · replace H := zt h1 H
    refine aw_bipush (q := 7) (v := 10) dX7_slotOf_5 rfl (by decide) ?_
    refine aw_goto (q := 11) dX7_slotOf_7 (by decide) ?_
    subst H
    exact aw_ret dX7_slotOf_11 rfl rfl rfl rfl ⟨rfl, rfl⟩
  · replace H := zf h1 H
    refine aw_iload_n (q := 11) dX7_slotOf_10 rfl rfl ?_
    subst H
    exact aw_ret dX7_slotOf_11 rfl rfl rfl rfl ⟨rfl, rfl⟩
def f_X7_measures_2 : Nat → zr → Int32 → Int32 → Option (zr)
  | 0, _, _, _ => none
  | k + 1, s, x1, x2 =>
    if (10 : Int32) < x2 then (
      some s
    ) else (
      if f_X7_isBoard s x2 = true then (
        if x2 = 10 then (
          Option.bind (f_X7_measuresOne s x2 (-1) x1) fun v4 =>
          f_X7_measures_2 k v4 x1 (x2 + 1)
        ) else (
          Option.bind (f_X7_measuresOne s x2 x2 x1) fun v5 =>
          f_X7_measures_2 k v5 x1 (x2 + 1)
        )
      ) else (
        f_X7_measures_2 k s x1 (x2 + 1)
      )
    )
set_option maxHeartbeats 4000000 in
set_option maxRecDepth 100000 in
theorem L_X7_measures_2 {G : zG} {sl : Nat} {P : Option Value → zH → Prop} (sg : zs) (x1 : Int32) : ∀ (k : Nat) (s : zr) (x2 : Int32) (e : zr), f_X7_measures_2 k s x1 x2 = some e → (AV G M_X7_measures 8 sl P 39 [none, none, none] [] (zT sg e)) → AV G M_X7_measures 8 sl P 2 [some (.ref 120), some (.int x1), some (.int x2)] [] (zT sg s) := by
  intro k
  induction k with
  | zero =>
    intro s x2 e H
    unfold f_X7_measures_2 at H
    cases H
  | succ k ih =>
    intro s x2 e H KE
    unfold f_X7_measures_2 at H
    refine aw_iload_n (q := 3) dX7_measures_2 rfl rfl ?_
    refine aw_bipush (q := 5) (v := 10) dX7_measures_3 rfl (by decide) ?_
    refine aw_icmp_gt (q := 8) (t := 39) dX7_measures_5 rfl (by decide) (fun h1 => ?_) (fun h1 => ?_)
    · replace H := zt h1 H
      cases H
      exact aw_fewer (L' := [none, none, none]) trivial KE
    · replace H := zf h1 H
      refine aw_aload_n (q := 9) dX7_measures_8 rfl rfl ?_
      refine aw_iload_n (q := 10) dX7_measures_9 rfl rfl ?_
      refine aw_cv (M' := M_X7_isBoard) (as := [.int x2]) (q := 13) dX7_measures_10 rfl W_X7_isBoard k_X7_134 i_X7_isBoard v_X7_isBoard (by decide) (o_X7 sg s) rfl rfl rfl (by decide) (Nat.le_of_ble_eq_true rfl) (c_X7_isBoard sg s x2) (Nat.le_refl _) (Nat.le_refl _) ?_
      rintro r9 h9 ⟨rfl, rfl⟩
      refine aw_ifeqB (q := 16) (t := 33) dX7_measures_13 rfl (by decide) (fun h2 => ?_) (fun h2 => ?_)
      · replace H := zt h2 H
        refine aw_aload_n (q := 17) dX7_measures_16 rfl rfl ?_
        refine aw_iload_n (q := 18) dX7_measures_17 rfl rfl ?_
        refine aw_iload_n (q := 19) dX7_measures_18 rfl rfl ?_
        refine aw_bipush (q := 21) (v := 10) dX7_measures_19 rfl (by decide) ?_
        refine aw_icmp_neP (q := 24) (t := 28) dX7_measures_21 rfl (by decide) (fun h3 => ?_) (fun h3 => ?_)
        · replace H := zt h3 H
          refine aw_iconst (q := 25) (v := (-1)) dX7_measures_24 rfl (by decide) ?_
          refine aw_goto (q := 29) dX7_measures_25 (by decide) ?_
          refine aw_iload_n (q := 30) dX7_measures_29 rfl rfl ?_
          obtain ⟨v4, hv4, H⟩ := zbd H
          refine aw_cv (M' := M_X7_measuresOne) (as := [.int x2, .int (-1), .int x1]) (q := 33) dX7_measures_30 rfl W_X7_measuresOne k_X7_137 i_X7_measuresOne v_X7_measuresOne (by decide) (o_X7 sg s) rfl rfl rfl (by decide) (Nat.le_of_ble_eq_true rfl) (c_X7_measuresOne sg s x2 (-1) x1 hv4) (Nat.le_refl _) (Nat.le_refl _) ?_
          rintro r9 h9 ⟨rfl, rfl⟩
          refine aw_iinc (q := 36) (v := x2 + 1) (L' := [some (.ref 120), some (.int x1), some (.int (x2 + 1))]) dX7_measures_33 rfl rfl (by first | rfl | decide) (by decide) rfl rfl ?_
          refine aw_goto (q := 2) dX7_measures_36 (by decide) ?_
          exact aw_fewer (L' := [some (.ref 120), some (.int x1), some (.int (x2 + 1))]) ⟨rfl, ⟨rfl, ⟨rfl, trivial⟩⟩⟩ (ih v4 (x2 + 1) _ H KE)
        · replace H := zf h3 H
          refine aw_iload_n (q := 29) dX7_measures_28 rfl rfl ?_
          refine aw_iload_n (q := 30) dX7_measures_29 rfl rfl ?_
          obtain ⟨v5, hv5, H⟩ := zbd H
          refine aw_cv (M' := M_X7_measuresOne) (as := [.int x2, .int x2, .int x1]) (q := 33) dX7_measures_30 rfl W_X7_measuresOne k_X7_137 i_X7_measuresOne v_X7_measuresOne (by decide) (o_X7 sg s) rfl rfl rfl (by decide) (Nat.le_of_ble_eq_true rfl) (c_X7_measuresOne sg s x2 x2 x1 hv5) (Nat.le_refl _) (Nat.le_refl _) ?_
          rintro r9 h9 ⟨rfl, rfl⟩
          refine aw_iinc (q := 36) (v := x2 + 1) (L' := [some (.ref 120), some (.int x1), some (.int (x2 + 1))]) dX7_measures_33 rfl rfl (by first | rfl | decide) (by decide) rfl rfl ?_
          refine aw_goto (q := 2) dX7_measures_36 (by decide) ?_
          exact aw_fewer (L' := [some (.ref 120), some (.int x1), some (.int (x2 + 1))]) ⟨rfl, ⟨rfl, ⟨rfl, trivial⟩⟩⟩ (ih v5 (x2 + 1) _ H KE)
      · replace H := zf h2 H
        refine aw_iinc (q := 36) (v := x2 + 1) (L' := [some (.ref 120), some (.int x1), some (.int (x2 + 1))]) dX7_measures_33 rfl rfl (by first | rfl | decide) (by decide) rfl rfl ?_
        refine aw_goto (q := 2) dX7_measures_36 (by decide) ?_
        exact aw_fewer (L' := [some (.ref 120), some (.int x1), some (.int (x2 + 1))]) ⟨rfl, ⟨rfl, ⟨rfl, trivial⟩⟩⟩ (ih s (x2 + 1) _ H KE)
def f_X7_measures (s : zr) (x1 : Int32) : Option zr :=
  Option.bind (f_X7_measures_2 zFu s x1 0) fun e1 =>
  some e1
set_option maxHeartbeats 4000000 in
set_option maxRecDepth 100000 in
theorem c_X7_measures {G : zG} {sl : Nat} (sg : zs) (s : zr) (x1 : Int32) {v9 : zr} (H : f_X7_measures s x1 = some v9) : zMv G 8 M_X7_measures [.ref 120, .int x1] sl (zT sg s) (fun r h' => r = none ∧ h' = zT sg v9) := by
  unfold f_X7_measures at H
  refine zMv_of (L := [some (.ref 120), some (.int x1), none]) (by decide) rfl (Nat.le_of_ble_eq_true rfl) rfl ?_
  refine aw_iconst (q := 1) (v := 0) dX7_measures_0 rfl (by decide) ?_
  refine aw_istore_n (q := 2) (L' := [some (.ref 120), some (.int x1), some (.int 0)]) dX7_measures_1 rfl (by decide) rfl rfl ?_
  obtain ⟨e1, he1, H⟩ := zbd H
  refine aw_fewer (L' := [some (.ref 120), some (.int x1), some (.int 0)]) ⟨rfl, ⟨rfl, ⟨rfl, trivial⟩⟩⟩ ?_
  refine L_X7_measures_2 sg x1 zFu s 0 e1 he1 ?_
  cases H
  exact aw_vret dX7_measures_39 rfl rfl rfl ⟨rfl, rfl⟩
def f_X7_isLike_2 : Nat → zr → Int32 → Int32 → Int32 → Option ((Unit) ⊕ (Bool))
  | 0, _, _, _, _ => none
  | k + 1, s, x1, x2, x3 =>
    if (33 : Int32) ≤ x3 then (
      some (Sum.inl ())
    ) else (
      if zin ((x1 * 33) + x3) 363 = true then
      if zin ((x2 * 33) + x3) 363 = true then
      if (s 4 (((x1 * 33) + x3).toNatClampNeg)) = (s 4 (((x2 * 33) + x3).toNatClampNeg)) then (
        f_X7_isLike_2 k s x1 x2 (x3 + 1)
      ) else (
        some (Sum.inr false)
      )
      else none
      else none
    )
set_option maxHeartbeats 4000000 in
set_option maxRecDepth 100000 in
theorem L_X7_isLike_2 {G : zG} {sl : Nat} {P : Option Value → zH → Prop} (sg : zs) (x1 : Int32) (x2 : Int32) : ∀ (k : Nat) (s : zr) (x3 : Int32) (e : (Unit) ⊕ (Bool)), f_X7_isLike_2 k s x1 x2 x3 = some e → (∀ x9, e = Sum.inl x9 → AV G M_X7_isLike 0 sl P 41 [none, none, none, none] [] (zT sg s)) → (∀ v9, e = Sum.inr v9 → P (some (.int (zb v9))) (zT sg s)) → AV G M_X7_isLike 0 sl P 2 [some (.ref 120), some (.int x1), some (.int x2), some (.int x3)] [] (zT sg s) := by
  intro k
  induction k with
  | zero =>
    intro s x3 e H
    unfold f_X7_isLike_2 at H
    cases H
  | succ k ih =>
    intro s x3 e H KE KR
    unfold f_X7_isLike_2 at H
    refine aw_iload_n (q := 3) dX7_isLike_2 rfl rfl ?_
    refine aw_bipush (q := 5) (v := 33) dX7_isLike_3 rfl (by decide) ?_
    refine aw_icmp_ge (q := 8) (t := 41) dX7_isLike_5 rfl (by decide) (fun h1 => ?_) (fun h1 => ?_)
    · replace H := zt h1 H
      cases H
      exact aw_fewer (L' := [none, none, none, none]) trivial (KE _ rfl)
    · replace H := zf h1 H
      refine aw_aload_n (q := 9) dX7_isLike_8 rfl rfl ?_
      refine aw_getr (q := 12) dX7_isLike_9 rfl e_X7_19 (by decide) (o_X7 sg s) rfl ?_
      refine aw_iload_n (q := 13) dX7_isLike_12 rfl rfl ?_
      refine aw_bipush (q := 15) (v := 33) dX7_isLike_13 rfl (by decide) ?_
      refine aw_imul (q := 16) dX7_isLike_15 rfl ?_
      refine aw_iload_n (q := 17) dX7_isLike_16 rfl rfl ?_
      refine aw_iadd (q := 18) dX7_isLike_17 rfl ?_
      obtain ⟨h2, H⟩ := zio H
      refine aw_iald' (q := 19) (v := s 4 (((x1 * 33) + x3).toNatClampNeg)) dX7_isLike_18 rfl (by decide) (o_X7a4 sg s) (zin_in h2) rfl ?_
      refine aw_aload_n (q := 20) dX7_isLike_19 rfl rfl ?_
      refine aw_getr (q := 23) dX7_isLike_20 rfl e_X7_19 (by decide) (o_X7 sg s) rfl ?_
      refine aw_iload_n (q := 24) dX7_isLike_23 rfl rfl ?_
      refine aw_bipush (q := 26) (v := 33) dX7_isLike_24 rfl (by decide) ?_
      refine aw_imul (q := 27) dX7_isLike_26 rfl ?_
      refine aw_iload_n (q := 28) dX7_isLike_27 rfl rfl ?_
      refine aw_iadd (q := 29) dX7_isLike_28 rfl ?_
      obtain ⟨h3, H⟩ := zio H
      refine aw_iald' (q := 30) (v := s 4 (((x2 * 33) + x3).toNatClampNeg)) dX7_isLike_29 rfl (by decide) (o_X7a4 sg s) (zin_in h3) rfl ?_
      refine aw_icmp_eq (q := 33) (t := 35) dX7_isLike_30 rfl (by decide) (fun h4 => ?_) (fun h4 => ?_)
      · replace H := zt h4 H
        refine aw_iinc (q := 38) (v := x3 + 1) (L' := [some (.ref 120), some (.int x1), some (.int x2), some (.int (x3 + 1))]) dX7_isLike_35 rfl rfl (by first | rfl | decide) (by decide) rfl rfl ?_
        refine aw_goto (q := 2) dX7_isLike_38 (by decide) ?_
        exact aw_fewer (L' := [some (.ref 120), some (.int x1), some (.int x2), some (.int (x3 + 1))]) ⟨rfl, ⟨rfl, ⟨rfl, ⟨rfl, trivial⟩⟩⟩⟩ (ih s (x3 + 1) _ H KE KR)
      · replace H := zf h4 H
        refine aw_iconst (q := 34) (v := 0) dX7_isLike_33 rfl (by decide) ?_
        cases H
        exact aw_ret dX7_isLike_34 rfl rfl rfl rfl (KR _ rfl)
def f_X7_isLike (s : zr) (x1 : Int32) (x2 : Int32) : Option Bool :=
  Option.bind (f_X7_isLike_2 zFu s x1 x2 0) fun e1 => match e1 with
  | Sum.inr r2 => some r2
  | Sum.inl e1i =>
  some true
set_option maxHeartbeats 4000000 in
set_option maxRecDepth 100000 in
theorem c_X7_isLike {G : zG} {sl : Nat} (sg : zs) (s : zr) (x1 : Int32) (x2 : Int32) {v9 : Bool} (H : f_X7_isLike s x1 x2 = some v9) : zMv G 0 M_X7_isLike [.ref 120, .int x1, .int x2] sl (zT sg s) (fun r h' => r = some (.int (zb v9)) ∧ h' = (zT sg s)) := by
  unfold f_X7_isLike at H
  refine zMv_of (L := [some (.ref 120), some (.int x1), some (.int x2), none]) (by decide) rfl (Nat.le_of_ble_eq_true rfl) rfl ?_
  refine aw_iconst (q := 1) (v := 0) dX7_isLike_0 rfl (by decide) ?_
  refine aw_istore_n (q := 2) (L' := [some (.ref 120), some (.int x1), some (.int x2), some (.int 0)]) dX7_isLike_1 rfl (by decide) rfl rfl ?_
  obtain ⟨e1, he1, H⟩ := zbd H
  refine aw_fewer (L' := [some (.ref 120), some (.int x1), some (.int x2), some (.int 0)]) ⟨rfl, ⟨rfl, ⟨rfl, ⟨rfl, trivial⟩⟩⟩⟩ ?_
  refine L_X7_isLike_2 sg x1 x2 zFu s 0 e1 he1 (fun e1i h9 => ?_) (fun r2 h9 => ?_)
  · subst h9
    replace H : _ = _ := H
    refine aw_iconst (q := 42) (v := 1) dX7_isLike_41 rfl (by decide) ?_
    cases H
    exact aw_ret dX7_isLike_42 rfl rfl rfl rfl ⟨rfl, rfl⟩
  · subst h9
    cases H
    exact ⟨rfl, rfl⟩
def f_X7_likeSet_4 : Nat → zr → Int32 → Int32 → Int32 → Option (Int32)
  | 0, _, _, _, _ => none
  | k + 1, s, x1, x2, x3 =>
    if (10 : Int32) < x3 then (
      some x2
    ) else (
      if f_X7_isBoard s x3 = true then (
        Option.bind (f_X7_isLike s x1 x3) fun v3 =>
        if v3 = true then (
          zlt (x2 ||| ((1 : Int32) <<< (x3 &&& 31)) : Int32) fun y5 =>
          f_X7_likeSet_4 k s x1 y5 (x3 + 1)
        ) else (
          zlt (x2 ||| 0 : Int32) fun y7 =>
          f_X7_likeSet_4 k s x1 y7 (x3 + 1)
        )
      ) else (
        zlt (x2 ||| 0 : Int32) fun y9 =>
        f_X7_likeSet_4 k s x1 y9 (x3 + 1)
      )
    )
set_option maxHeartbeats 4000000 in
set_option maxRecDepth 100000 in
theorem L_X7_likeSet_4 {G : zG} {sl : Nat} {P : Option Value → zH → Prop} (sg : zs) (x1 : Int32) : ∀ (k : Nat) (s : zr) (x2 : Int32) (x3 : Int32) (e : Int32), f_X7_likeSet_4 k s x1 x2 x3 = some e → (AV G M_X7_likeSet 1 sl P 43 [none, none, some (.int e), none] [] (zT sg s)) → AV G M_X7_likeSet 1 sl P 4 [some (.ref 120), some (.int x1), some (.int x2), some (.int x3)] [] (zT sg s) := by
  intro k
  induction k with
  | zero =>
    intro s x2 x3 e H
    unfold f_X7_likeSet_4 at H
    cases H
  | succ k ih =>
    intro s x2 x3 e H KE
    unfold f_X7_likeSet_4 at H
    refine aw_iload_n (q := 5) dX7_likeSet_4 rfl rfl ?_
    refine aw_bipush (q := 7) (v := 10) dX7_likeSet_5 rfl (by decide) ?_
    refine aw_icmp_gt (q := 10) (t := 43) dX7_likeSet_7 rfl (by decide) (fun h1 => ?_) (fun h1 => ?_)
    · replace H := zt h1 H
      cases H
      exact aw_fewer (L' := [none, none, some (.int x2), none]) ⟨rfl, trivial⟩ KE
    · replace H := zf h1 H
      refine aw_iload_n (q := 11) dX7_likeSet_10 rfl rfl ?_
      refine aw_aload_n (q := 12) dX7_likeSet_11 rfl rfl ?_
      refine aw_iload_n (q := 13) dX7_likeSet_12 rfl rfl ?_
      refine aw_cv (M' := M_X7_isBoard) (as := [.int x3]) (q := 16) dX7_likeSet_13 rfl W_X7_isBoard k_X7_134 i_X7_isBoard v_X7_isBoard (by decide) (o_X7 sg s) rfl rfl rfl (by decide) (Nat.le_of_ble_eq_true rfl) (c_X7_isBoard sg s x3) (Nat.le_refl _) (Nat.le_refl _) ?_
      rintro r9 h9 ⟨rfl, rfl⟩
      refine aw_ifeqB (q := 19) (t := 34) dX7_likeSet_16 rfl (by decide) (fun h2 => ?_) (fun h2 => ?_)
      · replace H := zt h2 H
        refine aw_aload_n (q := 20) dX7_likeSet_19 rfl rfl ?_
        refine aw_iload_n (q := 21) dX7_likeSet_20 rfl rfl ?_
        refine aw_iload_n (q := 22) dX7_likeSet_21 rfl rfl ?_
        obtain ⟨v3, hv3, H⟩ := zbd H
        refine aw_cv (M' := M_X7_isLike) (as := [.int x1, .int x3]) (q := 25) dX7_likeSet_22 rfl W_X7_isLike k_X7_141 i_X7_isLike v_X7_isLike (by decide) (o_X7 sg s) rfl rfl rfl (by decide) (Nat.le_of_ble_eq_true rfl) (c_X7_isLike sg s x1 x3 hv3) (Nat.le_refl _) (Nat.le_refl _) ?_
        rintro r9 h9 ⟨rfl, rfl⟩
        refine aw_ifeqB (q := 28) (t := 34) dX7_likeSet_25 rfl (by decide) (fun h4 => ?_) (fun h4 => ?_)
        · replace H := zt h4 H
          refine aw_iconst (q := 29) (v := 1) dX7_likeSet_28 rfl (by decide) ?_
          refine aw_iload_n (q := 30) dX7_likeSet_29 rfl rfl ?_
          refine aw_ishl (q := 31) dX7_likeSet_30 rfl ?_
          refine aw_goto (q := 35) dX7_likeSet_31 (by decide) ?_
          refine aw_ior (q := 36) dX7_likeSet_35 rfl ?_
          obtain ⟨y5, q6, H⟩ := zltd H
          refine aw_nm q6 ?_
          refine aw_istore_n (q := 37) (L' := [some (.ref 120), some (.int x1), some (.int y5), some (.int x3)]) dX7_likeSet_36 rfl (by decide) rfl rfl ?_
          refine aw_iinc (q := 40) (v := x3 + 1) (L' := [some (.ref 120), some (.int x1), some (.int y5), some (.int (x3 + 1))]) dX7_likeSet_37 rfl rfl (by first | rfl | decide) (by decide) rfl rfl ?_
          refine aw_goto (q := 4) dX7_likeSet_40 (by decide) ?_
          exact aw_fewer (L' := [some (.ref 120), some (.int x1), some (.int y5), some (.int (x3 + 1))]) ⟨rfl, ⟨rfl, ⟨rfl, ⟨rfl, trivial⟩⟩⟩⟩ (ih s y5 (x3 + 1) _ H KE)
        · replace H := zf h4 H
          refine aw_iconst (q := 35) (v := 0) dX7_likeSet_34 rfl (by decide) ?_
          refine aw_ior (q := 36) dX7_likeSet_35 rfl ?_
          obtain ⟨y7, q8, H⟩ := zltd H
          refine aw_nm q8 ?_
          refine aw_istore_n (q := 37) (L' := [some (.ref 120), some (.int x1), some (.int y7), some (.int x3)]) dX7_likeSet_36 rfl (by decide) rfl rfl ?_
          refine aw_iinc (q := 40) (v := x3 + 1) (L' := [some (.ref 120), some (.int x1), some (.int y7), some (.int (x3 + 1))]) dX7_likeSet_37 rfl rfl (by first | rfl | decide) (by decide) rfl rfl ?_
          refine aw_goto (q := 4) dX7_likeSet_40 (by decide) ?_
          exact aw_fewer (L' := [some (.ref 120), some (.int x1), some (.int y7), some (.int (x3 + 1))]) ⟨rfl, ⟨rfl, ⟨rfl, ⟨rfl, trivial⟩⟩⟩⟩ (ih s y7 (x3 + 1) _ H KE)
      · replace H := zf h2 H
        refine aw_iconst (q := 35) (v := 0) dX7_likeSet_34 rfl (by decide) ?_
        refine aw_ior (q := 36) dX7_likeSet_35 rfl ?_
        obtain ⟨y9, q10, H⟩ := zltd H
        refine aw_nm q10 ?_
        refine aw_istore_n (q := 37) (L' := [some (.ref 120), some (.int x1), some (.int y9), some (.int x3)]) dX7_likeSet_36 rfl (by decide) rfl rfl ?_
        refine aw_iinc (q := 40) (v := x3 + 1) (L' := [some (.ref 120), some (.int x1), some (.int y9), some (.int (x3 + 1))]) dX7_likeSet_37 rfl rfl (by first | rfl | decide) (by decide) rfl rfl ?_
        refine aw_goto (q := 4) dX7_likeSet_40 (by decide) ?_
        exact aw_fewer (L' := [some (.ref 120), some (.int x1), some (.int y9), some (.int (x3 + 1))]) ⟨rfl, ⟨rfl, ⟨rfl, ⟨rfl, trivial⟩⟩⟩⟩ (ih s y9 (x3 + 1) _ H KE)
def f_X7_likeSet (s : zr) (x1 : Int32) : Option Int32 :=
  Option.bind (f_X7_likeSet_4 zFu s x1 0 0) fun e1 =>
  some e1
set_option maxHeartbeats 4000000 in
set_option maxRecDepth 100000 in
theorem c_X7_likeSet {G : zG} {sl : Nat} (sg : zs) (s : zr) (x1 : Int32) {v9 : Int32} (H : f_X7_likeSet s x1 = some v9) : zMv G 1 M_X7_likeSet [.ref 120, .int x1] sl (zT sg s) (fun r h' => r = some (.int v9) ∧ h' = (zT sg s)) := by
  unfold f_X7_likeSet at H
  refine zMv_of (L := [some (.ref 120), some (.int x1), none, none]) (by decide) rfl (Nat.le_of_ble_eq_true rfl) rfl ?_
  refine aw_iconst (q := 1) (v := 0) dX7_likeSet_0 rfl (by decide) ?_
  refine aw_istore_n (q := 2) (L' := [some (.ref 120), some (.int x1), some (.int 0), none]) dX7_likeSet_1 rfl (by decide) rfl rfl ?_
  refine aw_iconst (q := 3) (v := 0) dX7_likeSet_2 rfl (by decide) ?_
  refine aw_istore_n (q := 4) (L' := [some (.ref 120), some (.int x1), some (.int 0), some (.int 0)]) dX7_likeSet_3 rfl (by decide) rfl rfl ?_
  obtain ⟨e1, he1, H⟩ := zbd H
  refine aw_fewer (L' := [some (.ref 120), some (.int x1), some (.int 0), some (.int 0)]) ⟨rfl, ⟨rfl, ⟨rfl, ⟨rfl, trivial⟩⟩⟩⟩ ?_
  refine L_X7_likeSet_4 sg x1 zFu s 0 0 e1 he1 ?_
  refine aw_iload_n (q := 44) dX7_likeSet_43 rfl rfl ?_
  cases H
  exact aw_ret dX7_likeSet_44 rfl rfl rfl rfl ⟨rfl, rfl⟩
def f_X7_isDay (x0 : Int32) : Bool :=
  f_X7_isIn x0 0 6
set_option maxHeartbeats 4000000 in
set_option maxRecDepth 100000 in
theorem c_X7_isDay {G : zG} {sl : Nat} (h : zH) (x0 : Int32)  : zMv G 1 M_X7_isDay [.int x0] sl h (fun r h' => r = some (.int (zb (f_X7_isDay x0))) ∧ h' = h) := by
  generalize H : f_X7_isDay x0 = r0
  unfold f_X7_isDay at H
  refine zMv_of (L := [some (.int x0)]) (by decide) rfl (Nat.le_of_ble_eq_true rfl) rfl ?_
  refine aw_iload_n (q := 1) dX7_isDay_0 rfl rfl ?_
  refine aw_iconst (q := 2) (v := 0) dX7_isDay_1 rfl (by decide) ?_
  refine aw_bipush (q := 4) (v := 6) dX7_isDay_2 rfl (by decide) ?_
  refine aw_cs (M' := M_X7_isIn) (as := [.int x0, .int 0, .int 6]) (q := 7) dX7_isDay_4 rfl W_X7_isIn k_X7_45 s_X7_isIn rfl rfl (by decide) (Nat.le_of_ble_eq_true rfl) (c_X7_isIn h x0 0 6) (Nat.le_refl _) (Nat.le_refl _) ?_
  rintro r9 h9 ⟨rfl, rfl⟩
  subst H
  exact aw_retB dX7_isDay_7 rfl rfl rfl ⟨rfl, rfl⟩
def f_X7_reached (s : zr) (x1 : Int32) (x2 : Int32) : Option Int32 :=
  if f_X7_isDay x1 = true then (
    if f_X7_isFaultOrNone s x2 = true then (
      Option.bind (f_X7_touchedOn s x1) fun v3 =>
      Option.bind (f_X7_reachedBy s x2 v3) fun v4 =>
      some v4
    ) else (
      some (-1000001)
    )
  ) else (
    some (-1000001)
  )
set_option maxHeartbeats 4000000 in
set_option maxRecDepth 100000 in
theorem c_X7_reached {G : zG} {sl : Nat} (sg : zs) (s : zr) (x1 : Int32) (x2 : Int32) {v9 : Int32} (H : f_X7_reached s x1 x2 = some v9) : zMv G 7 M_X7_reached [.ref 120, .int x1, .int x2] sl (zT sg s) (fun r h' => r = some (.int v9) ∧ h' = (zT sg s)) := by
  unfold f_X7_reached at H
  refine zMv_of (L := [some (.ref 120), some (.int x1), some (.int x2)]) (by decide) rfl (Nat.le_of_ble_eq_true rfl) rfl ?_
  refine aw_iload_n (q := 1) dX7_reached_0 rfl rfl ?_
  refine aw_cs (M' := M_X7_isDay) (as := [.int x1]) (q := 4) dX7_reached_1 rfl W_X7_isDay k_X7_144 s_X7_isDay rfl rfl (by decide) (Nat.le_of_ble_eq_true rfl) (c_X7_isDay (zT sg s) x1) (Nat.le_refl _) (Nat.le_refl _) ?_
  rintro r9 h9 ⟨rfl, rfl⟩
  refine aw_ifeqB (q := 7) (t := 28) dX7_reached_4 rfl (by decide) (fun h1 => ?_) (fun h1 => ?_)
  · replace H := zt h1 H
    refine aw_aload_n (q := 8) dX7_reached_7 rfl rfl ?_
    refine aw_iload_n (q := 9) dX7_reached_8 rfl rfl ?_
    refine aw_cv (M' := M_X7_isFaultOrNone) (as := [.int x2]) (q := 12) dX7_reached_9 rfl W_X7_isFaultOrNone k_X7_147 i_X7_isFaultOrNone v_X7_isFaultOrNone (by decide) (o_X7 sg s) rfl rfl rfl (by decide) (Nat.le_of_ble_eq_true rfl) (c_X7_isFaultOrNone sg s x2) (Nat.le_refl _) (Nat.le_refl _) ?_
    rintro r9 h9 ⟨rfl, rfl⟩
    refine aw_ifeqB (q := 15) (t := 28) dX7_reached_12 rfl (by decide) (fun h2 => ?_) (fun h2 => ?_)
    · replace H := zt h2 H
      refine aw_aload_n (q := 16) dX7_reached_15 rfl rfl ?_
      refine aw_iload_n (q := 17) dX7_reached_16 rfl rfl ?_
      refine aw_aload_n (q := 18) dX7_reached_17 rfl rfl ?_
      refine aw_iload_n (q := 19) dX7_reached_18 rfl rfl ?_
      obtain ⟨v3, hv3, H⟩ := zbd H
      refine aw_cv (M' := M_X7_touchedOn) (as := [.int x1]) (q := 22) dX7_reached_19 rfl W_X7_touchedOn k_X7_90 i_X7_touchedOn v_X7_touchedOn (by decide) (o_X7 sg s) rfl rfl rfl (by decide) (Nat.le_of_ble_eq_true rfl) (c_X7_touchedOn sg s x1 hv3) (Nat.le_refl _) (Nat.le_refl _) ?_
      rintro r9 h9 ⟨rfl, rfl⟩
      obtain ⟨v4, hv4, H⟩ := zbd H
      refine aw_cv (M' := M_X7_reachedBy) (as := [.int x2, .int v3]) (q := 25) dX7_reached_22 rfl W_X7_reachedBy k_X7_128 i_X7_reachedBy v_X7_reachedBy (by decide) (o_X7 sg s) rfl rfl rfl (by decide) (Nat.le_of_ble_eq_true rfl) (c_X7_reachedBy sg s x2 v3 hv4) (Nat.le_refl _) (Nat.le_refl _) ?_
      rintro r9 h9 ⟨rfl, rfl⟩
      refine aw_goto (q := 30) dX7_reached_25 (by decide) ?_
      cases H
      exact aw_ret dX7_reached_30 rfl rfl rfl rfl ⟨rfl, rfl⟩
    · replace H := zf h2 H
      refine aw_ldc (q := 30) dX7_reached_28 rfl q_X7_53 ?_
      cases H
      exact aw_ret dX7_reached_30 rfl rfl rfl rfl ⟨rfl, rfl⟩
  · replace H := zf h1 H
    refine aw_ldc (q := 30) dX7_reached_28 rfl q_X7_53 ?_
    cases H
    exact aw_ret dX7_reached_30 rfl rfl rfl rfl ⟨rfl, rfl⟩
def f_X7_scanned (s : zr) (x1 : Int32) (x2 : Int32) : Option Int32 :=
  if f_X7_isDay x1 = true then (
    if f_X7_isFaultOrNone s x2 = true then (
      Option.bind (f_X7_touchedOn s x1) fun v3 =>
      Option.bind (f_X7_scannedBy s x2 v3) fun v4 =>
      some v4
    ) else (
      some (-1000001)
    )
  ) else (
    some (-1000001)
  )
set_option maxHeartbeats 4000000 in
set_option maxRecDepth 100000 in
theorem c_X7_scanned {G : zG} {sl : Nat} (sg : zs) (s : zr) (x1 : Int32) (x2 : Int32) {v9 : Int32} (H : f_X7_scanned s x1 x2 = some v9) : zMv G 6 M_X7_scanned [.ref 120, .int x1, .int x2] sl (zT sg s) (fun r h' => r = some (.int v9) ∧ h' = (zT sg s)) := by
  unfold f_X7_scanned at H
  refine zMv_of (L := [some (.ref 120), some (.int x1), some (.int x2)]) (by decide) rfl (Nat.le_of_ble_eq_true rfl) rfl ?_
  refine aw_iload_n (q := 1) dX7_scanned_0 rfl rfl ?_
  refine aw_cs (M' := M_X7_isDay) (as := [.int x1]) (q := 4) dX7_scanned_1 rfl W_X7_isDay k_X7_144 s_X7_isDay rfl rfl (by decide) (Nat.le_of_ble_eq_true rfl) (c_X7_isDay (zT sg s) x1) (Nat.le_refl _) (Nat.le_refl _) ?_
  rintro r9 h9 ⟨rfl, rfl⟩
  refine aw_ifeqB (q := 7) (t := 28) dX7_scanned_4 rfl (by decide) (fun h1 => ?_) (fun h1 => ?_)
  · replace H := zt h1 H
    refine aw_aload_n (q := 8) dX7_scanned_7 rfl rfl ?_
    refine aw_iload_n (q := 9) dX7_scanned_8 rfl rfl ?_
    refine aw_cv (M' := M_X7_isFaultOrNone) (as := [.int x2]) (q := 12) dX7_scanned_9 rfl W_X7_isFaultOrNone k_X7_147 i_X7_isFaultOrNone v_X7_isFaultOrNone (by decide) (o_X7 sg s) rfl rfl rfl (by decide) (Nat.le_of_ble_eq_true rfl) (c_X7_isFaultOrNone sg s x2) (Nat.le_refl _) (Nat.le_refl _) ?_
    rintro r9 h9 ⟨rfl, rfl⟩
    refine aw_ifeqB (q := 15) (t := 28) dX7_scanned_12 rfl (by decide) (fun h2 => ?_) (fun h2 => ?_)
    · replace H := zt h2 H
      refine aw_aload_n (q := 16) dX7_scanned_15 rfl rfl ?_
      refine aw_iload_n (q := 17) dX7_scanned_16 rfl rfl ?_
      refine aw_aload_n (q := 18) dX7_scanned_17 rfl rfl ?_
      refine aw_iload_n (q := 19) dX7_scanned_18 rfl rfl ?_
      obtain ⟨v3, hv3, H⟩ := zbd H
      refine aw_cv (M' := M_X7_touchedOn) (as := [.int x1]) (q := 22) dX7_scanned_19 rfl W_X7_touchedOn k_X7_90 i_X7_touchedOn v_X7_touchedOn (by decide) (o_X7 sg s) rfl rfl rfl (by decide) (Nat.le_of_ble_eq_true rfl) (c_X7_touchedOn sg s x1 hv3) (Nat.le_refl _) (Nat.le_refl _) ?_
      rintro r9 h9 ⟨rfl, rfl⟩
      obtain ⟨v4, hv4, H⟩ := zbd H
      refine aw_cv (M' := M_X7_scannedBy) (as := [.int x2, .int v3]) (q := 25) dX7_scanned_22 rfl W_X7_scannedBy k_X7_118 i_X7_scannedBy v_X7_scannedBy (by decide) (o_X7 sg s) rfl rfl rfl (by decide) (Nat.le_of_ble_eq_true rfl) (c_X7_scannedBy sg s x2 v3 hv4) (Nat.le_refl _) (Nat.le_refl _) ?_
      rintro r9 h9 ⟨rfl, rfl⟩
      refine aw_goto (q := 30) dX7_scanned_25 (by decide) ?_
      cases H
      exact aw_ret dX7_scanned_30 rfl rfl rfl rfl ⟨rfl, rfl⟩
    · replace H := zf h2 H
      refine aw_ldc (q := 30) dX7_scanned_28 rfl q_X7_53 ?_
      cases H
      exact aw_ret dX7_scanned_30 rfl rfl rfl rfl ⟨rfl, rfl⟩
  · replace H := zf h1 H
    refine aw_ldc (q := 30) dX7_scanned_28 rfl q_X7_53 ?_
    cases H
    exact aw_ret dX7_scanned_30 rfl rfl rfl rfl ⟨rfl, rfl⟩
def f_X7_reads (s : zr) (x1 : Int32) (x2 : Int32) (x3 : Int32) (x4 : Int32) : Option Int32 :=
  if f_X7_isDay x1 = true then (
    if f_X7_isFaultOrNone s x2 = true then (
      if f_X7_isIn x3 0 15 = true then (
        if f_X7_isIn x4 0 1 = true then (
          Option.bind (f_X7_touchedOn s x1) fun v5 =>
          Option.bind (f_X7_reachedBy s x2 v5) fun v6 =>
          if f_X7_has v6 x3 = true then (
            Option.bind (f_X7_readsBy s x2 v6 x3 x4) fun v8 =>
            some v8
          ) else (
            some (-1000004)
          )
        ) else (
          some (-1000001)
        )
      ) else (
        some (-1000001)
      )
    ) else (
      some (-1000001)
    )
  ) else (
    some (-1000001)
  )
set_option maxHeartbeats 4000000 in
set_option maxRecDepth 100000 in
theorem c_X7_reads {G : zG} {sl : Nat} (sg : zs) (s : zr) (x1 : Int32) (x2 : Int32) (x3 : Int32) (x4 : Int32) {v9 : Int32} (H : f_X7_reads s x1 x2 x3 x4 = some v9) : zMv G 7 M_X7_reads [.ref 120, .int x1, .int x2, .int x3, .int x4] sl (zT sg s) (fun r h' => r = some (.int v9) ∧ h' = (zT sg s)) := by
  unfold f_X7_reads at H
  refine zMv_of (L := [some (.ref 120), some (.int x1), some (.int x2), some (.int x3), some (.int x4), none]) (by decide) rfl (Nat.le_of_ble_eq_true rfl) rfl ?_
  refine aw_iload_n (q := 1) dX7_reads_0 rfl rfl ?_
  refine aw_cs (M' := M_X7_isDay) (as := [.int x1]) (q := 4) dX7_reads_1 rfl W_X7_isDay k_X7_144 s_X7_isDay rfl rfl (by decide) (Nat.le_of_ble_eq_true rfl) (c_X7_isDay (zT sg s) x1) (Nat.le_refl _) (Nat.le_refl _) ?_
  rintro r9 h9 ⟨rfl, rfl⟩
  refine aw_ifeqB (q := 7) (t := 35) dX7_reads_4 rfl (by decide) (fun h1 => ?_) (fun h1 => ?_)
  · replace H := zt h1 H
    refine aw_aload_n (q := 8) dX7_reads_7 rfl rfl ?_
    refine aw_iload_n (q := 9) dX7_reads_8 rfl rfl ?_
    refine aw_cv (M' := M_X7_isFaultOrNone) (as := [.int x2]) (q := 12) dX7_reads_9 rfl W_X7_isFaultOrNone k_X7_147 i_X7_isFaultOrNone v_X7_isFaultOrNone (by decide) (o_X7 sg s) rfl rfl rfl (by decide) (Nat.le_of_ble_eq_true rfl) (c_X7_isFaultOrNone sg s x2) (Nat.le_refl _) (Nat.le_refl _) ?_
    rintro r9 h9 ⟨rfl, rfl⟩
    refine aw_ifeqB (q := 15) (t := 35) dX7_reads_12 rfl (by decide) (fun h2 => ?_) (fun h2 => ?_)
    · replace H := zt h2 H
      refine aw_iload_n (q := 16) dX7_reads_15 rfl rfl ?_
      refine aw_iconst (q := 17) (v := 0) dX7_reads_16 rfl (by decide) ?_
      refine aw_bipush (q := 19) (v := 15) dX7_reads_17 rfl (by decide) ?_
      refine aw_cs (M' := M_X7_isIn) (as := [.int x3, .int 0, .int 15]) (q := 22) dX7_reads_19 rfl W_X7_isIn k_X7_45 s_X7_isIn rfl rfl (by decide) (Nat.le_of_ble_eq_true rfl) (c_X7_isIn (zT sg s) x3 0 15) (Nat.le_refl _) (Nat.le_refl _) ?_
      rintro r9 h9 ⟨rfl, rfl⟩
      refine aw_ifeqB (q := 25) (t := 35) dX7_reads_22 rfl (by decide) (fun h3 => ?_) (fun h3 => ?_)
      · replace H := zt h3 H
        refine aw_iload (q := 27) dX7_reads_25 rfl rfl ?_
        refine aw_iconst (q := 28) (v := 0) dX7_reads_27 rfl (by decide) ?_
        refine aw_iconst (q := 29) (v := 1) dX7_reads_28 rfl (by decide) ?_
        refine aw_cs (M' := M_X7_isIn) (as := [.int x4, .int 0, .int 1]) (q := 32) dX7_reads_29 rfl W_X7_isIn k_X7_45 s_X7_isIn rfl rfl (by decide) (Nat.le_of_ble_eq_true rfl) (c_X7_isIn (zT sg s) x4 0 1) (Nat.le_refl _) (Nat.le_refl _) ?_
        rintro r9 h9 ⟨rfl, rfl⟩
        refine aw_ifneB (q := 35) (t := 38) dX7_reads_32 rfl (by decide) (fun h4 => ?_) (fun h4 => ?_)
        · replace H := zt h4 H
          refine aw_aload_n (q := 39) dX7_reads_38 rfl rfl ?_
          refine aw_iload_n (q := 40) dX7_reads_39 rfl rfl ?_
          refine aw_aload_n (q := 41) dX7_reads_40 rfl rfl ?_
          refine aw_iload_n (q := 42) dX7_reads_41 rfl rfl ?_
          obtain ⟨v5, hv5, H⟩ := zbd H
          refine aw_cv (M' := M_X7_touchedOn) (as := [.int x1]) (q := 45) dX7_reads_42 rfl W_X7_touchedOn k_X7_90 i_X7_touchedOn v_X7_touchedOn (by decide) (o_X7 sg s) rfl rfl rfl (by decide) (Nat.le_of_ble_eq_true rfl) (c_X7_touchedOn sg s x1 hv5) (Nat.le_refl _) (Nat.le_refl _) ?_
          rintro r9 h9 ⟨rfl, rfl⟩
          obtain ⟨v6, hv6, H⟩ := zbd H
          refine aw_cv (M' := M_X7_reachedBy) (as := [.int x2, .int v5]) (q := 48) dX7_reads_45 rfl W_X7_reachedBy k_X7_128 i_X7_reachedBy v_X7_reachedBy (by decide) (o_X7 sg s) rfl rfl rfl (by decide) (Nat.le_of_ble_eq_true rfl) (c_X7_reachedBy sg s x2 v5 hv6) (Nat.le_refl _) (Nat.le_refl _) ?_
          rintro r9 h9 ⟨rfl, rfl⟩
          refine aw_istore (q := 50) (L' := [some (.ref 120), some (.int x1), some (.int x2), some (.int x3), some (.int x4), some (.int v6)]) dX7_reads_48 rfl (by decide) rfl rfl ?_
          refine aw_iload (q := 52) dX7_reads_50 rfl rfl ?_
          refine aw_iload_n (q := 53) dX7_reads_52 rfl rfl ?_
          refine aw_cs (M' := M_X7_has) (as := [.int v6, .int x3]) (q := 56) dX7_reads_53 rfl W_X7_has k_X7_36 s_X7_has rfl rfl (by decide) (Nat.le_of_ble_eq_true rfl) (c_X7_has (zT sg s) v6 x3) (Nat.le_refl _) (Nat.le_refl _) ?_
          rintro r9 h9 ⟨rfl, rfl⟩
          refine aw_ifeqB (q := 59) (t := 72) dX7_reads_56 rfl (by decide) (fun h7 => ?_) (fun h7 => ?_)
          · replace H := zt h7 H
            refine aw_aload_n (q := 60) dX7_reads_59 rfl rfl ?_
            refine aw_iload_n (q := 61) dX7_reads_60 rfl rfl ?_
            refine aw_iload (q := 63) dX7_reads_61 rfl rfl ?_
            refine aw_iload_n (q := 64) dX7_reads_63 rfl rfl ?_
            refine aw_iload (q := 66) dX7_reads_64 rfl rfl ?_
            obtain ⟨v8, hv8, H⟩ := zbd H
            refine aw_cv (M' := M_X7_readsBy) (as := [.int x2, .int v6, .int x3, .int x4]) (q := 69) dX7_reads_66 rfl W_X7_readsBy k_X7_131 i_X7_readsBy v_X7_readsBy (by decide) (o_X7 sg s) rfl rfl rfl (by decide) (Nat.le_of_ble_eq_true rfl) (c_X7_readsBy sg s x2 v6 x3 x4 hv8) (Nat.le_refl _) (Nat.le_refl _) ?_
            rintro r9 h9 ⟨rfl, rfl⟩
            refine aw_goto (q := 74) dX7_reads_69 (by decide) ?_
            cases H
            exact aw_ret dX7_reads_74 rfl rfl rfl rfl ⟨rfl, rfl⟩
          · replace H := zf h7 H
            refine aw_ldc (q := 74) dX7_reads_72 rfl q_X7_93 ?_
            cases H
            exact aw_ret dX7_reads_74 rfl rfl rfl rfl ⟨rfl, rfl⟩
        · replace H := zf h4 H
          refine aw_ldc (q := 37) dX7_reads_35 rfl q_X7_53 ?_
          cases H
          exact aw_ret dX7_reads_37 rfl rfl rfl rfl ⟨rfl, rfl⟩
      · replace H := zf h3 H
        refine aw_ldc (q := 37) dX7_reads_35 rfl q_X7_53 ?_
        cases H
        exact aw_ret dX7_reads_37 rfl rfl rfl rfl ⟨rfl, rfl⟩
    · replace H := zf h2 H
      refine aw_ldc (q := 37) dX7_reads_35 rfl q_X7_53 ?_
      cases H
      exact aw_ret dX7_reads_37 rfl rfl rfl rfl ⟨rfl, rfl⟩
  · replace H := zf h1 H
    refine aw_ldc (q := 37) dX7_reads_35 rfl q_X7_53 ?_
    cases H
    exact aw_ret dX7_reads_37 rfl rfl rfl rfl ⟨rfl, rfl⟩
def f_X7_alikeDays_5 : Nat → zr → Int32 → Int32 → Int32 → Int32 → Option (zr × Int32)
  | 0, _, _, _, _, _ => none
  | k + 1, s, x1, x2, x3, x4 =>
    if (7 : Int32) ≤ x4 then (
      some (s, x3)
    ) else (
      Option.bind (f_X7_touchedOn s x4) fun v2 =>
      Option.bind (f_X7_measuresOne s (f_X7_slotOf x1) x1 v2) fun v3 =>
      Option.bind (f_X7_measuresOne v3 (f_X7_slotOf x2) x2 v2) fun v4 =>
      Option.bind (f_X7_isLike v4 (f_X7_slotOf x1) (f_X7_slotOf x2)) fun v5 =>
      if v5 = true then (
        zlt (x3 ||| ((1 : Int32) <<< (x4 &&& 31)) : Int32) fun y7 =>
        f_X7_alikeDays_5 k v4 x1 x2 y7 (x4 + 1)
      ) else (
        zlt (x3 ||| 0 : Int32) fun y9 =>
        f_X7_alikeDays_5 k v4 x1 x2 y9 (x4 + 1)
      )
    )
set_option maxHeartbeats 4000000 in
set_option maxRecDepth 100000 in
theorem L_X7_alikeDays_5 {G : zG} {sl : Nat} {P : Option Value → zH → Prop} (sg : zs) (x1 : Int32) (x2 : Int32) : ∀ (k : Nat) (s : zr) (x3 : Int32) (x4 : Int32) (e : zr × Int32), f_X7_alikeDays_5 k s x1 x2 x3 x4 = some e → (AV G M_X7_alikeDays 8 sl P 74 [none, none, none, some (.int e.2), none, none] [] (zT sg e.1)) → AV G M_X7_alikeDays 8 sl P 5 [some (.ref 120), some (.int x1), some (.int x2), some (.int x3), some (.int x4), none] [] (zT sg s) := by
  intro k
  induction k with
  | zero =>
    intro s x3 x4 e H
    unfold f_X7_alikeDays_5 at H
    cases H
  | succ k ih =>
    intro s x3 x4 e H KE
    unfold f_X7_alikeDays_5 at H
    refine aw_iload (q := 7) dX7_alikeDays_5 rfl rfl ?_
    refine aw_bipush (q := 9) (v := 7) dX7_alikeDays_7 rfl (by decide) ?_
    refine aw_icmp_ge (q := 12) (t := 74) dX7_alikeDays_9 rfl (by decide) (fun h1 => ?_) (fun h1 => ?_)
    · replace H := zt h1 H
      cases H
      exact aw_fewer (L' := [none, none, none, some (.int x3), none, none]) ⟨rfl, trivial⟩ KE
    · replace H := zf h1 H
      refine aw_aload_n (q := 13) dX7_alikeDays_12 rfl rfl ?_
      refine aw_iload (q := 15) dX7_alikeDays_13 rfl rfl ?_
      obtain ⟨v2, hv2, H⟩ := zbd H
      refine aw_cv (M' := M_X7_touchedOn) (as := [.int x4]) (q := 18) dX7_alikeDays_15 rfl W_X7_touchedOn k_X7_90 i_X7_touchedOn v_X7_touchedOn (by decide) (o_X7 sg s) rfl rfl rfl (by decide) (Nat.le_of_ble_eq_true rfl) (c_X7_touchedOn sg s x4 hv2) (Nat.le_refl _) (Nat.le_refl _) ?_
      rintro r9 h9 ⟨rfl, rfl⟩
      refine aw_istore (q := 20) (L' := [some (.ref 120), some (.int x1), some (.int x2), some (.int x3), some (.int x4), some (.int v2)]) dX7_alikeDays_18 rfl (by decide) rfl rfl ?_
      refine aw_aload_n (q := 21) dX7_alikeDays_20 rfl rfl ?_
      refine aw_iload_n (q := 22) dX7_alikeDays_21 rfl rfl ?_
      refine aw_cs (M' := M_X7_slotOf) (as := [.int x1]) (q := 25) dX7_alikeDays_22 rfl W_X7_slotOf k_X7_150 s_X7_slotOf rfl rfl (by decide) (Nat.le_of_ble_eq_true rfl) (c_X7_slotOf (zT sg s) x1) (Nat.le_refl _) (Nat.le_refl _) ?_
      rintro r9 h9 ⟨rfl, rfl⟩
      refine aw_iload_n (q := 26) dX7_alikeDays_25 rfl rfl ?_
      refine aw_iload (q := 28) dX7_alikeDays_26 rfl rfl ?_
      obtain ⟨v3, hv3, H⟩ := zbd H
      refine aw_cv (M' := M_X7_measuresOne) (as := [.int (f_X7_slotOf x1), .int x1, .int v2]) (q := 31) dX7_alikeDays_28 rfl W_X7_measuresOne k_X7_137 i_X7_measuresOne v_X7_measuresOne (by decide) (o_X7 sg s) rfl rfl rfl (by decide) (Nat.le_of_ble_eq_true rfl) (c_X7_measuresOne sg s (f_X7_slotOf x1) x1 v2 hv3) (Nat.le_refl _) (Nat.le_refl _) ?_
      rintro r9 h9 ⟨rfl, rfl⟩
      refine aw_aload_n (q := 32) dX7_alikeDays_31 rfl rfl ?_
      refine aw_iload_n (q := 33) dX7_alikeDays_32 rfl rfl ?_
      refine aw_cs (M' := M_X7_slotOf) (as := [.int x2]) (q := 36) dX7_alikeDays_33 rfl W_X7_slotOf k_X7_150 s_X7_slotOf rfl rfl (by decide) (Nat.le_of_ble_eq_true rfl) (c_X7_slotOf (zT sg v3) x2) (Nat.le_refl _) (Nat.le_refl _) ?_
      rintro r9 h9 ⟨rfl, rfl⟩
      refine aw_iload_n (q := 37) dX7_alikeDays_36 rfl rfl ?_
      refine aw_iload (q := 39) dX7_alikeDays_37 rfl rfl ?_
      obtain ⟨v4, hv4, H⟩ := zbd H
      refine aw_cv (M' := M_X7_measuresOne) (as := [.int (f_X7_slotOf x2), .int x2, .int v2]) (q := 42) dX7_alikeDays_39 rfl W_X7_measuresOne k_X7_137 i_X7_measuresOne v_X7_measuresOne (by decide) (o_X7 sg v3) rfl rfl rfl (by decide) (Nat.le_of_ble_eq_true rfl) (c_X7_measuresOne sg v3 (f_X7_slotOf x2) x2 v2 hv4) (Nat.le_refl _) (Nat.le_refl _) ?_
      rintro r9 h9 ⟨rfl, rfl⟩
      refine aw_iload_n (q := 43) dX7_alikeDays_42 rfl rfl ?_
      refine aw_aload_n (q := 44) dX7_alikeDays_43 rfl rfl ?_
      refine aw_iload_n (q := 45) dX7_alikeDays_44 rfl rfl ?_
      refine aw_cs (M' := M_X7_slotOf) (as := [.int x1]) (q := 48) dX7_alikeDays_45 rfl W_X7_slotOf k_X7_150 s_X7_slotOf rfl rfl (by decide) (Nat.le_of_ble_eq_true rfl) (c_X7_slotOf (zT sg v4) x1) (Nat.le_refl _) (Nat.le_refl _) ?_
      rintro r9 h9 ⟨rfl, rfl⟩
      refine aw_iload_n (q := 49) dX7_alikeDays_48 rfl rfl ?_
      refine aw_cs (M' := M_X7_slotOf) (as := [.int x2]) (q := 52) dX7_alikeDays_49 rfl W_X7_slotOf k_X7_150 s_X7_slotOf rfl rfl (by decide) (Nat.le_of_ble_eq_true rfl) (c_X7_slotOf (zT sg v4) x2) (Nat.le_refl _) (Nat.le_refl _) ?_
      rintro r9 h9 ⟨rfl, rfl⟩
      obtain ⟨v5, hv5, H⟩ := zbd H
      refine aw_cv (M' := M_X7_isLike) (as := [.int (f_X7_slotOf x1), .int (f_X7_slotOf x2)]) (q := 55) dX7_alikeDays_52 rfl W_X7_isLike k_X7_141 i_X7_isLike v_X7_isLike (by decide) (o_X7 sg v4) rfl rfl rfl (by decide) (Nat.le_of_ble_eq_true rfl) (c_X7_isLike sg v4 (f_X7_slotOf x1) (f_X7_slotOf x2) hv5) (Nat.le_refl _) (Nat.le_refl _) ?_
      rintro r9 h9 ⟨rfl, rfl⟩
      refine aw_ifeqB (q := 58) (t := 65) dX7_alikeDays_55 rfl (by decide) (fun h6 => ?_) (fun h6 => ?_)
      · replace H := zt h6 H
        refine aw_iconst (q := 59) (v := 1) dX7_alikeDays_58 rfl (by decide) ?_
        refine aw_iload (q := 61) dX7_alikeDays_59 rfl rfl ?_
        refine aw_ishl (q := 62) dX7_alikeDays_61 rfl ?_
        refine aw_goto (q := 66) dX7_alikeDays_62 (by decide) ?_
        refine aw_ior (q := 67) dX7_alikeDays_66 rfl ?_
        obtain ⟨y7, q8, H⟩ := zltd H
        refine aw_nm q8 ?_
        refine aw_istore_n (q := 68) (L' := [some (.ref 120), some (.int x1), some (.int x2), some (.int y7), some (.int x4), some (.int v2)]) dX7_alikeDays_67 rfl (by decide) rfl rfl ?_
        refine aw_iinc (q := 71) (v := x4 + 1) (L' := [some (.ref 120), some (.int x1), some (.int x2), some (.int y7), some (.int (x4 + 1)), some (.int v2)]) dX7_alikeDays_68 rfl rfl (by first | rfl | decide) (by decide) rfl rfl ?_
        refine aw_goto (q := 5) dX7_alikeDays_71 (by decide) ?_
        exact aw_fewer (L' := [some (.ref 120), some (.int x1), some (.int x2), some (.int y7), some (.int (x4 + 1)), none]) ⟨rfl, ⟨rfl, ⟨rfl, ⟨rfl, ⟨rfl, trivial⟩⟩⟩⟩⟩ (ih v4 y7 (x4 + 1) _ H KE)
      · replace H := zf h6 H
        refine aw_iconst (q := 66) (v := 0) dX7_alikeDays_65 rfl (by decide) ?_
        refine aw_ior (q := 67) dX7_alikeDays_66 rfl ?_
        obtain ⟨y9, q10, H⟩ := zltd H
        refine aw_nm q10 ?_
        refine aw_istore_n (q := 68) (L' := [some (.ref 120), some (.int x1), some (.int x2), some (.int y9), some (.int x4), some (.int v2)]) dX7_alikeDays_67 rfl (by decide) rfl rfl ?_
        refine aw_iinc (q := 71) (v := x4 + 1) (L' := [some (.ref 120), some (.int x1), some (.int x2), some (.int y9), some (.int (x4 + 1)), some (.int v2)]) dX7_alikeDays_68 rfl rfl (by first | rfl | decide) (by decide) rfl rfl ?_
        refine aw_goto (q := 5) dX7_alikeDays_71 (by decide) ?_
        exact aw_fewer (L' := [some (.ref 120), some (.int x1), some (.int x2), some (.int y9), some (.int (x4 + 1)), none]) ⟨rfl, ⟨rfl, ⟨rfl, ⟨rfl, ⟨rfl, trivial⟩⟩⟩⟩⟩ (ih v4 y9 (x4 + 1) _ H KE)
def f_X7_alikeDays (s : zr) (x1 : Int32) (x2 : Int32) : Option (Int32 × zr) :=
  Option.bind (f_X7_alikeDays_5 zFu s x1 x2 0 0) fun e1 =>
  some (e1.2, e1.1)
set_option maxHeartbeats 4000000 in
set_option maxRecDepth 100000 in
theorem c_X7_alikeDays {G : zG} {sl : Nat} (sg : zs) (s : zr) (x1 : Int32) (x2 : Int32) {v9 : (Int32 × zr)} (H : f_X7_alikeDays s x1 x2 = some v9) : zMv G 8 M_X7_alikeDays [.ref 120, .int x1, .int x2] sl (zT sg s) (fun r h' => r = some (.int v9.1) ∧ h' = zT sg v9.2) := by
  unfold f_X7_alikeDays at H
  refine zMv_of (L := [some (.ref 120), some (.int x1), some (.int x2), none, none, none]) (by decide) rfl (Nat.le_of_ble_eq_true rfl) rfl ?_
  refine aw_iconst (q := 1) (v := 0) dX7_alikeDays_0 rfl (by decide) ?_
  refine aw_istore_n (q := 2) (L' := [some (.ref 120), some (.int x1), some (.int x2), some (.int 0), none, none]) dX7_alikeDays_1 rfl (by decide) rfl rfl ?_
  refine aw_iconst (q := 3) (v := 0) dX7_alikeDays_2 rfl (by decide) ?_
  refine aw_istore (q := 5) (L' := [some (.ref 120), some (.int x1), some (.int x2), some (.int 0), some (.int 0), none]) dX7_alikeDays_3 rfl (by decide) rfl rfl ?_
  obtain ⟨e1, he1, H⟩ := zbd H
  refine aw_fewer (L' := [some (.ref 120), some (.int x1), some (.int x2), some (.int 0), some (.int 0), none]) ⟨rfl, ⟨rfl, ⟨rfl, ⟨rfl, ⟨rfl, trivial⟩⟩⟩⟩⟩ ?_
  refine L_X7_alikeDays_5 sg x1 x2 zFu s 0 0 e1 he1 ?_
  refine aw_iload_n (q := 75) dX7_alikeDays_74 rfl rfl ?_
  cases H
  exact aw_ret dX7_alikeDays_75 rfl rfl rfl rfl ⟨rfl, rfl⟩
def f_X7_daysOf (s : zr) (x1 : Int32) : Option (Int32 × zr) :=
  if f_X7_isFault s x1 = true then (
    Option.bind (f_X7_alikeDays s x1 (-1)) fun v2 =>
    some ((127 : Int32) - v2.1, v2.2)
  ) else (
    some ((-1000001), s)
  )
set_option maxHeartbeats 4000000 in
set_option maxRecDepth 100000 in
theorem c_X7_daysOf {G : zG} {sl : Nat} (sg : zs) (s : zr) (x1 : Int32) {v9 : (Int32 × zr)} (H : f_X7_daysOf s x1 = some v9) : zMv G 9 M_X7_daysOf [.ref 120, .int x1] sl (zT sg s) (fun r h' => r = some (.int v9.1) ∧ h' = zT sg v9.2) := by
  unfold f_X7_daysOf at H
  refine zMv_of (L := [some (.ref 120), some (.int x1)]) (by decide) rfl (Nat.le_of_ble_eq_true rfl) rfl ?_
  refine aw_aload_n (q := 1) dX7_daysOf_0 rfl rfl ?_
  refine aw_iload_n (q := 2) dX7_daysOf_1 rfl rfl ?_
  refine aw_cv (M' := M_X7_isFault) (as := [.int x1]) (q := 5) dX7_daysOf_2 rfl W_X7_isFault k_X7_100 i_X7_isFault v_X7_isFault (by decide) (o_X7 sg s) rfl rfl rfl (by decide) (Nat.le_of_ble_eq_true rfl) (c_X7_isFault sg s x1) (Nat.le_refl _) (Nat.le_refl _) ?_
  rintro r9 h9 ⟨rfl, rfl⟩
  refine aw_ifeqB (q := 8) (t := 20) dX7_daysOf_5 rfl (by decide) (fun h1 => ?_) (fun h1 => ?_)
  · replace H := zt h1 H
    refine aw_bipush (q := 10) (v := 127) dX7_daysOf_8 rfl (by decide) ?_
    refine aw_aload_n (q := 11) dX7_daysOf_10 rfl rfl ?_
    refine aw_iload_n (q := 12) dX7_daysOf_11 rfl rfl ?_
    refine aw_iconst (q := 13) (v := (-1)) dX7_daysOf_12 rfl (by decide) ?_
    obtain ⟨v2, hv2, H⟩ := zbd H
    refine aw_cv (M' := M_X7_alikeDays) (as := [.int x1, .int (-1)]) (q := 16) dX7_daysOf_13 rfl W_X7_alikeDays k_X7_153 i_X7_alikeDays v_X7_alikeDays (by decide) (o_X7 sg s) rfl rfl rfl (by decide) (Nat.le_of_ble_eq_true rfl) (c_X7_alikeDays sg s x1 (-1) hv2) (Nat.le_refl _) (Nat.le_refl _) ?_
    rintro r9 h9 ⟨rfl, rfl⟩
    refine aw_isub (q := 17) dX7_daysOf_16 rfl ?_
    refine aw_goto (q := 22) dX7_daysOf_17 (by decide) ?_
    cases H
    exact aw_ret dX7_daysOf_22 rfl rfl rfl rfl ⟨rfl, rfl⟩
  · replace H := zf h1 H
    refine aw_ldc (q := 22) dX7_daysOf_20 rfl q_X7_53 ?_
    cases H
    exact aw_ret dX7_daysOf_22 rfl rfl rfl rfl ⟨rfl, rfl⟩
def f_X7_alike (s : zr) (x1 : Int32) (x2 : Int32) : Option (Int32 × zr) :=
  if f_X7_isFaultOrNone s x1 = true then (
    if f_X7_isFaultOrNone s x2 = true then (
      Option.bind (f_X7_alikeDays s x1 x2) fun v3 =>
      some (v3.1, v3.2)
    ) else (
      some ((-1000001), s)
    )
  ) else (
    some ((-1000001), s)
  )
set_option maxHeartbeats 4000000 in
set_option maxRecDepth 100000 in
theorem c_X7_alike {G : zG} {sl : Nat} (sg : zs) (s : zr) (x1 : Int32) (x2 : Int32) {v9 : (Int32 × zr)} (H : f_X7_alike s x1 x2 = some v9) : zMv G 9 M_X7_alike [.ref 120, .int x1, .int x2] sl (zT sg s) (fun r h' => r = some (.int v9.1) ∧ h' = zT sg v9.2) := by
  unfold f_X7_alike at H
  refine zMv_of (L := [some (.ref 120), some (.int x1), some (.int x2)]) (by decide) rfl (Nat.le_of_ble_eq_true rfl) rfl ?_
  refine aw_aload_n (q := 1) dX7_alike_0 rfl rfl ?_
  refine aw_iload_n (q := 2) dX7_alike_1 rfl rfl ?_
  refine aw_cv (M' := M_X7_isFaultOrNone) (as := [.int x1]) (q := 5) dX7_alike_2 rfl W_X7_isFaultOrNone k_X7_147 i_X7_isFaultOrNone v_X7_isFaultOrNone (by decide) (o_X7 sg s) rfl rfl rfl (by decide) (Nat.le_of_ble_eq_true rfl) (c_X7_isFaultOrNone sg s x1) (Nat.le_refl _) (Nat.le_refl _) ?_
  rintro r9 h9 ⟨rfl, rfl⟩
  refine aw_ifeqB (q := 8) (t := 25) dX7_alike_5 rfl (by decide) (fun h1 => ?_) (fun h1 => ?_)
  · replace H := zt h1 H
    refine aw_aload_n (q := 9) dX7_alike_8 rfl rfl ?_
    refine aw_iload_n (q := 10) dX7_alike_9 rfl rfl ?_
    refine aw_cv (M' := M_X7_isFaultOrNone) (as := [.int x2]) (q := 13) dX7_alike_10 rfl W_X7_isFaultOrNone k_X7_147 i_X7_isFaultOrNone v_X7_isFaultOrNone (by decide) (o_X7 sg s) rfl rfl rfl (by decide) (Nat.le_of_ble_eq_true rfl) (c_X7_isFaultOrNone sg s x2) (Nat.le_refl _) (Nat.le_refl _) ?_
    rintro r9 h9 ⟨rfl, rfl⟩
    refine aw_ifeqB (q := 16) (t := 25) dX7_alike_13 rfl (by decide) (fun h2 => ?_) (fun h2 => ?_)
    · replace H := zt h2 H
      refine aw_aload_n (q := 17) dX7_alike_16 rfl rfl ?_
      refine aw_iload_n (q := 18) dX7_alike_17 rfl rfl ?_
      refine aw_iload_n (q := 19) dX7_alike_18 rfl rfl ?_
      obtain ⟨v3, hv3, H⟩ := zbd H
      refine aw_cv (M' := M_X7_alikeDays) (as := [.int x1, .int x2]) (q := 22) dX7_alike_19 rfl W_X7_alikeDays k_X7_153 i_X7_alikeDays v_X7_alikeDays (by decide) (o_X7 sg s) rfl rfl rfl (by decide) (Nat.le_of_ble_eq_true rfl) (c_X7_alikeDays sg s x1 x2 hv3) (Nat.le_refl _) (Nat.le_refl _) ?_
      rintro r9 h9 ⟨rfl, rfl⟩
      refine aw_goto (q := 27) dX7_alike_22 (by decide) ?_
      cases H
      exact aw_ret dX7_alike_27 rfl rfl rfl rfl ⟨rfl, rfl⟩
    · replace H := zf h2 H
      refine aw_ldc (q := 27) dX7_alike_25 rfl q_X7_53 ?_
      cases H
      exact aw_ret dX7_alike_27 rfl rfl rfl rfl ⟨rfl, rfl⟩
  · replace H := zf h1 H
    refine aw_ldc (q := 27) dX7_alike_25 rfl q_X7_53 ?_
    cases H
    exact aw_ret dX7_alike_27 rfl rfl rfl rfl ⟨rfl, rfl⟩
def f_X7_twin_13 : Nat → zr → Int32 → Int32 → Option ((zr) ⊕ (Int32 × zr))
  | 0, _, _, _ => none
  | k + 1, s, x1, x2 =>
    if (s 1 2) ≤ x2 then (
      some (Sum.inl s)
    ) else (
      if x2 = x1 then (
        f_X7_twin_13 k s x1 (x2 + 1)
      ) else (
        Option.bind (f_X7_alikeDays s x1 x2) fun v3 =>
        if v3.1 = 127 then (
          some (Sum.inr (x2, v3.2))
        ) else (
          f_X7_twin_13 k v3.2 x1 (x2 + 1)
        )
      )
    )
set_option maxHeartbeats 4000000 in
set_option maxRecDepth 100000 in
theorem L_X7_twin_13 {G : zG} {sl : Nat} {P : Option Value → zH → Prop} (sg : zs) (x1 : Int32) : ∀ (k : Nat) (s : zr) (x2 : Int32) (e : (zr) ⊕ (Int32 × zr)), f_X7_twin_13 k s x1 x2 = some e → (∀ x9, e = Sum.inl x9 → AV G M_X7_twin 9 sl P 47 [some (.ref 120), some (.int x1), none] [] (zT sg x9)) → (∀ v9, e = Sum.inr v9 → P (some (.int v9.1)) (zT sg v9.2)) → AV G M_X7_twin 9 sl P 13 [some (.ref 120), some (.int x1), some (.int x2)] [] (zT sg s) := by
  intro k
  induction k with
  | zero =>
    intro s x2 e H
    unfold f_X7_twin_13 at H
    cases H
  | succ k ih =>
    intro s x2 e H KE KR
    unfold f_X7_twin_13 at H
    refine aw_iload_n (q := 14) dX7_twin_13 rfl rfl ?_
    refine aw_aload_n (q := 15) dX7_twin_14 rfl rfl ?_
    refine aw_getr (q := 18) dX7_twin_15 rfl e_X7_7 (by decide) (o_X7 sg s) rfl ?_
    refine aw_iconst (q := 19) (v := 2) dX7_twin_18 rfl (by decide) ?_
    refine aw_iald' (q := 20) (v := s 1 2) dX7_twin_19 rfl (by decide) (o_X7a0 sg s) (zin_in (by decide)) rfl ?_
    refine aw_icmp_ge (q := 23) (t := 47) dX7_twin_20 rfl (by decide) (fun h1 => ?_) (fun h1 => ?_)
    · replace H := zt h1 H
      cases H
      exact aw_fewer (L' := [some (.ref 120), some (.int x1), none]) ⟨rfl, ⟨rfl, trivial⟩⟩ (KE _ rfl)
    · replace H := zf h1 H
      refine aw_iload_n (q := 24) dX7_twin_23 rfl rfl ?_
      refine aw_iload_n (q := 25) dX7_twin_24 rfl rfl ?_
      refine aw_icmp_eq (q := 28) (t := 41) dX7_twin_25 rfl (by decide) (fun h2 => ?_) (fun h2 => ?_)
      · replace H := zt h2 H
        refine aw_iinc (q := 44) (v := x2 + 1) (L' := [some (.ref 120), some (.int x1), some (.int (x2 + 1))]) dX7_twin_41 rfl rfl (by first | rfl | decide) (by decide) rfl rfl ?_
        refine aw_goto (q := 13) dX7_twin_44 (by decide) ?_
        exact aw_fewer (L' := [some (.ref 120), some (.int x1), some (.int (x2 + 1))]) ⟨rfl, ⟨rfl, ⟨rfl, trivial⟩⟩⟩ (ih s (x2 + 1) _ H KE KR)
      · replace H := zf h2 H
        refine aw_aload_n (q := 29) dX7_twin_28 rfl rfl ?_
        refine aw_iload_n (q := 30) dX7_twin_29 rfl rfl ?_
        refine aw_iload_n (q := 31) dX7_twin_30 rfl rfl ?_
        obtain ⟨v3, hv3, H⟩ := zbd H
        refine aw_cv (M' := M_X7_alikeDays) (as := [.int x1, .int x2]) (q := 34) dX7_twin_31 rfl W_X7_alikeDays k_X7_153 i_X7_alikeDays v_X7_alikeDays (by decide) (o_X7 sg s) rfl rfl rfl (by decide) (Nat.le_of_ble_eq_true rfl) (c_X7_alikeDays sg s x1 x2 hv3) (Nat.le_refl _) (Nat.le_refl _) ?_
        rintro r9 h9 ⟨rfl, rfl⟩
        refine aw_bipush (q := 36) (v := 127) dX7_twin_34 rfl (by decide) ?_
        refine aw_icmp_neP (q := 39) (t := 41) dX7_twin_36 rfl (by decide) (fun h4 => ?_) (fun h4 => ?_)
        · replace H := zt h4 H
          refine aw_iload_n (q := 40) dX7_twin_39 rfl rfl ?_
          cases H
          exact aw_ret dX7_twin_40 rfl rfl rfl rfl (KR _ rfl)
        · replace H := zf h4 H
          refine aw_iinc (q := 44) (v := x2 + 1) (L' := [some (.ref 120), some (.int x1), some (.int (x2 + 1))]) dX7_twin_41 rfl rfl (by first | rfl | decide) (by decide) rfl rfl ?_
          refine aw_goto (q := 13) dX7_twin_44 (by decide) ?_
          exact aw_fewer (L' := [some (.ref 120), some (.int x1), some (.int (x2 + 1))]) ⟨rfl, ⟨rfl, ⟨rfl, trivial⟩⟩⟩ (ih v3.2 (x2 + 1) _ H KE KR)
def f_X7_twin (s : zr) (x1 : Int32) : Option (Int32 × zr) :=
  if f_X7_isFault s x1 = true then (
    Option.bind (f_X7_twin_13 zFu s x1 0) fun e2 => match e2 with
    | Sum.inr r5 => some r5
    | Sum.inl e2i =>
    Option.bind (f_X7_alikeDays e2i x1 (-1)) fun v6 =>
    if v6.1 = 127 then (
      some ((-1), v6.2)
    ) else (
      some ((-1000004), v6.2)
    )
  ) else (
    some ((-1000001), s)
  )
set_option maxHeartbeats 4000000 in
set_option maxRecDepth 100000 in
theorem c_X7_twin {G : zG} {sl : Nat} (sg : zs) (s : zr) (x1 : Int32) {v9 : (Int32 × zr)} (H : f_X7_twin s x1 = some v9) : zMv G 9 M_X7_twin [.ref 120, .int x1] sl (zT sg s) (fun r h' => r = some (.int v9.1) ∧ h' = zT sg v9.2) := by
  unfold f_X7_twin at H
  refine zMv_of (L := [some (.ref 120), some (.int x1), none]) (by decide) rfl (Nat.le_of_ble_eq_true rfl) rfl ?_
  refine aw_aload_n (q := 1) dX7_twin_0 rfl rfl ?_
  refine aw_iload_n (q := 2) dX7_twin_1 rfl rfl ?_
  refine aw_cv (M' := M_X7_isFault) (as := [.int x1]) (q := 5) dX7_twin_2 rfl W_X7_isFault k_X7_100 i_X7_isFault v_X7_isFault (by decide) (o_X7 sg s) rfl rfl rfl (by decide) (Nat.le_of_ble_eq_true rfl) (c_X7_isFault sg s x1) (Nat.le_refl _) (Nat.le_refl _) ?_
  rintro r9 h9 ⟨rfl, rfl⟩
  refine aw_ifneB (q := 8) (t := 11) dX7_twin_5 rfl (by decide) (fun h1 => ?_) (fun h1 => ?_)
  · replace H := zt h1 H
    refine aw_iconst (q := 12) (v := 0) dX7_twin_11 rfl (by decide) ?_
    refine aw_istore_n (q := 13) (L' := [some (.ref 120), some (.int x1), some (.int 0)]) dX7_twin_12 rfl (by decide) rfl rfl ?_
    obtain ⟨e2, he2, H⟩ := zbd H
    refine aw_fewer (L' := [some (.ref 120), some (.int x1), some (.int 0)]) ⟨rfl, ⟨rfl, ⟨rfl, trivial⟩⟩⟩ ?_
    refine L_X7_twin_13 sg x1 zFu s 0 e2 he2 (fun e2i h9 => ?_) (fun r5 h9 => ?_)
    · subst h9
      replace H : _ = _ := H
      refine aw_aload_n (q := 48) dX7_twin_47 rfl rfl ?_
      refine aw_iload_n (q := 49) dX7_twin_48 rfl rfl ?_
      refine aw_iconst (q := 50) (v := (-1)) dX7_twin_49 rfl (by decide) ?_
      obtain ⟨v6, hv6, H⟩ := zbd H
      refine aw_cv (M' := M_X7_alikeDays) (as := [.int x1, .int (-1)]) (q := 53) dX7_twin_50 rfl W_X7_alikeDays k_X7_153 i_X7_alikeDays v_X7_alikeDays (by decide) (o_X7 sg e2i) rfl rfl rfl (by decide) (Nat.le_of_ble_eq_true rfl) (c_X7_alikeDays sg e2i x1 (-1) hv6) (Nat.le_refl _) (Nat.le_refl _) ?_
      rintro r9 h9 ⟨rfl, rfl⟩
      refine aw_bipush (q := 55) (v := 127) dX7_twin_53 rfl (by decide) ?_
      refine aw_icmp_neP (q := 58) (t := 62) dX7_twin_55 rfl (by decide) (fun h7 => ?_) (fun h7 => ?_)
      · replace H := zt h7 H
        refine aw_iconst (q := 59) (v := (-1)) dX7_twin_58 rfl (by decide) ?_
        refine aw_goto (q := 64) dX7_twin_59 (by decide) ?_
        cases H
        exact aw_ret dX7_twin_64 rfl rfl rfl rfl ⟨rfl, rfl⟩
      · replace H := zf h7 H
        refine aw_ldc (q := 64) dX7_twin_62 rfl q_X7_93 ?_
        cases H
        exact aw_ret dX7_twin_64 rfl rfl rfl rfl ⟨rfl, rfl⟩
    · subst h9
      cases H
      exact ⟨rfl, rfl⟩
  · replace H := zf h1 H
    refine aw_ldc (q := 10) dX7_twin_8 rfl q_X7_53 ?_
    cases H
    exact aw_ret dX7_twin_10 rfl rfl rfl rfl ⟨rfl, rfl⟩
def f_X7_outcomes_23 : Nat → zr → Int32 → Int32 → Option (Int32)
  | 0, _, _, _ => none
  | k + 1, s, x2, x3 =>
    if (10 : Int32) < x3 then (
      some x2
    ) else (
      if f_X7_isBoard s x3 = true then (
        Option.bind (f_X7_likeSet s x3) fun v3 =>
        if (v3 &&& (((1 : Int32) <<< (x3 &&& 31)) - 1)) = 0 then (
          zlt (x2 + 1 : Int32) fun y5 =>
          f_X7_outcomes_23 k s y5 (x3 + 1)
        ) else (
          zlt (x2 + 0 : Int32) fun y7 =>
          f_X7_outcomes_23 k s y7 (x3 + 1)
        )
      ) else (
        f_X7_outcomes_23 k s x2 (x3 + 1)
      )
    )
set_option maxHeartbeats 4000000 in
set_option maxRecDepth 100000 in
theorem L_X7_outcomes_23 {G : zG} {sl : Nat} {P : Option Value → zH → Prop} (sg : zs)  : ∀ (k : Nat) (s : zr) (x2 : Int32) (x3 : Int32) (e : Int32), f_X7_outcomes_23 k s x2 x3 = some e → (AV G M_X7_outcomes 9 sl P 69 [none, none, some (.int e), none, none] [] (zT sg s)) → AV G M_X7_outcomes 9 sl P 23 [some (.ref 120), none, some (.int x2), some (.int x3), none] [] (zT sg s) := by
  intro k
  induction k with
  | zero =>
    intro s x2 x3 e H
    unfold f_X7_outcomes_23 at H
    cases H
  | succ k ih =>
    intro s x2 x3 e H KE
    unfold f_X7_outcomes_23 at H
    refine aw_iload_n (q := 24) dX7_outcomes_23 rfl rfl ?_
    refine aw_bipush (q := 26) (v := 10) dX7_outcomes_24 rfl (by decide) ?_
    refine aw_icmp_gt (q := 29) (t := 69) dX7_outcomes_26 rfl (by decide) (fun h1 => ?_) (fun h1 => ?_)
    · replace H := zt h1 H
      cases H
      exact aw_fewer (L' := [none, none, some (.int x2), none, none]) ⟨rfl, trivial⟩ KE
    · replace H := zf h1 H
      refine aw_aload_n (q := 30) dX7_outcomes_29 rfl rfl ?_
      refine aw_iload_n (q := 31) dX7_outcomes_30 rfl rfl ?_
      refine aw_cv (M' := M_X7_isBoard) (as := [.int x3]) (q := 34) dX7_outcomes_31 rfl W_X7_isBoard k_X7_134 i_X7_isBoard v_X7_isBoard (by decide) (o_X7 sg s) rfl rfl rfl (by decide) (Nat.le_of_ble_eq_true rfl) (c_X7_isBoard sg s x3) (Nat.le_refl _) (Nat.le_refl _) ?_
      rintro r9 h9 ⟨rfl, rfl⟩
      refine aw_ifeqB (q := 37) (t := 63) dX7_outcomes_34 rfl (by decide) (fun h2 => ?_) (fun h2 => ?_)
      · replace H := zt h2 H
        refine aw_aload_n (q := 38) dX7_outcomes_37 rfl rfl ?_
        refine aw_iload_n (q := 39) dX7_outcomes_38 rfl rfl ?_
        obtain ⟨v3, hv3, H⟩ := zbd H
        refine aw_cv (M' := M_X7_likeSet) (as := [.int x3]) (q := 42) dX7_outcomes_39 rfl W_X7_likeSet k_X7_160 i_X7_likeSet v_X7_likeSet (by decide) (o_X7 sg s) rfl rfl rfl (by decide) (Nat.le_of_ble_eq_true rfl) (c_X7_likeSet sg s x3 hv3) (Nat.le_refl _) (Nat.le_refl _) ?_
        rintro r9 h9 ⟨rfl, rfl⟩
        refine aw_istore (q := 44) (L' := [some (.ref 120), none, some (.int x2), some (.int x3), some (.int v3)]) dX7_outcomes_42 rfl (by decide) rfl rfl ?_
        refine aw_iload_n (q := 45) dX7_outcomes_44 rfl rfl ?_
        refine aw_iload (q := 47) dX7_outcomes_45 rfl rfl ?_
        refine aw_iconst (q := 48) (v := 1) dX7_outcomes_47 rfl (by decide) ?_
        refine aw_iload_n (q := 49) dX7_outcomes_48 rfl rfl ?_
        refine aw_ishl (q := 50) dX7_outcomes_49 rfl ?_
        refine aw_iconst (q := 51) (v := 1) dX7_outcomes_50 rfl (by decide) ?_
        refine aw_isub (q := 52) dX7_outcomes_51 rfl ?_
        refine aw_iand (q := 53) dX7_outcomes_52 rfl ?_
        refine aw_if_neP (q := 56) (t := 60) dX7_outcomes_53 rfl (by decide) (fun h4 => ?_) (fun h4 => ?_)
        · replace H := zt h4 H
          refine aw_iconst (q := 57) (v := 1) dX7_outcomes_56 rfl (by decide) ?_
          refine aw_goto (q := 61) dX7_outcomes_57 (by decide) ?_
          refine aw_iadd (q := 62) dX7_outcomes_61 rfl ?_
          obtain ⟨y5, q6, H⟩ := zltd H
          refine aw_nm q6 ?_
          refine aw_istore_n (q := 63) (L' := [some (.ref 120), none, some (.int y5), some (.int x3), some (.int v3)]) dX7_outcomes_62 rfl (by decide) rfl rfl ?_
          refine aw_iinc (q := 66) (v := x3 + 1) (L' := [some (.ref 120), none, some (.int y5), some (.int (x3 + 1)), some (.int v3)]) dX7_outcomes_63 rfl rfl (by first | rfl | decide) (by decide) rfl rfl ?_
          refine aw_goto (q := 23) dX7_outcomes_66 (by decide) ?_
          exact aw_fewer (L' := [some (.ref 120), none, some (.int y5), some (.int (x3 + 1)), none]) ⟨rfl, ⟨rfl, ⟨rfl, trivial⟩⟩⟩ (ih s y5 (x3 + 1) _ H KE)
        · replace H := zf h4 H
          refine aw_iconst (q := 61) (v := 0) dX7_outcomes_60 rfl (by decide) ?_
          refine aw_iadd (q := 62) dX7_outcomes_61 rfl ?_
          obtain ⟨y7, q8, H⟩ := zltd H
          refine aw_nm q8 ?_
          refine aw_istore_n (q := 63) (L' := [some (.ref 120), none, some (.int y7), some (.int x3), some (.int v3)]) dX7_outcomes_62 rfl (by decide) rfl rfl ?_
          refine aw_iinc (q := 66) (v := x3 + 1) (L' := [some (.ref 120), none, some (.int y7), some (.int (x3 + 1)), some (.int v3)]) dX7_outcomes_63 rfl rfl (by first | rfl | decide) (by decide) rfl rfl ?_
          refine aw_goto (q := 23) dX7_outcomes_66 (by decide) ?_
          exact aw_fewer (L' := [some (.ref 120), none, some (.int y7), some (.int (x3 + 1)), none]) ⟨rfl, ⟨rfl, ⟨rfl, trivial⟩⟩⟩ (ih s y7 (x3 + 1) _ H KE)
      · replace H := zf h2 H
        refine aw_iinc (q := 66) (v := x3 + 1) (L' := [some (.ref 120), none, some (.int x2), some (.int (x3 + 1)), none]) dX7_outcomes_63 rfl rfl (by first | rfl | decide) (by decide) rfl rfl ?_
        refine aw_goto (q := 23) dX7_outcomes_66 (by decide) ?_
        exact aw_fewer (L' := [some (.ref 120), none, some (.int x2), some (.int (x3 + 1)), none]) ⟨rfl, ⟨rfl, ⟨rfl, trivial⟩⟩⟩ (ih s x2 (x3 + 1) _ H KE)
def f_X7_outcomes (s : zr) (x1 : Int32) : Option (Int32 × zr) :=
  if f_X7_isDay x1 = true then (
    Option.bind (f_X7_touchedOn s x1) fun v2 =>
    Option.bind (f_X7_measures s v2) fun v3 =>
    Option.bind (f_X7_outcomes_23 zFu v3 0 0) fun e4 =>
    some (e4, v3)
  ) else (
    some ((-1000001), s)
  )
set_option maxHeartbeats 4000000 in
set_option maxRecDepth 100000 in
theorem c_X7_outcomes {G : zG} {sl : Nat} (sg : zs) (s : zr) (x1 : Int32) {v9 : (Int32 × zr)} (H : f_X7_outcomes s x1 = some v9) : zMv G 9 M_X7_outcomes [.ref 120, .int x1] sl (zT sg s) (fun r h' => r = some (.int v9.1) ∧ h' = zT sg v9.2) := by
  unfold f_X7_outcomes at H
  refine zMv_of (L := [some (.ref 120), some (.int x1), none, none, none]) (by decide) rfl (Nat.le_of_ble_eq_true rfl) rfl ?_
  refine aw_iload_n (q := 1) dX7_outcomes_0 rfl rfl ?_
  refine aw_cs (M' := M_X7_isDay) (as := [.int x1]) (q := 4) dX7_outcomes_1 rfl W_X7_isDay k_X7_144 s_X7_isDay rfl rfl (by decide) (Nat.le_of_ble_eq_true rfl) (c_X7_isDay (zT sg s) x1) (Nat.le_refl _) (Nat.le_refl _) ?_
  rintro r9 h9 ⟨rfl, rfl⟩
  refine aw_ifneB (q := 7) (t := 10) dX7_outcomes_4 rfl (by decide) (fun h1 => ?_) (fun h1 => ?_)
  · replace H := zt h1 H
    refine aw_aload_n (q := 11) dX7_outcomes_10 rfl rfl ?_
    refine aw_aload_n (q := 12) dX7_outcomes_11 rfl rfl ?_
    refine aw_iload_n (q := 13) dX7_outcomes_12 rfl rfl ?_
    obtain ⟨v2, hv2, H⟩ := zbd H
    refine aw_cv (M' := M_X7_touchedOn) (as := [.int x1]) (q := 16) dX7_outcomes_13 rfl W_X7_touchedOn k_X7_90 i_X7_touchedOn v_X7_touchedOn (by decide) (o_X7 sg s) rfl rfl rfl (by decide) (Nat.le_of_ble_eq_true rfl) (c_X7_touchedOn sg s x1 hv2) (Nat.le_refl _) (Nat.le_refl _) ?_
    rintro r9 h9 ⟨rfl, rfl⟩
    obtain ⟨v3, hv3, H⟩ := zbd H
    refine aw_cv (M' := M_X7_measures) (as := [.int v2]) (q := 19) dX7_outcomes_16 rfl W_X7_measures k_X7_156 i_X7_measures v_X7_measures (by decide) (o_X7 sg s) rfl rfl rfl (by decide) (Nat.le_of_ble_eq_true rfl) (c_X7_measures sg s v2 hv3) (Nat.le_refl _) (Nat.le_refl _) ?_
    rintro r9 h9 ⟨rfl, rfl⟩
    refine aw_iconst (q := 20) (v := 0) dX7_outcomes_19 rfl (by decide) ?_
    refine aw_istore_n (q := 21) (L' := [some (.ref 120), some (.int x1), some (.int 0), none, none]) dX7_outcomes_20 rfl (by decide) rfl rfl ?_
    refine aw_iconst (q := 22) (v := 0) dX7_outcomes_21 rfl (by decide) ?_
    refine aw_istore_n (q := 23) (L' := [some (.ref 120), some (.int x1), some (.int 0), some (.int 0), none]) dX7_outcomes_22 rfl (by decide) rfl rfl ?_
    obtain ⟨e4, he4, H⟩ := zbd H
    refine aw_fewer (L' := [some (.ref 120), none, some (.int 0), some (.int 0), none]) ⟨rfl, ⟨rfl, ⟨rfl, trivial⟩⟩⟩ ?_
    refine L_X7_outcomes_23 sg  zFu v3 0 0 e4 he4 ?_
    refine aw_iload_n (q := 70) dX7_outcomes_69 rfl rfl ?_
    cases H
    exact aw_ret dX7_outcomes_70 rfl rfl rfl rfl ⟨rfl, rfl⟩
  · replace H := zf h1 H
    refine aw_ldc (q := 9) dX7_outcomes_7 rfl q_X7_53 ?_
    cases H
    exact aw_ret dX7_outcomes_9 rfl rfl rfl rfl ⟨rfl, rfl⟩
def f_X7_likes (s : zr) (x1 : Int32) (x2 : Int32) : Option (Int32 × zr) :=
  if f_X7_isDay x1 = true then (
    if f_X7_isFaultOrNone s x2 = true then (
      Option.bind (f_X7_touchedOn s x1) fun v3 =>
      Option.bind (f_X7_measures s v3) fun v4 =>
      Option.bind (f_X7_likeSet v4 (f_X7_slotOf x2)) fun v5 =>
      some (v5, v4)
    ) else (
      some ((-1000001), s)
    )
  ) else (
    some ((-1000001), s)
  )
set_option maxHeartbeats 4000000 in
set_option maxRecDepth 100000 in
theorem c_X7_likes {G : zG} {sl : Nat} (sg : zs) (s : zr) (x1 : Int32) (x2 : Int32) {v9 : (Int32 × zr)} (H : f_X7_likes s x1 x2 = some v9) : zMv G 9 M_X7_likes [.ref 120, .int x1, .int x2] sl (zT sg s) (fun r h' => r = some (.int v9.1) ∧ h' = zT sg v9.2) := by
  unfold f_X7_likes at H
  refine zMv_of (L := [some (.ref 120), some (.int x1), some (.int x2)]) (by decide) rfl (Nat.le_of_ble_eq_true rfl) rfl ?_
  refine aw_iload_n (q := 1) dX7_likes_0 rfl rfl ?_
  refine aw_cs (M' := M_X7_isDay) (as := [.int x1]) (q := 4) dX7_likes_1 rfl W_X7_isDay k_X7_144 s_X7_isDay rfl rfl (by decide) (Nat.le_of_ble_eq_true rfl) (c_X7_isDay (zT sg s) x1) (Nat.le_refl _) (Nat.le_refl _) ?_
  rintro r9 h9 ⟨rfl, rfl⟩
  refine aw_ifeqB (q := 7) (t := 15) dX7_likes_4 rfl (by decide) (fun h1 => ?_) (fun h1 => ?_)
  · replace H := zt h1 H
    refine aw_aload_n (q := 8) dX7_likes_7 rfl rfl ?_
    refine aw_iload_n (q := 9) dX7_likes_8 rfl rfl ?_
    refine aw_cv (M' := M_X7_isFaultOrNone) (as := [.int x2]) (q := 12) dX7_likes_9 rfl W_X7_isFaultOrNone k_X7_147 i_X7_isFaultOrNone v_X7_isFaultOrNone (by decide) (o_X7 sg s) rfl rfl rfl (by decide) (Nat.le_of_ble_eq_true rfl) (c_X7_isFaultOrNone sg s x2) (Nat.le_refl _) (Nat.le_refl _) ?_
    rintro r9 h9 ⟨rfl, rfl⟩
    refine aw_ifneB (q := 15) (t := 18) dX7_likes_12 rfl (by decide) (fun h2 => ?_) (fun h2 => ?_)
    · replace H := zt h2 H
      refine aw_aload_n (q := 19) dX7_likes_18 rfl rfl ?_
      refine aw_aload_n (q := 20) dX7_likes_19 rfl rfl ?_
      refine aw_iload_n (q := 21) dX7_likes_20 rfl rfl ?_
      obtain ⟨v3, hv3, H⟩ := zbd H
      refine aw_cv (M' := M_X7_touchedOn) (as := [.int x1]) (q := 24) dX7_likes_21 rfl W_X7_touchedOn k_X7_90 i_X7_touchedOn v_X7_touchedOn (by decide) (o_X7 sg s) rfl rfl rfl (by decide) (Nat.le_of_ble_eq_true rfl) (c_X7_touchedOn sg s x1 hv3) (Nat.le_refl _) (Nat.le_refl _) ?_
      rintro r9 h9 ⟨rfl, rfl⟩
      obtain ⟨v4, hv4, H⟩ := zbd H
      refine aw_cv (M' := M_X7_measures) (as := [.int v3]) (q := 27) dX7_likes_24 rfl W_X7_measures k_X7_156 i_X7_measures v_X7_measures (by decide) (o_X7 sg s) rfl rfl rfl (by decide) (Nat.le_of_ble_eq_true rfl) (c_X7_measures sg s v3 hv4) (Nat.le_refl _) (Nat.le_refl _) ?_
      rintro r9 h9 ⟨rfl, rfl⟩
      refine aw_aload_n (q := 28) dX7_likes_27 rfl rfl ?_
      refine aw_iload_n (q := 29) dX7_likes_28 rfl rfl ?_
      refine aw_cs (M' := M_X7_slotOf) (as := [.int x2]) (q := 32) dX7_likes_29 rfl W_X7_slotOf k_X7_150 s_X7_slotOf rfl rfl (by decide) (Nat.le_of_ble_eq_true rfl) (c_X7_slotOf (zT sg v4) x2) (Nat.le_refl _) (Nat.le_refl _) ?_
      rintro r9 h9 ⟨rfl, rfl⟩
      obtain ⟨v5, hv5, H⟩ := zbd H
      refine aw_cv (M' := M_X7_likeSet) (as := [.int (f_X7_slotOf x2)]) (q := 35) dX7_likes_32 rfl W_X7_likeSet k_X7_160 i_X7_likeSet v_X7_likeSet (by decide) (o_X7 sg v4) rfl rfl rfl (by decide) (Nat.le_of_ble_eq_true rfl) (c_X7_likeSet sg v4 (f_X7_slotOf x2) hv5) (Nat.le_refl _) (Nat.le_refl _) ?_
      rintro r9 h9 ⟨rfl, rfl⟩
      cases H
      exact aw_ret dX7_likes_35 rfl rfl rfl rfl ⟨rfl, rfl⟩
    · replace H := zf h2 H
      refine aw_ldc (q := 17) dX7_likes_15 rfl q_X7_53 ?_
      cases H
      exact aw_ret dX7_likes_17 rfl rfl rfl rfl ⟨rfl, rfl⟩
  · replace H := zf h1 H
    refine aw_ldc (q := 17) dX7_likes_15 rfl q_X7_53 ?_
    cases H
    exact aw_ret dX7_likes_17 rfl rfl rfl rfl ⟨rfl, rfl⟩
