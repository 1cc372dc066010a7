def f_X3_doFault (s : zs) (x1 : Int32) (x2 : Int32) (x3 : Int32) : Option (Int32 × zs) :=
  Option.bind (f_X0_refusalOfFault s 52 x1 x2 x3) fun v1 =>
  if v1 = 0 then (
    Option.bind (f_X0_addFault s 52 x1 x2 x3) fun v3 =>
    some (v1, v3.2)
  ) else (
    some (v1, s)
  )
set_option maxHeartbeats 4000000 in
set_option maxRecDepth 100000 in
theorem c_X3_doFault {G : zG} {sl : Nat} (s : zs) (R : zr) (x1 : Int32) (x2 : Int32) (x3 : Int32) {v9 : (Int32 × zs)} (H : f_X3_doFault s x1 x2 x3 = some v9) : zMv G 2 M_X3_doFault [.ref 51, .int x1, .int x2, .int x3] sl (zT s R) (fun r h' => r = some (.int v9.1) ∧ h' = zT v9.2 R) := by
  unfold f_X3_doFault at H
  refine zMv_of (L := [some (.ref 51), some (.int x1), some (.int x2), some (.int x3), none]) (by decide) rfl (Nat.le_of_ble_eq_true rfl) rfl ?_
  refine aw_aload_n (q := 1) dX3_doFault_0 rfl rfl ?_
  refine aw_getr (q := 4) dX3_doFault_1 rfl e_X3_12 (by decide) (o_X3 s R) rfl ?_
  refine aw_iload_n (q := 5) dX3_doFault_4 rfl rfl ?_
  refine aw_iload_n (q := 6) dX3_doFault_5 rfl rfl ?_
  refine aw_iload_n (q := 7) dX3_doFault_6 rfl rfl ?_
  obtain ⟨v1, hv1, H⟩ := zbd H
  refine aw_cv (M' := M_X0_refusalOfFault) (as := [.int x1, .int x2, .int x3]) (q := 10) dX3_doFault_7 rfl W_X0_refusalOfFault k_X3_164 i_X0_refusalOfFault v_X0_refusalOfFault (zB_lt0 zB52) (o_X0 zB52 s R) rfl rfl rfl (by decide) (Nat.le_of_ble_eq_true rfl) (c_X0_refusalOfFault s R zB52 x1 x2 x3 hv1) (Nat.le_refl _) (Nat.le_refl _) ?_
  rintro r9 h9 ⟨rfl, rfl⟩
  refine aw_istore (q := 12) (L' := [some (.ref 51), some (.int x1), some (.int x2), some (.int x3), some (.int v1)]) dX3_doFault_10 rfl (by decide) rfl rfl ?_
  refine aw_iload (q := 14) dX3_doFault_12 rfl rfl ?_
  refine aw_if_neP (q := 17) (t := 28) dX3_doFault_14 rfl (by decide) (fun h2 => ?_) (fun h2 => ?_)
  · replace H := zt h2 H
    refine aw_aload_n (q := 18) dX3_doFault_17 rfl rfl ?_
    refine aw_getr (q := 21) dX3_doFault_18 rfl e_X3_12 (by decide) (o_X3 s R) rfl ?_
    refine aw_iload_n (q := 22) dX3_doFault_21 rfl rfl ?_
    refine aw_iload_n (q := 23) dX3_doFault_22 rfl rfl ?_
    refine aw_iload_n (q := 24) dX3_doFault_23 rfl rfl ?_
    obtain ⟨v3, hv3, H⟩ := zbd H
    refine aw_cv (M' := M_X0_addFault) (as := [.int x1, .int x2, .int x3]) (q := 27) dX3_doFault_24 rfl W_X0_addFault k_X3_167 i_X0_addFault v_X0_addFault (zB_lt0 zB52) (o_X0 zB52 s R) rfl rfl rfl (by decide) (Nat.le_of_ble_eq_true rfl) (c_X0_addFault s R zB52 x1 x2 x3 hv3) (Nat.le_refl _) (Nat.le_refl _) ?_
    rintro r9 h9 ⟨rfl, rfl⟩
    refine aw_pop (q := 28) dX3_doFault_27 rfl rfl ?_
    refine aw_iload (q := 30) dX3_doFault_28 rfl rfl ?_
    cases H
    exact aw_ret dX3_doFault_30 rfl rfl rfl rfl ⟨rfl, rfl⟩
  · replace H := zf h2 H
    refine aw_iload (q := 30) dX3_doFault_28 rfl rfl ?_
    cases H
    exact aw_ret dX3_doFault_30 rfl rfl rfl rfl ⟨rfl, rfl⟩
def f_X3_doCommand (s : zs) : Option (Int32 × zs) :=
  if (s.1 51 4) = 0 then (
    Option.bind (f_X3_doNet s) fun v8 =>
    some (v8.1, v8.2)
  ) else (
    if (s.1 51 4) = 1 then (
      Option.bind (f_X3_doChip s) fun v9 =>
      some (v9.1, v9.2)
    ) else (
      if (s.1 51 4) = 2 then (
        Option.bind (f_X3_doFault s 0 (s.1 63 0) 0) fun v10 =>
        some (v10.1, v10.2)
      ) else (
        if (s.1 51 4) = 3 then (
          Option.bind (f_X3_doFault s 1 (if (s.1 63 1) < (s.1 63 0) then s.1 63 1 else s.1 63 0) (if (s.1 63 0) < (s.1 63 1) then s.1 63 1 else s.1 63 0)) fun v11 =>
          some (v11.1, v11.2)
        ) else (
          if (s.1 51 4) = 4 then (
            Option.bind (f_X3_doFault s 2 (s.1 63 0) 0) fun v12 =>
            some (v12.1, v12.2)
          ) else (
            if (s.1 51 4) = 5 then (
              Option.bind (f_X3_doFault s 3 (s.1 63 0) 0) fun v13 =>
              some (v13.1, v13.2)
            ) else (
              if (s.1 51 4) = 6 then (
                Option.bind (f_X3_doFault s 4 (s.1 63 0) 0) fun v14 =>
                some (v14.1, v14.2)
              ) else (
                Option.bind (f_X3_setFrom s 1) fun v15 =>
                Option.bind (f_X0_setBlessing s 52 (s.1 63 0) v15) fun v16 =>
                some (0, v16.2)
              )
            )
          )
        )
      )
    )
  )
set_option maxHeartbeats 4000000 in
set_option maxRecDepth 100000 in
theorem c_X3_doCommand {G : zG} {sl : Nat} (s : zs) (R : zr)  {v9 : (Int32 × zs)} (H : f_X3_doCommand s = some v9) : zMv G 3 M_X3_doCommand [.ref 51] sl (zT s R) (fun r h' => r = some (.int v9.1) ∧ h' = zT v9.2 R) := by
  unfold f_X3_doCommand at H
  refine zMv_of (L := [some (.ref 51)]) (by decide) rfl (Nat.le_of_ble_eq_true rfl) rfl ?_
  refine aw_aload_n (q := 1) dX3_doCommand_0 rfl rfl ?_
  refine aw_getr (q := 4) dX3_doCommand_1 rfl e_X3_74 (by decide) (o_X3 s R) rfl ?_
  by_cases h1 : (s.1 51 4) = 0
  · replace H := zt h1 H
    refine aw_tabIn (q := 48) (off := 44) dX3_doCommand_4 (by rw [h1]; decide) (by rw [h1]; decide) (by rw [h1]; rfl) (by decide) ?_
    refine aw_aload_n (q := 49) dX3_doCommand_48 rfl rfl ?_
    obtain ⟨v8, hv8, H⟩ := zbd H
    refine aw_cv (M' := M_X3_doNet) (as := []) (q := 52) dX3_doCommand_49 rfl W_X3_doNet k_X3_128 i_X3_doNet v_X3_doNet (by decide) (o_X3 s R) rfl rfl rfl (by decide) (Nat.le_of_ble_eq_true rfl) (c_X3_doNet s R hv8) (Nat.le_refl _) (Nat.le_refl _) ?_
    rintro r9 h9 ⟨rfl, rfl⟩
    cases H
    exact aw_ret dX3_doCommand_52 rfl rfl rfl rfl ⟨rfl, rfl⟩
  · replace H := zf h1 H
    by_cases h2 : (s.1 51 4) = 1
    · replace H := zt h2 H
      refine aw_tabIn (q := 53) (off := 49) dX3_doCommand_4 (by rw [h2]; decide) (by rw [h2]; decide) (by rw [h2]; rfl) (by decide) ?_
      refine aw_aload_n (q := 54) dX3_doCommand_53 rfl rfl ?_
      obtain ⟨v9, hv9, H⟩ := zbd H
      refine aw_cv (M' := M_X3_doChip) (as := []) (q := 57) dX3_doCommand_54 rfl W_X3_doChip k_X3_131 i_X3_doChip v_X3_doChip (by decide) (o_X3 s R) rfl rfl rfl (by decide) (Nat.le_of_ble_eq_true rfl) (c_X3_doChip s R hv9) (Nat.le_refl _) (Nat.le_refl _) ?_
      rintro r9 h9 ⟨rfl, rfl⟩
      cases H
      exact aw_ret dX3_doCommand_57 rfl rfl rfl rfl ⟨rfl, rfl⟩
    · replace H := zf h2 H
      by_cases h3 : (s.1 51 4) = 2
      · replace H := zt h3 H
        refine aw_tabIn (q := 58) (off := 54) dX3_doCommand_4 (by rw [h3]; decide) (by rw [h3]; decide) (by rw [h3]; rfl) (by decide) ?_
        refine aw_aload_n (q := 59) dX3_doCommand_58 rfl rfl ?_
        refine aw_iconst (q := 60) (v := 0) dX3_doCommand_59 rfl (by decide) ?_
        refine aw_aload_n (q := 61) dX3_doCommand_60 rfl rfl ?_
        refine aw_getr (q := 64) dX3_doCommand_61 rfl e_X3_22 (by decide) (o_X3 s R) rfl ?_
        refine aw_iconst (q := 65) (v := 0) dX3_doCommand_64 rfl (by decide) ?_
        refine aw_iald' (q := 66) (v := s.1 63 0) dX3_doCommand_65 rfl (by decide) (o_X3a2 s R) (zin_in (by decide)) rfl ?_
        refine aw_iconst (q := 67) (v := 0) dX3_doCommand_66 rfl (by decide) ?_
        obtain ⟨v10, hv10, H⟩ := zbd H
        refine aw_cv (M' := M_X3_doFault) (as := [.int 0, .int (s.1 63 0), .int 0]) (q := 70) dX3_doCommand_67 rfl W_X3_doFault k_X3_134 i_X3_doFault v_X3_doFault (by decide) (o_X3 s R) rfl rfl rfl (by decide) (Nat.le_of_ble_eq_true rfl) (c_X3_doFault s R 0 (s.1 63 0) 0 hv10) (Nat.le_refl _) (Nat.le_refl _) ?_
        rintro r9 h9 ⟨rfl, rfl⟩
        cases H
        exact aw_ret dX3_doCommand_70 rfl rfl rfl rfl ⟨rfl, rfl⟩
      · replace H := zf h3 H
        by_cases h4 : (s.1 51 4) = 3
        · replace H := zt h4 H
          refine aw_tabIn (q := 71) (off := 67) dX3_doCommand_4 (by rw [h4]; decide) (by rw [h4]; decide) (by rw [h4]; rfl) (by decide) ?_
          refine aw_aload_n (q := 72) dX3_doCommand_71 rfl rfl ?_
          refine aw_iconst (q := 73) (v := 1) dX3_doCommand_72 rfl (by decide) ?_
          refine aw_aload_n (q := 74) dX3_doCommand_73 rfl rfl ?_
          refine aw_getr (q := 77) dX3_doCommand_74 rfl e_X3_22 (by decide) (o_X3 s R) rfl ?_
          refine aw_iconst (q := 78) (v := 0) dX3_doCommand_77 rfl (by decide) ?_
          refine aw_iald' (q := 79) (v := s.1 63 0) dX3_doCommand_78 rfl (by decide) (o_X3a2 s R) (zin_in (by decide)) rfl ?_
          refine aw_aload_n (q := 80) dX3_doCommand_79 rfl rfl ?_
          refine aw_getr (q := 83) dX3_doCommand_80 rfl e_X3_22 (by decide) (o_X3 s R) rfl ?_
          refine aw_iconst (q := 84) (v := 1) dX3_doCommand_83 rfl (by decide) ?_
          refine aw_iald' (q := 85) (v := s.1 63 1) dX3_doCommand_84 rfl (by decide) (o_X3a2 s R) (zin_in (by decide)) rfl ?_
          refine aw_min (q := 88) dX3_doCommand_85 rfl k_X3_138 (by decide) (Nat.le_of_ble_eq_true rfl) ?_
          refine aw_aload_n (q := 89) dX3_doCommand_88 rfl rfl ?_
          refine aw_getr (q := 92) dX3_doCommand_89 rfl e_X3_22 (by decide) (o_X3 s R) rfl ?_
          refine aw_iconst (q := 93) (v := 0) dX3_doCommand_92 rfl (by decide) ?_
          refine aw_iald' (q := 94) (v := s.1 63 0) dX3_doCommand_93 rfl (by decide) (o_X3a2 s R) (zin_in (by decide)) rfl ?_
          refine aw_aload_n (q := 95) dX3_doCommand_94 rfl rfl ?_
          refine aw_getr (q := 98) dX3_doCommand_95 rfl e_X3_22 (by decide) (o_X3 s R) rfl ?_
          refine aw_iconst (q := 99) (v := 1) dX3_doCommand_98 rfl (by decide) ?_
          refine aw_iald' (q := 100) (v := s.1 63 1) dX3_doCommand_99 rfl (by decide) (o_X3a2 s R) (zin_in (by decide)) rfl ?_
          refine aw_max (q := 103) dX3_doCommand_100 rfl k_X3_143 (by decide) (Nat.le_of_ble_eq_true rfl) ?_
          obtain ⟨v11, hv11, H⟩ := zbd H
          refine aw_cv (M' := M_X3_doFault) (as := [.int 1, .int (if (s.1 63 1) < (s.1 63 0) then s.1 63 1 else s.1 63 0), .int (if (s.1 63 0) < (s.1 63 1) then s.1 63 1 else s.1 63 0)]) (q := 106) dX3_doCommand_103 rfl W_X3_doFault k_X3_134 i_X3_doFault v_X3_doFault (by decide) (o_X3 s R) rfl rfl rfl (by decide) (Nat.le_of_ble_eq_true rfl) (c_X3_doFault s R 1 (if (s.1 63 1) < (s.1 63 0) then s.1 63 1 else s.1 63 0) (if (s.1 63 0) < (s.1 63 1) then s.1 63 1 else s.1 63 0) hv11) (Nat.le_refl _) (Nat.le_refl _) ?_
          rintro r9 h9 ⟨rfl, rfl⟩
          cases H
          exact aw_ret dX3_doCommand_106 rfl rfl rfl rfl ⟨rfl, rfl⟩
        · replace H := zf h4 H
          by_cases h5 : (s.1 51 4) = 4
          · replace H := zt h5 H
            refine aw_tabIn (q := 107) (off := 103) dX3_doCommand_4 (by rw [h5]; decide) (by rw [h5]; decide) (by rw [h5]; rfl) (by decide) ?_
            refine aw_aload_n (q := 108) dX3_doCommand_107 rfl rfl ?_
            refine aw_iconst (q := 109) (v := 2) dX3_doCommand_108 rfl (by decide) ?_
            refine aw_aload_n (q := 110) dX3_doCommand_109 rfl rfl ?_
            refine aw_getr (q := 113) dX3_doCommand_110 rfl e_X3_22 (by decide) (o_X3 s R) rfl ?_
            refine aw_iconst (q := 114) (v := 0) dX3_doCommand_113 rfl (by decide) ?_
            refine aw_iald' (q := 115) (v := s.1 63 0) dX3_doCommand_114 rfl (by decide) (o_X3a2 s R) (zin_in (by decide)) rfl ?_
            refine aw_iconst (q := 116) (v := 0) dX3_doCommand_115 rfl (by decide) ?_
            obtain ⟨v12, hv12, H⟩ := zbd H
            refine aw_cv (M' := M_X3_doFault) (as := [.int 2, .int (s.1 63 0), .int 0]) (q := 119) dX3_doCommand_116 rfl W_X3_doFault k_X3_134 i_X3_doFault v_X3_doFault (by decide) (o_X3 s R) rfl rfl rfl (by decide) (Nat.le_of_ble_eq_true rfl) (c_X3_doFault s R 2 (s.1 63 0) 0 hv12) (Nat.le_refl _) (Nat.le_refl _) ?_
            rintro r9 h9 ⟨rfl, rfl⟩
            cases H
            exact aw_ret dX3_doCommand_119 rfl rfl rfl rfl ⟨rfl, rfl⟩
          · replace H := zf h5 H
            by_cases h6 : (s.1 51 4) = 5
            · replace H := zt h6 H
              refine aw_tabIn (q := 120) (off := 116) dX3_doCommand_4 (by rw [h6]; decide) (by rw [h6]; decide) (by rw [h6]; rfl) (by decide) ?_
              refine aw_aload_n (q := 121) dX3_doCommand_120 rfl rfl ?_
              refine aw_iconst (q := 122) (v := 3) dX3_doCommand_121 rfl (by decide) ?_
              refine aw_aload_n (q := 123) dX3_doCommand_122 rfl rfl ?_
              refine aw_getr (q := 126) dX3_doCommand_123 rfl e_X3_22 (by decide) (o_X3 s R) rfl ?_
              refine aw_iconst (q := 127) (v := 0) dX3_doCommand_126 rfl (by decide) ?_
              refine aw_iald' (q := 128) (v := s.1 63 0) dX3_doCommand_127 rfl (by decide) (o_X3a2 s R) (zin_in (by decide)) rfl ?_
              refine aw_iconst (q := 129) (v := 0) dX3_doCommand_128 rfl (by decide) ?_
              obtain ⟨v13, hv13, H⟩ := zbd H
              refine aw_cv (M' := M_X3_doFault) (as := [.int 3, .int (s.1 63 0), .int 0]) (q := 132) dX3_doCommand_129 rfl W_X3_doFault k_X3_134 i_X3_doFault v_X3_doFault (by decide) (o_X3 s R) rfl rfl rfl (by decide) (Nat.le_of_ble_eq_true rfl) (c_X3_doFault s R 3 (s.1 63 0) 0 hv13) (Nat.le_refl _) (Nat.le_refl _) ?_
              rintro r9 h9 ⟨rfl, rfl⟩
              cases H
              exact aw_ret dX3_doCommand_132 rfl rfl rfl rfl ⟨rfl, rfl⟩
            · replace H := zf h6 H
              by_cases h7 : (s.1 51 4) = 6
              · replace H := zt h7 H
                refine aw_tabIn (q := 133) (off := 129) dX3_doCommand_4 (by rw [h7]; decide) (by rw [h7]; decide) (by rw [h7]; rfl) (by decide) ?_
                refine aw_aload_n (q := 134) dX3_doCommand_133 rfl rfl ?_
                refine aw_iconst (q := 135) (v := 4) dX3_doCommand_134 rfl (by decide) ?_
                refine aw_aload_n (q := 136) dX3_doCommand_135 rfl rfl ?_
                refine aw_getr (q := 139) dX3_doCommand_136 rfl e_X3_22 (by decide) (o_X3 s R) rfl ?_
                refine aw_iconst (q := 140) (v := 0) dX3_doCommand_139 rfl (by decide) ?_
                refine aw_iald' (q := 141) (v := s.1 63 0) dX3_doCommand_140 rfl (by decide) (o_X3a2 s R) (zin_in (by decide)) rfl ?_
                refine aw_iconst (q := 142) (v := 0) dX3_doCommand_141 rfl (by decide) ?_
                obtain ⟨v14, hv14, H⟩ := zbd H
                refine aw_cv (M' := M_X3_doFault) (as := [.int 4, .int (s.1 63 0), .int 0]) (q := 145) dX3_doCommand_142 rfl W_X3_doFault k_X3_134 i_X3_doFault v_X3_doFault (by decide) (o_X3 s R) rfl rfl rfl (by decide) (Nat.le_of_ble_eq_true rfl) (c_X3_doFault s R 4 (s.1 63 0) 0 hv14) (Nat.le_refl _) (Nat.le_refl _) ?_
                rintro r9 h9 ⟨rfl, rfl⟩
                cases H
                exact aw_ret dX3_doCommand_145 rfl rfl rfl rfl ⟨rfl, rfl⟩
              · replace H := zf h7 H
                refine aw_tabOut (q := 146) dX3_doCommand_4 (by have w0 : ¬ (s.1 51 4).toInt = 0 := zne h1; have w1 : ¬ (s.1 51 4).toInt = 1 := zne h2; have w2 : ¬ (s.1 51 4).toInt = 2 := zne h3; have w3 : ¬ (s.1 51 4).toInt = 3 := zne h4; have w4 : ¬ (s.1 51 4).toInt = 4 := zne h5; have w5 : ¬ (s.1 51 4).toInt = 5 := zne h6; have w6 : ¬ (s.1 51 4).toInt = 6 := zne h7; omega) (by decide) ?_
                refine aw_aload_n (q := 147) dX3_doCommand_146 rfl rfl ?_
                refine aw_getr (q := 150) dX3_doCommand_147 rfl e_X3_12 (by decide) (o_X3 s R) rfl ?_
                refine aw_aload_n (q := 151) dX3_doCommand_150 rfl rfl ?_
                refine aw_getr (q := 154) dX3_doCommand_151 rfl e_X3_22 (by decide) (o_X3 s R) rfl ?_
                refine aw_iconst (q := 155) (v := 0) dX3_doCommand_154 rfl (by decide) ?_
                refine aw_iald' (q := 156) (v := s.1 63 0) dX3_doCommand_155 rfl (by decide) (o_X3a2 s R) (zin_in (by decide)) rfl ?_
                refine aw_aload_n (q := 157) dX3_doCommand_156 rfl rfl ?_
                refine aw_iconst (q := 158) (v := 1) dX3_doCommand_157 rfl (by decide) ?_
                obtain ⟨v15, hv15, H⟩ := zbd H
                refine aw_cv (M' := M_X3_setFrom) (as := [.int 1]) (q := 161) dX3_doCommand_158 rfl W_X3_setFrom k_X3_146 i_X3_setFrom v_X3_setFrom (by decide) (o_X3 s R) rfl rfl rfl (by decide) (Nat.le_of_ble_eq_true rfl) (c_X3_setFrom s R 1 hv15) (Nat.le_refl _) (Nat.le_refl _) ?_
                rintro r9 h9 ⟨rfl, rfl⟩
                obtain ⟨v16, hv16, H⟩ := zbd H
                refine aw_cv (M' := M_X0_setBlessing) (as := [.int (s.1 63 0), .int v15]) (q := 164) dX3_doCommand_161 rfl W_X0_setBlessing k_X3_149 i_X0_setBlessing v_X0_setBlessing (zB_lt0 zB52) (o_X0 zB52 s R) rfl rfl rfl (by decide) (Nat.le_of_ble_eq_true rfl) (c_X0_setBlessing s R zB52 (s.1 63 0) v15 hv16) (Nat.le_refl _) (Nat.le_refl _) ?_
                rintro r9 h9 ⟨rfl, rfl⟩
                refine aw_pop (q := 165) dX3_doCommand_164 rfl rfl ?_
                refine aw_iconst (q := 166) (v := 0) dX3_doCommand_165 rfl (by decide) ?_
                cases H
                exact aw_ret dX3_doCommand_166 rfl rfl rfl rfl ⟨rfl, rfl⟩
def f_X3_perform_13 : Nat → zs → Int32 → Option ((Unit) ⊕ (Int32 × zs))
  | 0, _, _ => none
  | k + 1, s, x3 =>
    if (s.1 51 5) ≤ x3 then (
      some (Sum.inl ())
    ) else (
      if zin x3 8 = true then
      if (s.1 63 x3.toNatClampNeg) < (f_X3_rangeOfNumber s x3) then (
        f_X3_perform_13 k s (x3 + 1)
      ) else (
        some (Sum.inr (2, s))
      )
      else none
    )
set_option maxHeartbeats 4000000 in
set_option maxRecDepth 100000 in
theorem L_X3_perform_13 {G : zG} {sl : Nat} {P : Option Value → zH → Prop} (R : zr)  : ∀ (k : Nat) (s : zs) (x3 : Int32) (e : (Unit) ⊕ (Int32 × zs)), f_X3_perform_13 k s x3 = some e → (∀ x9, e = Sum.inl x9 → AV G M_X3_perform 7 sl P 43 [some (.ref 51), none, none, none] [] (zT s R)) → (∀ v9, e = Sum.inr v9 → P (some (.int v9.1)) (zT v9.2 R)) → AV G M_X3_perform 7 sl P 13 [some (.ref 51), none, none, some (.int x3)] [] (zT s R) := by
  intro k
  induction k with
  | zero =>
    intro s x3 e H
    unfold f_X3_perform_13 at H
    cases H
  | succ k ih =>
    intro s x3 e H KE KR
    unfold f_X3_perform_13 at H
    refine aw_iload_n (q := 14) dX3_perform_13 rfl rfl ?_
    refine aw_aload_n (q := 15) dX3_perform_14 rfl rfl ?_
    refine aw_getr (q := 18) dX3_perform_15 rfl e_X3_58 (by decide) (o_X3 s R) rfl ?_
    refine aw_icmp_ge (q := 21) (t := 43) dX3_perform_18 rfl (by decide) (fun h1 => ?_) (fun h1 => ?_)
    · replace H := zt h1 H
      cases H
      exact aw_fewer (L' := [some (.ref 51), none, none, none]) ⟨rfl, trivial⟩ (KE _ rfl)
    · replace H := zf h1 H
      refine aw_aload_n (q := 22) dX3_perform_21 rfl rfl ?_
      refine aw_getr (q := 25) dX3_perform_22 rfl e_X3_22 (by decide) (o_X3 s R) rfl ?_
      refine aw_iload_n (q := 26) dX3_perform_25 rfl rfl ?_
      obtain ⟨h2, H⟩ := zio H
      refine aw_iald' (q := 27) (v := s.1 63 x3.toNatClampNeg) dX3_perform_26 rfl (by decide) (o_X3a2 s R) (zin_in h2) rfl ?_
      refine aw_aload_n (q := 28) dX3_perform_27 rfl rfl ?_
      refine aw_iload_n (q := 29) dX3_perform_28 rfl rfl ?_
      refine aw_cv (M' := M_X3_rangeOfNumber) (as := [.int x3]) (q := 32) dX3_perform_29 rfl W_X3_rangeOfNumber k_X3_61 i_X3_rangeOfNumber v_X3_rangeOfNumber (by decide) (o_X3 s R) rfl rfl rfl (by decide) (Nat.le_of_ble_eq_true rfl) (c_X3_rangeOfNumber s R x3) (Nat.le_refl _) (Nat.le_refl _) ?_
      rintro r9 h9 ⟨rfl, rfl⟩
      refine aw_icmp_lt (q := 35) (t := 37) dX3_perform_32 rfl (by decide) (fun h3 => ?_) (fun h3 => ?_)
      · replace H := zt h3 H
        refine aw_iinc (q := 40) (v := x3 + 1) (L' := [some (.ref 51), none, none, some (.int (x3 + 1))]) dX3_perform_37 rfl rfl (by first | rfl | decide) (by decide) rfl rfl ?_
        refine aw_goto (q := 13) dX3_perform_40 (by decide) ?_
        exact aw_fewer (L' := [some (.ref 51), none, none, some (.int (x3 + 1))]) ⟨rfl, ⟨rfl, trivial⟩⟩ (ih s (x3 + 1) _ H KE KR)
      · replace H := zf h3 H
        refine aw_iconst (q := 36) (v := 2) dX3_perform_35 rfl (by decide) ?_
        cases H
        exact aw_ret dX3_perform_36 rfl rfl rfl rfl (KR _ rfl)
def f_X3_perform (s : zs) (x1 : Int32) (x2 : Int32) : Option (Int32 × zs) :=
  Option.bind (f_X3_parse s x1 x2) fun v1 =>
  if v1.1 = true then (
    Option.bind (f_X3_perform_13 zFu v1.2 0) fun e3 => match e3 with
    | Sum.inr r6 => some r6
    | Sum.inl e3i =>
    Option.bind (f_X3_doCommand v1.2) fun v7 =>
    if v7.1 = 0 then (
      some (0, v7.2)
    ) else (
      some (3, v7.2)
    )
  ) else (
    some (1, v1.2)
  )
set_option maxHeartbeats 4000000 in
set_option maxRecDepth 100000 in
theorem c_X3_perform {G : zG} {sl : Nat} (s : zs) (R : zr) (x1 : Int32) (x2 : Int32) {v9 : (Int32 × zs)} (H : f_X3_perform s x1 x2 = some v9) : zMv G 7 M_X3_perform [.ref 51, .int x1, .int x2] sl (zT s R) (fun r h' => r = some (.int v9.1) ∧ h' = zT v9.2 R) := by
  unfold f_X3_perform at H
  refine zMv_of (L := [some (.ref 51), some (.int x1), some (.int x2), none]) (by decide) rfl (Nat.le_of_ble_eq_true rfl) rfl ?_
  refine aw_aload_n (q := 1) dX3_perform_0 rfl rfl ?_
  refine aw_iload_n (q := 2) dX3_perform_1 rfl rfl ?_
  refine aw_iload_n (q := 3) dX3_perform_2 rfl rfl ?_
  obtain ⟨v1, hv1, H⟩ := zbd H
  refine aw_cv (M' := M_X3_parse) (as := [.int x1, .int x2]) (q := 6) dX3_perform_3 rfl W_X3_parse k_X3_54 i_X3_parse v_X3_parse (by decide) (o_X3 s R) rfl rfl rfl (by decide) (Nat.le_of_ble_eq_true rfl) (c_X3_parse s R x1 x2 hv1) (Nat.le_refl _) (Nat.le_refl _) ?_
  rintro r9 h9 ⟨rfl, rfl⟩
  refine aw_ifneB (q := 9) (t := 11) dX3_perform_6 rfl (by decide) (fun h2 => ?_) (fun h2 => ?_)
  · replace H := zt h2 H
    refine aw_iconst (q := 12) (v := 0) dX3_perform_11 rfl (by decide) ?_
    refine aw_istore_n (q := 13) (L' := [some (.ref 51), some (.int x1), some (.int x2), some (.int 0)]) dX3_perform_12 rfl (by decide) rfl rfl ?_
    obtain ⟨e3, he3, H⟩ := zbd H
    refine aw_fewer (L' := [some (.ref 51), none, none, some (.int 0)]) ⟨rfl, ⟨rfl, trivial⟩⟩ ?_
    refine L_X3_perform_13 R  zFu v1.2 0 e3 he3 (fun e3i h9 => ?_) (fun r6 h9 => ?_)
    · subst h9
      replace H : _ = _ := H
      refine aw_aload_n (q := 44) dX3_perform_43 rfl rfl ?_
      obtain ⟨v7, hv7, H⟩ := zbd H
      refine aw_cv (M' := M_X3_doCommand) (as := []) (q := 47) dX3_perform_44 rfl W_X3_doCommand k_X3_64 i_X3_doCommand v_X3_doCommand (by decide) (o_X3 v1.2 R) rfl rfl rfl (by decide) (Nat.le_of_ble_eq_true rfl) (c_X3_doCommand v1.2 R hv7) (Nat.le_refl _) (Nat.le_refl _) ?_
      rintro r9 h9 ⟨rfl, rfl⟩
      refine aw_if_neP (q := 50) (t := 54) dX3_perform_47 rfl (by decide) (fun h8 => ?_) (fun h8 => ?_)
      · replace H := zt h8 H
        refine aw_iconst (q := 51) (v := 0) dX3_perform_50 rfl (by decide) ?_
        refine aw_goto (q := 55) dX3_perform_51 (by decide) ?_
        cases H
        exact aw_ret dX3_perform_55 rfl rfl rfl rfl ⟨rfl, rfl⟩
      · replace H := zf h8 H
        refine aw_iconst (q := 55) (v := 3) dX3_perform_54 rfl (by decide) ?_
        cases H
        exact aw_ret dX3_perform_55 rfl rfl rfl rfl ⟨rfl, rfl⟩
    · subst h9
      cases H
      exact ⟨rfl, rfl⟩
  · replace H := zf h2 H
    refine aw_iconst (q := 10) (v := 1) dX3_perform_9 rfl (by decide) ?_
    cases H
    exact aw_ret dX3_perform_10 rfl rfl rfl rfl ⟨rfl, rfl⟩
def f_X3_tryOn_33 : Nat → zs → Int32 → Option ((zs) ⊕ (zs))
  | 0, _, _ => none
  | k + 1, s, x2 =>
    if (s.1 51 3) ≤ x2 then (
      some (Sum.inl s)
    ) else (
      if (100 : Int32) ≤ (s.1 51 6) then (
        some (Sum.inl s)
      ) else (
        Option.bind (f_X3_endOfCommand s x2) fun v3 =>
        if (s.1 51 3) ≤ v3 then (
          zlt (zc s 51 8 1) fun s5 =>
          if (s5.1 51 8) = 0 then (
            zlt (zc s5 51 6 ((s5.1 51 6) + 1)) fun s8 =>
            Option.bind (f_X3_skipSpaces s8 (v3 + 1) (s8.1 51 3)) fun v10 =>
            f_X3_tryOn_33 k s8 v10
          ) else (
            zlt (zc s5 51 7 x2) fun s11 =>
            some (Sum.inr s11)
          )
        ) else (
          Option.bind (f_X3_perform s x2 v3) fun v13 =>
          zlt (zc v13.2 51 8 v13.1) fun s14 =>
          if (s14.1 51 8) = 0 then (
            zlt (zc s14 51 6 ((s14.1 51 6) + 1)) fun s17 =>
            Option.bind (f_X3_skipSpaces s17 (v3 + 1) (s17.1 51 3)) fun v19 =>
            f_X3_tryOn_33 k s17 v19
          ) else (
            zlt (zc s14 51 7 x2) fun s20 =>
            some (Sum.inr s20)
          )
        )
      )
    )
set_option maxHeartbeats 4000000 in
set_option maxRecDepth 100000 in
theorem L_X3_tryOn_33 {G : zG} {sl : Nat} {P : Option Value → zH → Prop} (R : zr)  : ∀ (k : Nat) (s : zs) (x2 : Int32) (e : (zs) ⊕ (zs)), f_X3_tryOn_33 k s x2 = some e → (∀ x9, e = Sum.inl x9 → AV G M_X3_tryOn 8 sl P 116 [none, none, none, none] [] (zT x9 R)) → (∀ v9, e = Sum.inr v9 → P none (zT v9 R)) → AV G M_X3_tryOn 8 sl P 33 [some (.ref 51), none, some (.int x2), none] [] (zT s R) := by
  intro k
  induction k with
  | zero =>
    intro s x2 e H
    unfold f_X3_tryOn_33 at H
    cases H
  | succ k ih =>
    intro s x2 e H KE KR
    unfold f_X3_tryOn_33 at H
    refine aw_iload_n (q := 34) dX3_tryOn_33 rfl rfl ?_
    refine aw_aload_n (q := 35) dX3_tryOn_34 rfl rfl ?_
    refine aw_getr (q := 38) dX3_tryOn_35 rfl e_X3_26 (by decide) (o_X3 s R) rfl ?_
    refine aw_icmp_ge (q := 41) (t := 116) dX3_tryOn_38 rfl (by decide) (fun h1 => ?_) (fun h1 => ?_)
    · replace H := zt h1 H
      cases H
      exact aw_fewer (L' := [none, none, none, none]) trivial (KE _ rfl)
    · replace H := zf h1 H
      refine aw_aload_n (q := 42) dX3_tryOn_41 rfl rfl ?_
      refine aw_getr (q := 45) dX3_tryOn_42 rfl e_X3_34 (by decide) (o_X3 s R) rfl ?_
      refine aw_bipush (q := 47) (v := 100) dX3_tryOn_45 rfl (by decide) ?_
      refine aw_icmp_ge (q := 50) (t := 116) dX3_tryOn_47 rfl (by decide) (fun h2 => ?_) (fun h2 => ?_)
      · replace H := zt h2 H
        cases H
        exact aw_fewer (L' := [none, none, none, none]) trivial (KE _ rfl)
      · replace H := zf h2 H
        refine aw_aload_n (q := 51) dX3_tryOn_50 rfl rfl ?_
        refine aw_iload_n (q := 52) dX3_tryOn_51 rfl rfl ?_
        obtain ⟨v3, hv3, H⟩ := zbd H
        refine aw_cv (M' := M_X3_endOfCommand) (as := [.int x2]) (q := 55) dX3_tryOn_52 rfl W_X3_endOfCommand k_X3_47 i_X3_endOfCommand v_X3_endOfCommand (by decide) (o_X3 s R) rfl rfl rfl (by decide) (Nat.le_of_ble_eq_true rfl) (c_X3_endOfCommand s R x2 hv3) (Nat.le_refl _) (Nat.le_refl _) ?_
        rintro r9 h9 ⟨rfl, rfl⟩
        refine aw_istore_n (q := 56) (L' := [some (.ref 51), none, some (.int x2), some (.int v3)]) dX3_tryOn_55 rfl (by decide) rfl rfl ?_
        refine aw_aload_n (q := 57) dX3_tryOn_56 rfl rfl ?_
        refine aw_iload_n (q := 58) dX3_tryOn_57 rfl rfl ?_
        refine aw_aload_n (q := 59) dX3_tryOn_58 rfl rfl ?_
        refine aw_getr (q := 62) dX3_tryOn_59 rfl e_X3_26 (by decide) (o_X3 s R) rfl ?_
        refine aw_icmp_ge (q := 65) (t := 74) dX3_tryOn_62 rfl (by decide) (fun h4 => ?_) (fun h4 => ?_)
        · replace H := zt h4 H
          refine aw_iconst (q := 75) (v := 1) dX3_tryOn_74 rfl (by decide) ?_
          obtain ⟨s5, q6, H⟩ := zltd H
          refine aw_put (q := 78) dX3_tryOn_75 rfl f_X3_40 (by decide) (o_X3 s R) rfl rfl (Nat.le_of_ble_eq_true rfl) ((p_X3_8).trans (congrArg (fun z => zT z R) q6.symm)) ?_
          refine aw_aload_n (q := 79) dX3_tryOn_78 rfl rfl ?_
          refine aw_getr (q := 82) dX3_tryOn_79 rfl e_X3_40 (by decide) (o_X3 s5 R) rfl ?_
          refine aw_if_eq (q := 85) (t := 91) dX3_tryOn_82 rfl (by decide) (fun h7 => ?_) (fun h7 => ?_)
          · replace H := zt h7 H
            refine aw_aload_n (q := 92) dX3_tryOn_91 rfl rfl ?_
            refine aw_dup (q := 93) dX3_tryOn_92 rfl rfl ?_
            refine aw_getr (q := 96) dX3_tryOn_93 rfl e_X3_34 (by decide) (o_X3 s5 R) rfl ?_
            refine aw_iconst (q := 97) (v := 1) dX3_tryOn_96 rfl (by decide) ?_
            refine aw_iadd (q := 98) dX3_tryOn_97 rfl ?_
            obtain ⟨s8, q9, H⟩ := zltd H
            refine aw_put (q := 101) dX3_tryOn_98 rfl f_X3_34 (by decide) (o_X3 s5 R) rfl rfl (Nat.le_of_ble_eq_true rfl) ((p_X3_6).trans (congrArg (fun z => zT z R) q9.symm)) ?_
            refine aw_aload_n (q := 102) dX3_tryOn_101 rfl rfl ?_
            refine aw_iload_n (q := 103) dX3_tryOn_102 rfl rfl ?_
            refine aw_iconst (q := 104) (v := 1) dX3_tryOn_103 rfl (by decide) ?_
            refine aw_iadd (q := 105) dX3_tryOn_104 rfl ?_
            refine aw_aload_n (q := 106) dX3_tryOn_105 rfl rfl ?_
            refine aw_getr (q := 109) dX3_tryOn_106 rfl e_X3_26 (by decide) (o_X3 s8 R) rfl ?_
            obtain ⟨v10, hv10, H⟩ := zbd H
            refine aw_cv (M' := M_X3_skipSpaces) (as := [.int (v3 + 1), .int (s8.1 51 3)]) (q := 112) dX3_tryOn_109 rfl W_X3_skipSpaces k_X3_43 i_X3_skipSpaces v_X3_skipSpaces (by decide) (o_X3 s8 R) rfl rfl rfl (by decide) (Nat.le_of_ble_eq_true rfl) (c_X3_skipSpaces s8 R (v3 + 1) (s8.1 51 3) hv10) (Nat.le_refl _) (Nat.le_refl _) ?_
            rintro r9 h9 ⟨rfl, rfl⟩
            refine aw_istore_n (q := 113) (L' := [some (.ref 51), none, some (.int v10), some (.int v3)]) dX3_tryOn_112 rfl (by decide) rfl rfl ?_
            refine aw_goto (q := 33) dX3_tryOn_113 (by decide) ?_
            exact aw_fewer (L' := [some (.ref 51), none, some (.int v10), none]) ⟨rfl, ⟨rfl, trivial⟩⟩ (ih s8 v10 _ H KE KR)
          · replace H := zf h7 H
            refine aw_aload_n (q := 86) dX3_tryOn_85 rfl rfl ?_
            refine aw_iload_n (q := 87) dX3_tryOn_86 rfl rfl ?_
            obtain ⟨s11, q12, H⟩ := zltd H
            refine aw_put (q := 90) dX3_tryOn_87 rfl f_X3_37 (by decide) (o_X3 s5 R) rfl rfl (Nat.le_of_ble_eq_true rfl) ((p_X3_7).trans (congrArg (fun z => zT z R) q12.symm)) ?_
            cases H
            exact aw_vret dX3_tryOn_90 rfl rfl rfl (KR _ rfl)
        · replace H := zf h4 H
          refine aw_aload_n (q := 66) dX3_tryOn_65 rfl rfl ?_
          refine aw_iload_n (q := 67) dX3_tryOn_66 rfl rfl ?_
          refine aw_iload_n (q := 68) dX3_tryOn_67 rfl rfl ?_
          obtain ⟨v13, hv13, H⟩ := zbd H
          refine aw_cv (M' := M_X3_perform) (as := [.int x2, .int v3]) (q := 71) dX3_tryOn_68 rfl W_X3_perform k_X3_51 i_X3_perform v_X3_perform (by decide) (o_X3 s R) rfl rfl rfl (by decide) (Nat.le_of_ble_eq_true rfl) (c_X3_perform s R x2 v3 hv13) (Nat.le_refl _) (Nat.le_refl _) ?_
          rintro r9 h9 ⟨rfl, rfl⟩
          refine aw_goto (q := 75) dX3_tryOn_71 (by decide) ?_
          obtain ⟨s14, q15, H⟩ := zltd H
          refine aw_put (q := 78) dX3_tryOn_75 rfl f_X3_40 (by decide) (o_X3 v13.2 R) rfl rfl (Nat.le_of_ble_eq_true rfl) ((p_X3_8).trans (congrArg (fun z => zT z R) q15.symm)) ?_
          refine aw_aload_n (q := 79) dX3_tryOn_78 rfl rfl ?_
          refine aw_getr (q := 82) dX3_tryOn_79 rfl e_X3_40 (by decide) (o_X3 s14 R) rfl ?_
          refine aw_if_eq (q := 85) (t := 91) dX3_tryOn_82 rfl (by decide) (fun h16 => ?_) (fun h16 => ?_)
          · replace H := zt h16 H
            refine aw_aload_n (q := 92) dX3_tryOn_91 rfl rfl ?_
            refine aw_dup (q := 93) dX3_tryOn_92 rfl rfl ?_
            refine aw_getr (q := 96) dX3_tryOn_93 rfl e_X3_34 (by decide) (o_X3 s14 R) rfl ?_
            refine aw_iconst (q := 97) (v := 1) dX3_tryOn_96 rfl (by decide) ?_
            refine aw_iadd (q := 98) dX3_tryOn_97 rfl ?_
            obtain ⟨s17, q18, H⟩ := zltd H
            refine aw_put (q := 101) dX3_tryOn_98 rfl f_X3_34 (by decide) (o_X3 s14 R) rfl rfl (Nat.le_of_ble_eq_true rfl) ((p_X3_6).trans (congrArg (fun z => zT z R) q18.symm)) ?_
            refine aw_aload_n (q := 102) dX3_tryOn_101 rfl rfl ?_
            refine aw_iload_n (q := 103) dX3_tryOn_102 rfl rfl ?_
            refine aw_iconst (q := 104) (v := 1) dX3_tryOn_103 rfl (by decide) ?_
            refine aw_iadd (q := 105) dX3_tryOn_104 rfl ?_
            refine aw_aload_n (q := 106) dX3_tryOn_105 rfl rfl ?_
            refine aw_getr (q := 109) dX3_tryOn_106 rfl e_X3_26 (by decide) (o_X3 s17 R) rfl ?_
            obtain ⟨v19, hv19, H⟩ := zbd H
            refine aw_cv (M' := M_X3_skipSpaces) (as := [.int (v3 + 1), .int (s17.1 51 3)]) (q := 112) dX3_tryOn_109 rfl W_X3_skipSpaces k_X3_43 i_X3_skipSpaces v_X3_skipSpaces (by decide) (o_X3 s17 R) rfl rfl rfl (by decide) (Nat.le_of_ble_eq_true rfl) (c_X3_skipSpaces s17 R (v3 + 1) (s17.1 51 3) hv19) (Nat.le_refl _) (Nat.le_refl _) ?_
            rintro r9 h9 ⟨rfl, rfl⟩
            refine aw_istore_n (q := 113) (L' := [some (.ref 51), none, some (.int v19), some (.int v3)]) dX3_tryOn_112 rfl (by decide) rfl rfl ?_
            refine aw_goto (q := 33) dX3_tryOn_113 (by decide) ?_
            exact aw_fewer (L' := [some (.ref 51), none, some (.int v19), none]) ⟨rfl, ⟨rfl, trivial⟩⟩ (ih s17 v19 _ H KE KR)
          · replace H := zf h16 H
            refine aw_aload_n (q := 86) dX3_tryOn_85 rfl rfl ?_
            refine aw_iload_n (q := 87) dX3_tryOn_86 rfl rfl ?_
            obtain ⟨s20, q21, H⟩ := zltd H
            refine aw_put (q := 90) dX3_tryOn_87 rfl f_X3_37 (by decide) (o_X3 s14 R) rfl rfl (Nat.le_of_ble_eq_true rfl) ((p_X3_7).trans (congrArg (fun z => zT z R) q21.symm)) ?_
            cases H
            exact aw_vret dX3_tryOn_90 rfl rfl rfl (KR _ rfl)
def f_X3_tryOn (s : zs) (x1 : Nat) : Option zs :=
  Option.bind (f_X0_copyFrom s 52 x1) fun v1 =>
  zlt (zc v1 51 6 0) fun s2 =>
  zlt (zc s2 51 7 (-1)) fun s4 =>
  zlt (zc s4 51 8 0) fun s6 =>
  Option.bind (f_X3_skipSpaces s6 0 (s6.1 51 3)) fun v8 =>
  Option.bind (f_X3_tryOn_33 zFu s6 v8) fun e9 => match e9 with
  | Sum.inr r10 => some r10
  | Sum.inl e9i =>
  some e9i
set_option maxHeartbeats 4000000 in
set_option maxRecDepth 100000 in
theorem c_X3_tryOn {G : zG} {sl : Nat} (s : zs) (R : zr) {x1 : Nat} (hx1 : zB x1) {v9 : zs} (H : f_X3_tryOn s x1 = some v9) : zMv G 8 M_X3_tryOn [.ref 51, .ref x1] sl (zT s R) (fun r h' => r = none ∧ h' = zT v9 R) := by
  unfold f_X3_tryOn at H
  refine zMv_of (L := [some (.ref 51), some (.ref x1), none, none]) (by decide) rfl (Nat.le_of_ble_eq_true rfl) rfl ?_
  refine aw_aload_n (q := 1) dX3_tryOn_0 rfl rfl ?_
  refine aw_getr (q := 4) dX3_tryOn_1 rfl e_X3_12 (by decide) (o_X3 s R) rfl ?_
  refine aw_aload_n (q := 5) dX3_tryOn_4 rfl rfl ?_
  obtain ⟨v1, hv1, H⟩ := zbd H
  refine aw_cv (M' := M_X0_copyFrom) (as := [.ref x1]) (q := 8) dX3_tryOn_5 rfl W_X0_copyFrom k_X3_30 i_X0_copyFrom v_X0_copyFrom (zB_lt0 zB52) (o_X0 zB52 s R) rfl rfl rfl (by decide) (Nat.le_of_ble_eq_true rfl) (c_X0_copyFrom s R zB52 hx1 hv1) (Nat.le_refl _) (Nat.le_refl _) ?_
  rintro r9 h9 ⟨rfl, rfl⟩
  refine aw_aload_n (q := 9) dX3_tryOn_8 rfl rfl ?_
  refine aw_iconst (q := 10) (v := 0) dX3_tryOn_9 rfl (by decide) ?_
  obtain ⟨s2, q3, H⟩ := zltd H
  refine aw_put (q := 13) dX3_tryOn_10 rfl f_X3_34 (by decide) (o_X3 v1 R) rfl rfl (Nat.le_of_ble_eq_true rfl) ((p_X3_6).trans (congrArg (fun z => zT z R) q3.symm)) ?_
  refine aw_aload_n (q := 14) dX3_tryOn_13 rfl rfl ?_
  refine aw_iconst (q := 15) (v := (-1)) dX3_tryOn_14 rfl (by decide) ?_
  obtain ⟨s4, q5, H⟩ := zltd H
  refine aw_put (q := 18) dX3_tryOn_15 rfl f_X3_37 (by decide) (o_X3 s2 R) rfl rfl (Nat.le_of_ble_eq_true rfl) ((p_X3_7).trans (congrArg (fun z => zT z R) q5.symm)) ?_
  refine aw_aload_n (q := 19) dX3_tryOn_18 rfl rfl ?_
  refine aw_iconst (q := 20) (v := 0) dX3_tryOn_19 rfl (by decide) ?_
  obtain ⟨s6, q7, H⟩ := zltd H
  refine aw_put (q := 23) dX3_tryOn_20 rfl f_X3_40 (by decide) (o_X3 s4 R) rfl rfl (Nat.le_of_ble_eq_true rfl) ((p_X3_8).trans (congrArg (fun z => zT z R) q7.symm)) ?_
  refine aw_aload_n (q := 24) dX3_tryOn_23 rfl rfl ?_
  refine aw_iconst (q := 25) (v := 0) dX3_tryOn_24 rfl (by decide) ?_
  refine aw_aload_n (q := 26) dX3_tryOn_25 rfl rfl ?_
  refine aw_getr (q := 29) dX3_tryOn_26 rfl e_X3_26 (by decide) (o_X3 s6 R) rfl ?_
  obtain ⟨v8, hv8, H⟩ := zbd H
  refine aw_cv (M' := M_X3_skipSpaces) (as := [.int 0, .int (s6.1 51 3)]) (q := 32) dX3_tryOn_29 rfl W_X3_skipSpaces k_X3_43 i_X3_skipSpaces v_X3_skipSpaces (by decide) (o_X3 s6 R) rfl rfl rfl (by decide) (Nat.le_of_ble_eq_true rfl) (c_X3_skipSpaces s6 R 0 (s6.1 51 3) hv8) (Nat.le_refl _) (Nat.le_refl _) ?_
  rintro r9 h9 ⟨rfl, rfl⟩
  refine aw_istore_n (q := 33) (L' := [some (.ref 51), some (.ref x1), some (.int v8), none]) dX3_tryOn_32 rfl (by decide) rfl rfl ?_
  obtain ⟨e9, he9, H⟩ := zbd H
  refine aw_fewer (L' := [some (.ref 51), none, some (.int v8), none]) ⟨rfl, ⟨rfl, trivial⟩⟩ ?_
  refine L_X3_tryOn_33 R  zFu s6 v8 e9 he9 (fun e9i h9 => ?_) (fun r10 h9 => ?_)
  · subst h9
    replace H : _ = _ := H
    cases H
    exact aw_vret dX3_tryOn_116 rfl rfl rfl ⟨rfl, rfl⟩
  · subst h9
    cases H
    exact ⟨rfl, rfl⟩
def f_X4_weekday (s : zs) (x : Nat) : Int32 :=
  (s.1 x 2) - (s.1 x 2) / 7 * 7
set_option maxHeartbeats 4000000 in
set_option maxRecDepth 100000 in
theorem c_X4_weekday {G : zG} {sl : Nat} (s : zs) (R : zr) {x : Nat} (hx : zX4 x)   : zMv G 0 M_X4_weekday [.ref x] sl (zT s R) (fun r h' => r = some (.int (f_X4_weekday s x)) ∧ h' = (zT s R)) := by
  generalize H : f_X4_weekday s x = r0
  unfold f_X4_weekday at H
  refine zMv_of (L := [some (.ref x)]) (by decide) rfl (Nat.le_of_ble_eq_true rfl) rfl ?_
  refine aw_aload_n (q := 1) dX4_weekday_0 rfl rfl ?_
  refine aw_getr (q := 4) dX4_weekday_1 rfl e_X4_47 (zX4_lt hx) (o_X4 hx s R) rfl ?_
  refine aw_bipush (q := 6) (v := 7) dX4_weekday_4 rfl (by decide) ?_
  refine aw_irem (q := 7) dX4_weekday_6 rfl (by decide) ?_
  subst H
  exact aw_ret dX4_weekday_7 rfl rfl rfl rfl ⟨rfl, rfl⟩
def f_X4_touchedNow (s : zs) (x : Nat) : Option Int32 :=
  Option.bind (f_X0_blessedOn s (sB x) (f_X4_weekday s x)) fun v1 =>
  some (v1 ||| (s.1 x 6))
set_option maxHeartbeats 4000000 in
set_option maxRecDepth 100000 in
theorem c_X4_touchedNow {G : zG} {sl : Nat} (s : zs) (R : zr) {x : Nat} (hx : zX4 x)  {v9 : Int32} (H : f_X4_touchedNow s x = some v9) : zMv G 2 M_X4_touchedNow [.ref x] sl (zT s R) (fun r h' => r = some (.int v9) ∧ h' = (zT s R)) := by
  unfold f_X4_touchedNow at H
  refine zMv_of (L := [some (.ref x)]) (by decide) rfl (Nat.le_of_ble_eq_true rfl) rfl ?_
  refine aw_aload_n (q := 1) dX4_touchedNow_0 rfl rfl ?_
  refine aw_getr (q := 4) dX4_touchedNow_1 rfl e_X4_25 (zX4_lt hx) (o_X4 hx s R) rfl ?_
  refine aw_aload_n (q := 5) dX4_touchedNow_4 rfl rfl ?_
  refine aw_cv (M' := M_X4_weekday) (as := []) (q := 8) dX4_touchedNow_5 rfl W_X4_weekday k_X4_56 i_X4_weekday v_X4_weekday (zX4_lt hx) (o_X4 hx s R) rfl rfl rfl (by decide) (Nat.le_of_ble_eq_true rfl) (c_X4_weekday s R hx) (Nat.le_refl _) (Nat.le_refl _) ?_
  rintro r9 h9 ⟨rfl, rfl⟩
  obtain ⟨v1, hv1, H⟩ := zbd H
  refine aw_cv (M' := M_X0_blessedOn) (as := [.int (f_X4_weekday s x)]) (q := 11) dX4_touchedNow_8 rfl W_X0_blessedOn k_X4_60 i_X0_blessedOn v_X0_blessedOn (zB_lt0 (zX4_B hx)) (o_X0 (zX4_B hx) s R) rfl rfl rfl (by decide) (Nat.le_of_ble_eq_true rfl) (c_X0_blessedOn s R (zX4_B hx) (f_X4_weekday s x) hv1) (Nat.le_refl _) (Nat.le_refl _) ?_
  rintro r9 h9 ⟨rfl, rfl⟩
  refine aw_aload_n (q := 12) dX4_touchedNow_11 rfl rfl ?_
  refine aw_getr (q := 15) dX4_touchedNow_12 rfl e_X4_50 (zX4_lt hx) (o_X4 hx s R) rfl ?_
  refine aw_ior (q := 16) dX4_touchedNow_15 rfl ?_
  cases H
  exact aw_ret dX4_touchedNow_16 rfl rfl rfl rfl ⟨rfl, rfl⟩
def f_X4_filedIn_4 : Nat → zs → Nat → Int32 → Int32 → Int32 → Option (Int32)
  | 0, _, _, _, _, _ => none
  | k + 1, s, x, x1, x2, x3 =>
    if (s.1 (sB x) 11) ≤ x3 then (
      some x2
    ) else (
      if zin x3 10 = true then
      if (s.1 (sD x) x3.toNatClampNeg) = x1 then (
        f_X4_filedIn_4 k s x x1 (x2 + 1) (x3 + 1)
      ) else (
        f_X4_filedIn_4 k s x x1 x2 (x3 + 1)
      )
      else none
    )
set_option maxHeartbeats 4000000 in
set_option maxRecDepth 100000 in
theorem L_X4_filedIn_4 {G : zG} {sl : Nat} {P : Option Value → zH → Prop} (R : zr) {x : Nat} (hx : zX4 x) (x1 : Int32) : ∀ (k : Nat) (s : zs) (x2 : Int32) (x3 : Int32) (e : Int32), f_X4_filedIn_4 k s x x1 x2 x3 = some e → (AV G M_X4_filedIn 0 sl P 34 [none, none, some (.int e), none] [] (zT s R)) → AV G M_X4_filedIn 0 sl P 4 [some (.ref x), some (.int x1), some (.int x2), some (.int x3)] [] (zT s R) := by
  intro k
  induction k with
  | zero =>
    intro s x2 x3 e H
    unfold f_X4_filedIn_4 at H
    cases H
  | succ k ih =>
    intro s x2 x3 e H KE
    unfold f_X4_filedIn_4 at H
    refine aw_iload_n (q := 5) dX4_filedIn_4 rfl rfl ?_
    refine aw_aload_n (q := 6) dX4_filedIn_5 rfl rfl ?_
    refine aw_getr (q := 9) dX4_filedIn_6 rfl e_X4_25 (zX4_lt hx) (o_X4 hx s R) rfl ?_
    refine aw_getr (q := 12) dX4_filedIn_9 rfl e_X4_64 (zB_lt0 (zX4_B hx)) (o_X0 (zX4_B hx) s R) rfl ?_
    refine aw_icmp_ge (q := 15) (t := 34) dX4_filedIn_12 rfl (by decide) (fun h1 => ?_) (fun h1 => ?_)
    · replace H := zt h1 H
      cases H
      exact aw_fewer (L' := [none, none, some (.int x2), none]) ⟨rfl, trivial⟩ KE
    · replace H := zf h1 H
      refine aw_aload_n (q := 16) dX4_filedIn_15 rfl rfl ?_
      refine aw_getr (q := 19) dX4_filedIn_16 rfl e_X4_9 (zX4_lt hx) (o_X4 hx s R) rfl ?_
      refine aw_iload_n (q := 20) dX4_filedIn_19 rfl rfl ?_
      obtain ⟨h2, H⟩ := zio H
      refine aw_iald' (q := 21) (v := s.1 (sD x) x3.toNatClampNeg) dX4_filedIn_20 rfl (zX4_ltD hx) (o_X4a1 hx s R) (zin_in h2) rfl ?_
      refine aw_iload_n (q := 22) dX4_filedIn_21 rfl rfl ?_
      refine aw_icmp_neP (q := 25) (t := 28) dX4_filedIn_22 rfl (by decide) (fun h3 => ?_) (fun h3 => ?_)
      · replace H := zt h3 H
        refine aw_iinc (q := 28) (v := x2 + 1) (L' := [some (.ref x), some (.int x1), some (.int (x2 + 1)), some (.int x3)]) dX4_filedIn_25 rfl rfl (by first | rfl | decide) (by decide) rfl rfl ?_
        refine aw_iinc (q := 31) (v := x3 + 1) (L' := [some (.ref x), some (.int x1), some (.int (x2 + 1)), some (.int (x3 + 1))]) dX4_filedIn_28 rfl rfl (by first | rfl | decide) (by decide) rfl rfl ?_
        refine aw_goto (q := 4) dX4_filedIn_31 (by decide) ?_
        exact aw_fewer (L' := [some (.ref x), some (.int x1), some (.int (x2 + 1)), some (.int (x3 + 1))]) ⟨rfl, ⟨rfl, ⟨rfl, ⟨rfl, trivial⟩⟩⟩⟩ (ih s (x2 + 1) (x3 + 1) _ H KE)
      · replace H := zf h3 H
        refine aw_iinc (q := 31) (v := x3 + 1) (L' := [some (.ref x), some (.int x1), some (.int x2), some (.int (x3 + 1))]) dX4_filedIn_28 rfl rfl (by first | rfl | decide) (by decide) rfl rfl ?_
        refine aw_goto (q := 4) dX4_filedIn_31 (by decide) ?_
        exact aw_fewer (L' := [some (.ref x), some (.int x1), some (.int x2), some (.int (x3 + 1))]) ⟨rfl, ⟨rfl, ⟨rfl, ⟨rfl, trivial⟩⟩⟩⟩ (ih s x2 (x3 + 1) _ H KE)
def f_X4_filedIn (s : zs) (x : Nat) (x1 : Int32) : Option Int32 :=
  Option.bind (f_X4_filedIn_4 zFu s x x1 0 0) fun e1 =>
  some e1
set_option maxHeartbeats 4000000 in
set_option maxRecDepth 100000 in
theorem c_X4_filedIn {G : zG} {sl : Nat} (s : zs) (R : zr) {x : Nat} (hx : zX4 x) (x1 : Int32) {v9 : Int32} (H : f_X4_filedIn s x x1 = some v9) : zMv G 0 M_X4_filedIn [.ref x, .int x1] sl (zT s R) (fun r h' => r = some (.int v9) ∧ h' = (zT s R)) := by
  unfold f_X4_filedIn at H
  refine zMv_of (L := [some (.ref x), some (.int x1), none, none]) (by decide) rfl (Nat.le_of_ble_eq_true rfl) rfl ?_
  refine aw_iconst (q := 1) (v := 0) dX4_filedIn_0 rfl (by decide) ?_
  refine aw_istore_n (q := 2) (L' := [some (.ref x), some (.int x1), some (.int 0), none]) dX4_filedIn_1 rfl (by decide) rfl rfl ?_
  refine aw_iconst (q := 3) (v := 0) dX4_filedIn_2 rfl (by decide) ?_
  refine aw_istore_n (q := 4) (L' := [some (.ref x), some (.int x1), some (.int 0), some (.int 0)]) dX4_filedIn_3 rfl (by decide) rfl rfl ?_
  obtain ⟨e1, he1, H⟩ := zbd H
  refine aw_fewer (L' := [some (.ref x), some (.int x1), some (.int 0), some (.int 0)]) ⟨rfl, ⟨rfl, ⟨rfl, ⟨rfl, trivial⟩⟩⟩⟩ ?_
  refine L_X4_filedIn_4 R hx x1 zFu s 0 0 e1 he1 ?_
  refine aw_iload_n (q := 35) dX4_filedIn_34 rfl rfl ?_
  cases H
  exact aw_ret dX4_filedIn_35 rfl rfl rfl rfl ⟨rfl, rfl⟩
def f_X6_net (s : zs) (x1 : Int32) : Option (Int32 × zs) :=
  zlt (f_X0_refusalOfNet s (sB 74) x1 : Int32) fun y1 =>
  if y1 = 0 then (
    Option.bind (f_X1_keep s 74) fun v4 =>
    Option.bind (f_X0_addNet v4 (sB 74) x1) fun v5 =>
    some (v5.1, v5.2)
  ) else (
    some (y1, s)
  )
set_option maxHeartbeats 4000000 in
set_option maxRecDepth 100000 in
theorem c_X6_net {G : zG} {sl : Nat} (s : zs) (R : zr) (x1 : Int32) {v9 : (Int32 × zs)} (H : f_X6_net s x1 = some v9) : zMv G 5 M_X6_net [.ref 0, .int x1] sl (zT s R) (fun r h' => r = some (.int v9.1) ∧ h' = zT v9.2 R) := by
  unfold f_X6_net at H
  refine zMv_of (L := [some (.ref 0), some (.int x1), none]) (by decide) rfl (Nat.le_of_ble_eq_true rfl) rfl ?_
  refine aw_aload_n (q := 1) dX6_net_0 rfl rfl ?_
  refine aw_getr (q := 4) dX6_net_1 rfl e_X6_31 (by decide) (o_X6 s R) rfl ?_
  refine aw_getr (q := 7) dX6_net_4 rfl e_X6_42 (zX4_lt zX4_74) (o_X4 zX4_74 s R) rfl ?_
  refine aw_iload_n (q := 8) dX6_net_7 rfl rfl ?_
  refine aw_cv (M' := M_X0_refusalOfNet) (as := [.int x1]) (q := 11) dX6_net_8 rfl W_X0_refusalOfNet k_X6_46 i_X0_refusalOfNet v_X0_refusalOfNet (zB_lt0 (zX4_B zX4_74)) (o_X0 (zX4_B zX4_74) s R) rfl rfl rfl (by decide) (Nat.le_of_ble_eq_true rfl) (c_X0_refusalOfNet s R (zX4_B zX4_74) x1) (Nat.le_refl _) (Nat.le_refl _) ?_
  rintro r9 h9 ⟨rfl, rfl⟩
  obtain ⟨y1, q2, H⟩ := zltd H
  refine aw_nm q2 ?_
  refine aw_istore_n (q := 12) (L' := [some (.ref 0), some (.int x1), some (.int y1)]) dX6_net_11 rfl (by decide) rfl rfl ?_
  refine aw_iload_n (q := 13) dX6_net_12 rfl rfl ?_
  refine aw_if_eq (q := 16) (t := 18) dX6_net_13 rfl (by decide) (fun h3 => ?_) (fun h3 => ?_)
  · replace H := zt h3 H
    refine aw_aload_n (q := 19) dX6_net_18 rfl rfl ?_
    refine aw_getr (q := 22) dX6_net_19 rfl e_X6_12 (by decide) (o_X6 s R) rfl ?_
    refine aw_aload_n (q := 23) dX6_net_22 rfl rfl ?_
    refine aw_getr (q := 26) dX6_net_23 rfl e_X6_31 (by decide) (o_X6 s R) rfl ?_
    obtain ⟨v4, hv4, H⟩ := zbd H
    refine aw_cv (M' := M_X1_keep) (as := [.ref 74]) (q := 29) dX6_net_26 rfl W_X1_keep k_X6_50 i_X1_keep v_X1_keep (by decide) (o_X1 s R) rfl rfl rfl (by decide) (Nat.le_of_ble_eq_true rfl) (c_X1_keep s R zX4_74 hv4) (Nat.le_refl _) (Nat.le_refl _) ?_
    rintro r9 h9 ⟨rfl, rfl⟩
    refine aw_aload_n (q := 30) dX6_net_29 rfl rfl ?_
    refine aw_getr (q := 33) dX6_net_30 rfl e_X6_31 (by decide) (o_X6 v4 R) rfl ?_
    refine aw_getr (q := 36) dX6_net_33 rfl e_X6_42 (zX4_lt zX4_74) (o_X4 zX4_74 v4 R) rfl ?_
    refine aw_iload_n (q := 37) dX6_net_36 rfl rfl ?_
    obtain ⟨v5, hv5, H⟩ := zbd H
    refine aw_cv (M' := M_X0_addNet) (as := [.int x1]) (q := 40) dX6_net_37 rfl W_X0_addNet k_X6_54 i_X0_addNet v_X0_addNet (zB_lt0 (zX4_B zX4_74)) (o_X0 (zX4_B zX4_74) v4 R) rfl rfl rfl (by decide) (Nat.le_of_ble_eq_true rfl) (c_X0_addNet v4 R (zX4_B zX4_74) x1 hv5) (Nat.le_refl _) (Nat.le_refl _) ?_
    rintro r9 h9 ⟨rfl, rfl⟩
    cases H
    exact aw_ret dX6_net_40 rfl rfl rfl rfl ⟨rfl, rfl⟩
  · replace H := zf h3 H
    refine aw_iload_n (q := 17) dX6_net_16 rfl rfl ?_
    cases H
    exact aw_ret dX6_net_17 rfl rfl rfl rfl ⟨rfl, rfl⟩
def f_X6_chip (s : zs) (x1 : Int32) (x2 : Int32) (x3 : Int32) : Option (Int32 × zs) :=
  zlt (f_X0_refusalOfChip s (sB 74) x1 x2 x3 : Int32) fun y1 =>
  if y1 = 0 then (
    Option.bind (f_X1_keep s 74) fun v4 =>
    Option.bind (f_X0_addChip v4 (sB 74) x1 x2 x3) fun v5 =>
    some (v5.1, v5.2)
  ) else (
    some (y1, s)
  )
set_option maxHeartbeats 4000000 in
set_option maxRecDepth 100000 in
theorem c_X6_chip {G : zG} {sl : Nat} (s : zs) (R : zr) (x1 : Int32) (x2 : Int32) (x3 : Int32) {v9 : (Int32 × zs)} (H : f_X6_chip s x1 x2 x3 = some v9) : zMv G 5 M_X6_chip [.ref 0, .int x1, .int x2, .int x3] sl (zT s R) (fun r h' => r = some (.int v9.1) ∧ h' = zT v9.2 R) := by
  unfold f_X6_chip at H
  refine zMv_of (L := [some (.ref 0), some (.int x1), some (.int x2), some (.int x3), none]) (by decide) rfl (Nat.le_of_ble_eq_true rfl) rfl ?_
  refine aw_aload_n (q := 1) dX6_chip_0 rfl rfl ?_
  refine aw_getr (q := 4) dX6_chip_1 rfl e_X6_31 (by decide) (o_X6 s R) rfl ?_
  refine aw_getr (q := 7) dX6_chip_4 rfl e_X6_42 (zX4_lt zX4_74) (o_X4 zX4_74 s R) rfl ?_
  refine aw_iload_n (q := 8) dX6_chip_7 rfl rfl ?_
  refine aw_iload_n (q := 9) dX6_chip_8 rfl rfl ?_
  refine aw_iload_n (q := 10) dX6_chip_9 rfl rfl ?_
  refine aw_cv (M' := M_X0_refusalOfChip) (as := [.int x1, .int x2, .int x3]) (q := 13) dX6_chip_10 rfl W_X0_refusalOfChip k_X6_57 i_X0_refusalOfChip v_X0_refusalOfChip (zB_lt0 (zX4_B zX4_74)) (o_X0 (zX4_B zX4_74) s R) rfl rfl rfl (by decide) (Nat.le_of_ble_eq_true rfl) (c_X0_refusalOfChip s R (zX4_B zX4_74) x1 x2 x3) (Nat.le_refl _) (Nat.le_refl _) ?_
  rintro r9 h9 ⟨rfl, rfl⟩
  obtain ⟨y1, q2, H⟩ := zltd H
  refine aw_nm q2 ?_
  refine aw_istore (q := 15) (L' := [some (.ref 0), some (.int x1), some (.int x2), some (.int x3), some (.int y1)]) dX6_chip_13 rfl (by decide) rfl rfl ?_
  refine aw_iload (q := 17) dX6_chip_15 rfl rfl ?_
  refine aw_if_eq (q := 20) (t := 23) dX6_chip_17 rfl (by decide) (fun h3 => ?_) (fun h3 => ?_)
  · replace H := zt h3 H
    refine aw_aload_n (q := 24) dX6_chip_23 rfl rfl ?_
    refine aw_getr (q := 27) dX6_chip_24 rfl e_X6_12 (by decide) (o_X6 s R) rfl ?_
    refine aw_aload_n (q := 28) dX6_chip_27 rfl rfl ?_
    refine aw_getr (q := 31) dX6_chip_28 rfl e_X6_31 (by decide) (o_X6 s R) rfl ?_
    obtain ⟨v4, hv4, H⟩ := zbd H
    refine aw_cv (M' := M_X1_keep) (as := [.ref 74]) (q := 34) dX6_chip_31 rfl W_X1_keep k_X6_50 i_X1_keep v_X1_keep (by decide) (o_X1 s R) rfl rfl rfl (by decide) (Nat.le_of_ble_eq_true rfl) (c_X1_keep s R zX4_74 hv4) (Nat.le_refl _) (Nat.le_refl _) ?_
    rintro r9 h9 ⟨rfl, rfl⟩
    refine aw_aload_n (q := 35) dX6_chip_34 rfl rfl ?_
    refine aw_getr (q := 38) dX6_chip_35 rfl e_X6_31 (by decide) (o_X6 v4 R) rfl ?_
    refine aw_getr (q := 41) dX6_chip_38 rfl e_X6_42 (zX4_lt zX4_74) (o_X4 zX4_74 v4 R) rfl ?_
    refine aw_iload_n (q := 42) dX6_chip_41 rfl rfl ?_
    refine aw_iload_n (q := 43) dX6_chip_42 rfl rfl ?_
    refine aw_iload_n (q := 44) dX6_chip_43 rfl rfl ?_
    obtain ⟨v5, hv5, H⟩ := zbd H
    refine aw_cv (M' := M_X0_addChip) (as := [.int x1, .int x2, .int x3]) (q := 47) dX6_chip_44 rfl W_X0_addChip k_X6_61 i_X0_addChip v_X0_addChip (zB_lt0 (zX4_B zX4_74)) (o_X0 (zX4_B zX4_74) v4 R) rfl rfl rfl (by decide) (Nat.le_of_ble_eq_true rfl) (c_X0_addChip v4 R (zX4_B zX4_74) x1 x2 x3 hv5) (Nat.le_refl _) (Nat.le_refl _) ?_
    rintro r9 h9 ⟨rfl, rfl⟩
    cases H
    exact aw_ret dX6_chip_47 rfl rfl rfl rfl ⟨rfl, rfl⟩
  · replace H := zf h3 H
    refine aw_iload (q := 22) dX6_chip_20 rfl rfl ?_
    cases H
    exact aw_ret dX6_chip_22 rfl rfl rfl rfl ⟨rfl, rfl⟩
def f_X6_fault (s : zs) (x1 : Int32) (x2 : Int32) (x3 : Int32) : Option (Int32 × zs) :=
  Option.bind (f_X0_refusalOfFault s (sB 74) x1 x2 x3) fun v1 =>
  if v1 = 0 then (
    Option.bind (f_X1_keep s 74) fun v3 =>
    Option.bind (f_X0_addFault v3 (sB 74) x1 x2 x3) fun v4 =>
    some (v4.1, v4.2)
  ) else (
    some (v1, s)
  )
set_option maxHeartbeats 4000000 in
set_option maxRecDepth 100000 in
theorem c_X6_fault {G : zG} {sl : Nat} (s : zs) (R : zr) (x1 : Int32) (x2 : Int32) (x3 : Int32) {v9 : (Int32 × zs)} (H : f_X6_fault s x1 x2 x3 = some v9) : zMv G 5 M_X6_fault [.ref 0, .int x1, .int x2, .int x3] sl (zT s R) (fun r h' => r = some (.int v9.1) ∧ h' = zT v9.2 R) := by
  unfold f_X6_fault at H
  refine zMv_of (L := [some (.ref 0), some (.int x1), some (.int x2), some (.int x3), none]) (by decide) rfl (Nat.le_of_ble_eq_true rfl) rfl ?_
  refine aw_aload_n (q := 1) dX6_fault_0 rfl rfl ?_
  refine aw_getr (q := 4) dX6_fault_1 rfl e_X6_31 (by decide) (o_X6 s R) rfl ?_
  refine aw_getr (q := 7) dX6_fault_4 rfl e_X6_42 (zX4_lt zX4_74) (o_X4 zX4_74 s R) rfl ?_
  refine aw_iload_n (q := 8) dX6_fault_7 rfl rfl ?_
  refine aw_iload_n (q := 9) dX6_fault_8 rfl rfl ?_
  refine aw_iload_n (q := 10) dX6_fault_9 rfl rfl ?_
  obtain ⟨v1, hv1, H⟩ := zbd H
  refine aw_cv (M' := M_X0_refusalOfFault) (as := [.int x1, .int x2, .int x3]) (q := 13) dX6_fault_10 rfl W_X0_refusalOfFault k_X6_64 i_X0_refusalOfFault v_X0_refusalOfFault (zB_lt0 (zX4_B zX4_74)) (o_X0 (zX4_B zX4_74) s R) rfl rfl rfl (by decide) (Nat.le_of_ble_eq_true rfl) (c_X0_refusalOfFault s R (zX4_B zX4_74) x1 x2 x3 hv1) (Nat.le_refl _) (Nat.le_refl _) ?_
  rintro r9 h9 ⟨rfl, rfl⟩
  refine aw_istore (q := 15) (L' := [some (.ref 0), some (.int x1), some (.int x2), some (.int x3), some (.int v1)]) dX6_fault_13 rfl (by decide) rfl rfl ?_
  refine aw_iload (q := 17) dX6_fault_15 rfl rfl ?_
  refine aw_if_eq (q := 20) (t := 23) dX6_fault_17 rfl (by decide) (fun h2 => ?_) (fun h2 => ?_)
  · replace H := zt h2 H
    refine aw_aload_n (q := 24) dX6_fault_23 rfl rfl ?_
    refine aw_getr (q := 27) dX6_fault_24 rfl e_X6_12 (by decide) (o_X6 s R) rfl ?_
    refine aw_aload_n (q := 28) dX6_fault_27 rfl rfl ?_
    refine aw_getr (q := 31) dX6_fault_28 rfl e_X6_31 (by decide) (o_X6 s R) rfl ?_
    obtain ⟨v3, hv3, H⟩ := zbd H
    refine aw_cv (M' := M_X1_keep) (as := [.ref 74]) (q := 34) dX6_fault_31 rfl W_X1_keep k_X6_50 i_X1_keep v_X1_keep (by decide) (o_X1 s R) rfl rfl rfl (by decide) (Nat.le_of_ble_eq_true rfl) (c_X1_keep s R zX4_74 hv3) (Nat.le_refl _) (Nat.le_refl _) ?_
    rintro r9 h9 ⟨rfl, rfl⟩
    refine aw_aload_n (q := 35) dX6_fault_34 rfl rfl ?_
    refine aw_getr (q := 38) dX6_fault_35 rfl e_X6_31 (by decide) (o_X6 v3 R) rfl ?_
    refine aw_getr (q := 41) dX6_fault_38 rfl e_X6_42 (zX4_lt zX4_74) (o_X4 zX4_74 v3 R) rfl ?_
    refine aw_iload_n (q := 42) dX6_fault_41 rfl rfl ?_
    refine aw_iload_n (q := 43) dX6_fault_42 rfl rfl ?_
    refine aw_iload_n (q := 44) dX6_fault_43 rfl rfl ?_
    obtain ⟨v4, hv4, H⟩ := zbd H
    refine aw_cv (M' := M_X0_addFault) (as := [.int x1, .int x2, .int x3]) (q := 47) dX6_fault_44 rfl W_X0_addFault k_X6_67 i_X0_addFault v_X0_addFault (zB_lt0 (zX4_B zX4_74)) (o_X0 (zX4_B zX4_74) v3 R) rfl rfl rfl (by decide) (Nat.le_of_ble_eq_true rfl) (c_X0_addFault v3 R (zX4_B zX4_74) x1 x2 x3 hv4) (Nat.le_refl _) (Nat.le_refl _) ?_
    rintro r9 h9 ⟨rfl, rfl⟩
    cases H
    exact aw_ret dX6_fault_47 rfl rfl rfl rfl ⟨rfl, rfl⟩
  · replace H := zf h2 H
    refine aw_iload (q := 22) dX6_fault_20 rfl rfl ?_
    cases H
    exact aw_ret dX6_fault_22 rfl rfl rfl rfl ⟨rfl, rfl⟩
def f_X6_bless (s : zs) (x1 : Int32) (x2 : Int32) : Option (Int32 × zs) :=
  if f_X6_isPin x1 = true then (
    if (x2 &&& (-128)) = 0 then (
      Option.bind (f_X1_keep s 74) fun v3 =>
      Option.bind (f_X0_setBlessing v3 (sB 74) x1 x2) fun v4 =>
      some (v4.1, v4.2)
    ) else (
      some ((-1000001), s)
    )
  ) else (
    some ((-1000001), s)
  )
set_option maxHeartbeats 4000000 in
set_option maxRecDepth 100000 in
theorem c_X6_bless {G : zG} {sl : Nat} (s : zs) (R : zr) (x1 : Int32) (x2 : Int32) {v9 : (Int32 × zs)} (H : f_X6_bless s x1 x2 = some v9) : zMv G 5 M_X6_bless [.ref 0, .int x1, .int x2] sl (zT s R) (fun r h' => r = some (.int v9.1) ∧ h' = zT v9.2 R) := by
  unfold f_X6_bless at H
  refine zMv_of (L := [some (.ref 0), some (.int x1), some (.int x2)]) (by decide) rfl (Nat.le_of_ble_eq_true rfl) rfl ?_
  refine aw_iload_n (q := 1) dX6_bless_0 rfl rfl ?_
  refine aw_cs (M' := M_X6_isPin) (as := [.int x1]) (q := 4) dX6_bless_1 rfl W_X6_isPin k_X6_70 s_X6_isPin rfl rfl (by decide) (Nat.le_of_ble_eq_true rfl) (c_X6_isPin (zT s R) x1) (Nat.le_refl _) (Nat.le_refl _) ?_
  rintro r9 h9 ⟨rfl, rfl⟩
  refine aw_ifeqB (q := 7) (t := 14) dX6_bless_4 rfl (by decide) (fun h1 => ?_) (fun h1 => ?_)
  · replace H := zt h1 H
    refine aw_iload_n (q := 8) dX6_bless_7 rfl rfl ?_
    refine aw_bipush (q := 10) (v := (-128)) dX6_bless_8 rfl (by decide) ?_
    refine aw_iand (q := 11) dX6_bless_10 rfl ?_
    refine aw_if_eq (q := 14) (t := 17) dX6_bless_11 rfl (by decide) (fun h2 => ?_) (fun h2 => ?_)
    · replace H := zt h2 H
      refine aw_aload_n (q := 18) dX6_bless_17 rfl rfl ?_
      refine aw_getr (q := 21) dX6_bless_18 rfl e_X6_12 (by decide) (o_X6 s R) rfl ?_
      refine aw_aload_n (q := 22) dX6_bless_21 rfl rfl ?_
      refine aw_getr (q := 25) dX6_bless_22 rfl e_X6_31 (by decide) (o_X6 s R) rfl ?_
      obtain ⟨v3, hv3, H⟩ := zbd H
      refine aw_cv (M' := M_X1_keep) (as := [.ref 74]) (q := 28) dX6_bless_25 rfl W_X1_keep k_X6_50 i_X1_keep v_X1_keep (by decide) (o_X1 s R) rfl rfl rfl (by decide) (Nat.le_of_ble_eq_true rfl) (c_X1_keep s R zX4_74 hv3) (Nat.le_refl _) (Nat.le_refl _) ?_
      rintro r9 h9 ⟨rfl, rfl⟩
      refine aw_aload_n (q := 29) dX6_bless_28 rfl rfl ?_
      refine aw_getr (q := 32) dX6_bless_29 rfl e_X6_31 (by decide) (o_X6 v3 R) rfl ?_
      refine aw_getr (q := 35) dX6_bless_32 rfl e_X6_42 (zX4_lt zX4_74) (o_X4 zX4_74 v3 R) rfl ?_
      refine aw_iload_n (q := 36) dX6_bless_35 rfl rfl ?_
      refine aw_iload_n (q := 37) dX6_bless_36 rfl rfl ?_
      obtain ⟨v4, hv4, H⟩ := zbd H
      refine aw_cv (M' := M_X0_setBlessing) (as := [.int x1, .int x2]) (q := 40) dX6_bless_37 rfl W_X0_setBlessing k_X6_75 i_X0_setBlessing v_X0_setBlessing (zB_lt0 (zX4_B zX4_74)) (o_X0 (zX4_B zX4_74) v3 R) rfl rfl rfl (by decide) (Nat.le_of_ble_eq_true rfl) (c_X0_setBlessing v3 R (zX4_B zX4_74) x1 x2 hv4) (Nat.le_refl _) (Nat.le_refl _) ?_
      rintro r9 h9 ⟨rfl, rfl⟩
      cases H
      exact aw_ret dX6_bless_40 rfl rfl rfl rfl ⟨rfl, rfl⟩
    · replace H := zf h2 H
      refine aw_ldc (q := 16) dX6_bless_14 rfl q_X6_74 ?_
      cases H
      exact aw_ret dX6_bless_16 rfl rfl rfl rfl ⟨rfl, rfl⟩
  · replace H := zf h1 H
    refine aw_ldc (q := 16) dX6_bless_14 rfl q_X6_74 ?_
    cases H
    exact aw_ret dX6_bless_16 rfl rfl rfl rfl ⟨rfl, rfl⟩
def f_X6_foundOrNot (x0 : Int32) : Int32 :=
  if x0 = (-1) then (
    (-1000004)
  ) else (
    x0
  )
set_option maxHeartbeats 4000000 in
set_option maxRecDepth 100000 in
theorem c_X6_foundOrNot {G : zG} {sl : Nat} (h : zH) (x0 : Int32)  : zMv G 0 M_X6_foundOrNot [.int x0] sl h (fun r h' => r = some (.int (f_X6_foundOrNot x0)) ∧ h' = h) := by
  generalize H : f_X6_foundOrNot x0 = r0
  unfold f_X6_foundOrNot at H
  refine zMv_of (L := [some (.int x0)]) (by decide) rfl (Nat.le_of_ble_eq_true rfl) rfl ?_
  refine aw_iload_n (q := 1) dX6_foundOrNot_0 rfl rfl ?_
  refine aw_iconst (q := 2) (v := (-1)) dX6_foundOrNot_1 rfl (by decide) ?_
  refine aw_icmp_neP (q := 5) (t := 10) dX6_foundOrNot_2 rfl (by decide) (fun h1 => ?_) (fun h1 => ?_)
  · replace H := zt h1 H
    refine aw_ldc (q := 7) dX6_foundOrNot_5 rfl q_X6_115 ?_
    refine aw_goto (q := 11) dX6_foundOrNot_7 (by decide) ?_
    subst H
    exact aw_ret dX6_foundOrNot_11 rfl rfl rfl rfl ⟨rfl, rfl⟩
  · replace H := zf h1 H
    refine aw_iload_n (q := 11) dX6_foundOrNot_10 rfl rfl ?_
    subst H
    exact aw_ret dX6_foundOrNot_11 rfl rfl rfl rfl ⟨rfl, rfl⟩
def f_X6_pinOf (s : zs) (x1 : Int32) (x2 : Int32) : Option Int32 :=
  if f_X6_isPin x1 = true then (
    if x2 = 0 then (
      if zin x1 16 = true then
      some (f_X6_foundOrNot (s.1 (sB 74 + 2) x1.toNatClampNeg))
      else none
    ) else (
      if x2 = 1 then (
        Option.bind (f_X0_chipWith s (sB 74) x1) fun v8 =>
        some (f_X6_foundOrNot v8)
      ) else (
        if x2 = 2 then (
          Option.bind (f_X0_roleOf s (sB 74) x1) fun v9 =>
          some (f_X6_foundOrNot v9)
        ) else (
          if x2 = 3 then (
            if zin x1 16 = true then
            some (s.1 (sB 74 + 9) x1.toNatClampNeg)
            else none
          ) else (
            if x2 = 4 then (
              Option.bind (f_X4_touchedNow s 74) fun v11 =>
              if f_X6_hasBit v11 x1 = true then (
                some 1
              ) else (
                some 0
              )
            ) else (
              some (-1000001)
            )
          )
        )
      )
    )
  ) else (
    some (-1000001)
  )
set_option maxHeartbeats 4000000 in
set_option maxRecDepth 100000 in
theorem c_X6_pinOf {G : zG} {sl : Nat} (s : zs) (R : zr) (x1 : Int32) (x2 : Int32) {v9 : Int32} (H : f_X6_pinOf s x1 x2 = some v9) : zMv G 3 M_X6_pinOf [.ref 0, .int x1, .int x2] sl (zT s R) (fun r h' => r = some (.int v9) ∧ h' = (zT s R)) := by
  unfold f_X6_pinOf at H
  refine zMv_of (L := [some (.ref 0), some (.int x1), some (.int x2), none]) (by decide) rfl (Nat.le_of_ble_eq_true rfl) rfl ?_
  refine aw_iload_n (q := 1) dX6_pinOf_0 rfl rfl ?_
  refine aw_cs (M' := M_X6_isPin) (as := [.int x1]) (q := 4) dX6_pinOf_1 rfl W_X6_isPin k_X6_70 s_X6_isPin rfl rfl (by decide) (Nat.le_of_ble_eq_true rfl) (c_X6_isPin (zT s R) x1) (Nat.le_refl _) (Nat.le_refl _) ?_
  rintro r9 h9 ⟨rfl, rfl⟩
  refine aw_ifneB (q := 7) (t := 10) dX6_pinOf_4 rfl (by decide) (fun h1 => ?_) (fun h1 => ?_)
  · replace H := zt h1 H
    refine aw_aload_n (q := 11) dX6_pinOf_10 rfl rfl ?_
    refine aw_getr (q := 14) dX6_pinOf_11 rfl e_X6_31 (by decide) (o_X6 s R) rfl ?_
    refine aw_getr (q := 17) dX6_pinOf_14 rfl e_X6_42 (zX4_lt zX4_74) (o_X4 zX4_74 s R) rfl ?_
    refine aw_astore_n (q := 18) (L' := [some (.ref 0), some (.int x1), some (.int x2), some (.ref (sB 74))]) dX6_pinOf_17 rfl (by decide) rfl rfl ?_
    refine aw_iload_n (q := 19) dX6_pinOf_18 rfl rfl ?_
    by_cases h2 : x2 = 0
    · replace H := zt h2 H
      refine aw_tabIn (q := 52) (off := 33) dX6_pinOf_19 (by rw [h2]; decide) (by rw [h2]; decide) (by rw [h2]; rfl) (by decide) ?_
      refine aw_aload_n (q := 53) dX6_pinOf_52 rfl rfl ?_
      refine aw_getr (q := 56) dX6_pinOf_53 rfl e_X6_79 (zB_lt0 (zX4_B zX4_74)) (o_X0 (zX4_B zX4_74) s R) rfl ?_
      refine aw_iload_n (q := 57) dX6_pinOf_56 rfl rfl ?_
      obtain ⟨h7, H⟩ := zio H
      refine aw_iald' (q := 58) (v := s.1 (sB 74 + 2) x1.toNatClampNeg) dX6_pinOf_57 rfl (zB_lt (k := 2) (zX4_B zX4_74) (by decide)) (o_X0a1 (zX4_B zX4_74) s R) (zin_in h7) rfl ?_
      refine aw_cs (M' := M_X6_foundOrNot) (as := [.int (s.1 (sB 74 + 2) x1.toNatClampNeg)]) (q := 61) dX6_pinOf_58 rfl W_X6_foundOrNot k_X6_83 s_X6_foundOrNot rfl rfl (by decide) (Nat.le_of_ble_eq_true rfl) (c_X6_foundOrNot (zT s R) (s.1 (sB 74 + 2) x1.toNatClampNeg)) (Nat.le_refl _) (Nat.le_refl _) ?_
      rintro r9 h9 ⟨rfl, rfl⟩
      cases H
      exact aw_ret dX6_pinOf_61 rfl rfl rfl rfl ⟨rfl, rfl⟩
    · replace H := zf h2 H
      by_cases h3 : x2 = 1
      · replace H := zt h3 H
        refine aw_tabIn (q := 62) (off := 43) dX6_pinOf_19 (by rw [h3]; decide) (by rw [h3]; decide) (by rw [h3]; rfl) (by decide) ?_
        refine aw_aload_n (q := 63) dX6_pinOf_62 rfl rfl ?_
        refine aw_iload_n (q := 64) dX6_pinOf_63 rfl rfl ?_
        obtain ⟨v8, hv8, H⟩ := zbd H
        refine aw_cv (M' := M_X0_chipWith) (as := [.int x1]) (q := 67) dX6_pinOf_64 rfl W_X0_chipWith k_X6_86 i_X0_chipWith v_X0_chipWith (zB_lt0 (zX4_B zX4_74)) (o_X0 (zX4_B zX4_74) s R) rfl rfl rfl (by decide) (Nat.le_of_ble_eq_true rfl) (c_X0_chipWith s R (zX4_B zX4_74) x1 hv8) (Nat.le_refl _) (Nat.le_refl _) ?_
        rintro r9 h9 ⟨rfl, rfl⟩
        refine aw_cs (M' := M_X6_foundOrNot) (as := [.int v8]) (q := 70) dX6_pinOf_67 rfl W_X6_foundOrNot k_X6_83 s_X6_foundOrNot rfl rfl (by decide) (Nat.le_of_ble_eq_true rfl) (c_X6_foundOrNot (zT s R) v8) (Nat.le_refl _) (Nat.le_refl _) ?_
        rintro r9 h9 ⟨rfl, rfl⟩
        cases H
        exact aw_ret dX6_pinOf_70 rfl rfl rfl rfl ⟨rfl, rfl⟩
      · replace H := zf h3 H
        by_cases h4 : x2 = 2
        · replace H := zt h4 H
          refine aw_tabIn (q := 71) (off := 52) dX6_pinOf_19 (by rw [h4]; decide) (by rw [h4]; decide) (by rw [h4]; rfl) (by decide) ?_
          refine aw_aload_n (q := 72) dX6_pinOf_71 rfl rfl ?_
          refine aw_iload_n (q := 73) dX6_pinOf_72 rfl rfl ?_
          obtain ⟨v9, hv9, H⟩ := zbd H
          refine aw_cv (M' := M_X0_roleOf) (as := [.int x1]) (q := 76) dX6_pinOf_73 rfl W_X0_roleOf k_X6_89 i_X0_roleOf v_X0_roleOf (zB_lt0 (zX4_B zX4_74)) (o_X0 (zX4_B zX4_74) s R) rfl rfl rfl (by decide) (Nat.le_of_ble_eq_true rfl) (c_X0_roleOf s R (zX4_B zX4_74) x1 hv9) (Nat.le_refl _) (Nat.le_refl _) ?_
          rintro r9 h9 ⟨rfl, rfl⟩
          refine aw_cs (M' := M_X6_foundOrNot) (as := [.int v9]) (q := 79) dX6_pinOf_76 rfl W_X6_foundOrNot k_X6_83 s_X6_foundOrNot rfl rfl (by decide) (Nat.le_of_ble_eq_true rfl) (c_X6_foundOrNot (zT s R) v9) (Nat.le_refl _) (Nat.le_refl _) ?_
          rintro r9 h9 ⟨rfl, rfl⟩
          cases H
          exact aw_ret dX6_pinOf_79 rfl rfl rfl rfl ⟨rfl, rfl⟩
        · replace H := zf h4 H
          by_cases h5 : x2 = 3
          · replace H := zt h5 H
            refine aw_tabIn (q := 80) (off := 61) dX6_pinOf_19 (by rw [h5]; decide) (by rw [h5]; decide) (by rw [h5]; rfl) (by decide) ?_
            refine aw_aload_n (q := 81) dX6_pinOf_80 rfl rfl ?_
            refine aw_getr (q := 84) dX6_pinOf_81 rfl e_X6_92 (zB_lt0 (zX4_B zX4_74)) (o_X0 (zX4_B zX4_74) s R) rfl ?_
            refine aw_iload_n (q := 85) dX6_pinOf_84 rfl rfl ?_
            obtain ⟨h10, H⟩ := zio H
            refine aw_iald' (q := 86) (v := s.1 (sB 74 + 9) x1.toNatClampNeg) dX6_pinOf_85 rfl (zB_lt (k := 9) (zX4_B zX4_74) (by decide)) (o_X0a8 (zX4_B zX4_74) s R) (zin_in h10) rfl ?_
            cases H
            exact aw_ret dX6_pinOf_86 rfl rfl rfl rfl ⟨rfl, rfl⟩
          · replace H := zf h5 H
            by_cases h6 : x2 = 4
            · replace H := zt h6 H
              refine aw_tabIn (q := 87) (off := 68) dX6_pinOf_19 (by rw [h6]; decide) (by rw [h6]; decide) (by rw [h6]; rfl) (by decide) ?_
              refine aw_aload_n (q := 88) dX6_pinOf_87 rfl rfl ?_
              refine aw_getr (q := 91) dX6_pinOf_88 rfl e_X6_31 (by decide) (o_X6 s R) rfl ?_
              obtain ⟨v11, hv11, H⟩ := zbd H
              refine aw_cv (M' := M_X4_touchedNow) (as := []) (q := 94) dX6_pinOf_91 rfl W_X4_touchedNow k_X6_95 i_X4_touchedNow v_X4_touchedNow (zX4_lt zX4_74) (o_X4 zX4_74 s R) rfl rfl rfl (by decide) (Nat.le_of_ble_eq_true rfl) (c_X4_touchedNow s R zX4_74 hv11) (Nat.le_refl _) (Nat.le_refl _) ?_
              rintro r9 h9 ⟨rfl, rfl⟩
              refine aw_iload_n (q := 95) dX6_pinOf_94 rfl rfl ?_
              refine aw_cs (M' := M_X6_hasBit) (as := [.int v11, .int x1]) (q := 98) dX6_pinOf_95 rfl W_X6_hasBit k_X6_99 s_X6_hasBit rfl rfl (by decide) (Nat.le_of_ble_eq_true rfl) (c_X6_hasBit (zT s R) v11 x1) (Nat.le_refl _) (Nat.le_refl _) ?_
              rintro r9 h9 ⟨rfl, rfl⟩
              refine aw_ifeqB (q := 101) (t := 105) dX6_pinOf_98 rfl (by decide) (fun h12 => ?_) (fun h12 => ?_)
              · replace H := zt h12 H
                refine aw_iconst (q := 102) (v := 1) dX6_pinOf_101 rfl (by decide) ?_
                refine aw_goto (q := 106) dX6_pinOf_102 (by decide) ?_
                cases H
                exact aw_ret dX6_pinOf_106 rfl rfl rfl rfl ⟨rfl, rfl⟩
              · replace H := zf h12 H
                refine aw_iconst (q := 106) (v := 0) dX6_pinOf_105 rfl (by decide) ?_
                cases H
                exact aw_ret dX6_pinOf_106 rfl rfl rfl rfl ⟨rfl, rfl⟩
            · replace H := zf h6 H
              refine aw_tabOut (q := 107) dX6_pinOf_19 (by have w0 : ¬ x2.toInt = 0 := zne h2; have w1 : ¬ x2.toInt = 1 := zne h3; have w2 : ¬ x2.toInt = 2 := zne h4; have w3 : ¬ x2.toInt = 3 := zne h5; have w4 : ¬ x2.toInt = 4 := zne h6; omega) (by decide) ?_
              refine aw_ldc (q := 109) dX6_pinOf_107 rfl q_X6_74 ?_
              cases H
              exact aw_ret dX6_pinOf_109 rfl rfl rfl rfl ⟨rfl, rfl⟩
  · replace H := zf h1 H
    refine aw_ldc (q := 9) dX6_pinOf_7 rfl q_X6_74 ?_
    cases H
    exact aw_ret dX6_pinOf_9 rfl rfl rfl rfl ⟨rfl, rfl⟩
def f_X6_faultOf (s : zs) (x1 : Int32) (x2 : Int32) : Option Int32 :=
  if f_X0_isFault s (sB 74) x1 = true then (
    if x2 = 0 then (
      if zin x1 10 = true then
      some (s.1 (sB 74 + 6) x1.toNatClampNeg)
      else none
    ) else (
      if x2 = 1 then (
        if zin x1 10 = true then
        some (s.1 (sB 74 + 7) x1.toNatClampNeg)
        else none
      ) else (
        if x2 = 2 then (
          if zin x1 10 = true then
          if (s.1 (sB 74 + 6) x1.toNatClampNeg) = 1 then (
            some (s.1 (sB 74 + 8) x1.toNatClampNeg)
          ) else (
            some (-1000004)
          )
          else none
        ) else (
          if x2 = 3 then (
            if zin x1 10 = true then
            some (f_X6_foundOrNot (s.1 (sD 74) x1.toNatClampNeg))
            else none
          ) else (
            some (-1000001)
          )
        )
      )
    )
  ) else (
    some (-1000001)
  )
set_option maxHeartbeats 4000000 in
set_option maxRecDepth 100000 in
theorem c_X6_faultOf {G : zG} {sl : Nat} (s : zs) (R : zr) (x1 : Int32) (x2 : Int32) {v9 : Int32} (H : f_X6_faultOf s x1 x2 = some v9) : zMv G 1 M_X6_faultOf [.ref 0, .int x1, .int x2] sl (zT s R) (fun r h' => r = some (.int v9) ∧ h' = (zT s R)) := by
  unfold f_X6_faultOf at H
  refine zMv_of (L := [some (.ref 0), some (.int x1), some (.int x2), none]) (by decide) rfl (Nat.le_of_ble_eq_true rfl) rfl ?_
  refine aw_aload_n (q := 1) dX6_faultOf_0 rfl rfl ?_
  refine aw_getr (q := 4) dX6_faultOf_1 rfl e_X6_31 (by decide) (o_X6 s R) rfl ?_
  refine aw_getr (q := 7) dX6_faultOf_4 rfl e_X6_42 (zX4_lt zX4_74) (o_X4 zX4_74 s R) rfl ?_
  refine aw_astore_n (q := 8) (L' := [some (.ref 0), some (.int x1), some (.int x2), some (.ref (sB 74))]) dX6_faultOf_7 rfl (by decide) rfl rfl ?_
  refine aw_aload_n (q := 9) dX6_faultOf_8 rfl rfl ?_
  refine aw_iload_n (q := 10) dX6_faultOf_9 rfl rfl ?_
  refine aw_cv (M' := M_X0_isFault) (as := [.int x1]) (q := 13) dX6_faultOf_10 rfl W_X0_isFault k_X6_103 i_X0_isFault v_X0_isFault (zB_lt0 (zX4_B zX4_74)) (o_X0 (zX4_B zX4_74) s R) rfl rfl rfl (by decide) (Nat.le_of_ble_eq_true rfl) (c_X0_isFault s R (zX4_B zX4_74) x1) (Nat.le_refl _) (Nat.le_refl _) ?_
  rintro r9 h9 ⟨rfl, rfl⟩
  refine aw_ifneB (q := 16) (t := 19) dX6_faultOf_13 rfl (by decide) (fun h1 => ?_) (fun h1 => ?_)
  · replace H := zt h1 H
    refine aw_iload_n (q := 20) dX6_faultOf_19 rfl rfl ?_
    by_cases h2 : x2 = 0
    · replace H := zt h2 H
      refine aw_tabIn (q := 52) (off := 32) dX6_faultOf_20 (by rw [h2]; decide) (by rw [h2]; decide) (by rw [h2]; rfl) (by decide) ?_
      refine aw_aload_n (q := 53) dX6_faultOf_52 rfl rfl ?_
      refine aw_getr (q := 56) dX6_faultOf_53 rfl e_X6_106 (zB_lt0 (zX4_B zX4_74)) (o_X0 (zX4_B zX4_74) s R) rfl ?_
      refine aw_iload_n (q := 57) dX6_faultOf_56 rfl rfl ?_
      obtain ⟨h6, H⟩ := zio H
      refine aw_iald' (q := 58) (v := s.1 (sB 74 + 6) x1.toNatClampNeg) dX6_faultOf_57 rfl (zB_lt (k := 6) (zX4_B zX4_74) (by decide)) (o_X0a5 (zX4_B zX4_74) s R) (zin_in h6) rfl ?_
      cases H
      exact aw_ret dX6_faultOf_58 rfl rfl rfl rfl ⟨rfl, rfl⟩
    · replace H := zf h2 H
      by_cases h3 : x2 = 1
      · replace H := zt h3 H
        refine aw_tabIn (q := 59) (off := 39) dX6_faultOf_20 (by rw [h3]; decide) (by rw [h3]; decide) (by rw [h3]; rfl) (by decide) ?_
        refine aw_aload_n (q := 60) dX6_faultOf_59 rfl rfl ?_
        refine aw_getr (q := 63) dX6_faultOf_60 rfl e_X6_109 (zB_lt0 (zX4_B zX4_74)) (o_X0 (zX4_B zX4_74) s R) rfl ?_
        refine aw_iload_n (q := 64) dX6_faultOf_63 rfl rfl ?_
        obtain ⟨h7, H⟩ := zio H
        refine aw_iald' (q := 65) (v := s.1 (sB 74 + 7) x1.toNatClampNeg) dX6_faultOf_64 rfl (zB_lt (k := 7) (zX4_B zX4_74) (by decide)) (o_X0a6 (zX4_B zX4_74) s R) (zin_in h7) rfl ?_
        cases H
        exact aw_ret dX6_faultOf_65 rfl rfl rfl rfl ⟨rfl, rfl⟩
      · replace H := zf h3 H
        by_cases h4 : x2 = 2
        · replace H := zt h4 H
          refine aw_tabIn (q := 66) (off := 46) dX6_faultOf_20 (by rw [h4]; decide) (by rw [h4]; decide) (by rw [h4]; rfl) (by decide) ?_
          refine aw_aload_n (q := 67) dX6_faultOf_66 rfl rfl ?_
          refine aw_getr (q := 70) dX6_faultOf_67 rfl e_X6_106 (zB_lt0 (zX4_B zX4_74)) (o_X0 (zX4_B zX4_74) s R) rfl ?_
          refine aw_iload_n (q := 71) dX6_faultOf_70 rfl rfl ?_
          obtain ⟨h8, H⟩ := zio H
          refine aw_iald' (q := 72) (v := s.1 (sB 74 + 6) x1.toNatClampNeg) dX6_faultOf_71 rfl (zB_lt (k := 6) (zX4_B zX4_74) (by decide)) (o_X0a5 (zX4_B zX4_74) s R) (zin_in h8) rfl ?_
          refine aw_iconst (q := 73) (v := 1) dX6_faultOf_72 rfl (by decide) ?_
          refine aw_icmp_neP (q := 76) (t := 85) dX6_faultOf_73 rfl (by decide) (fun h9 => ?_) (fun h9 => ?_)
          · replace H := zt h9 H
            refine aw_aload_n (q := 77) dX6_faultOf_76 rfl rfl ?_
            refine aw_getr (q := 80) dX6_faultOf_77 rfl e_X6_112 (zB_lt0 (zX4_B zX4_74)) (o_X0 (zX4_B zX4_74) s R) rfl ?_
            refine aw_iload_n (q := 81) dX6_faultOf_80 rfl rfl ?_
            refine aw_iald' (q := 82) (v := s.1 (sB 74 + 8) x1.toNatClampNeg) dX6_faultOf_81 rfl (zB_lt (k := 8) (zX4_B zX4_74) (by decide)) (o_X0a7 (zX4_B zX4_74) s R) (zin_in h8) rfl ?_
            refine aw_goto (q := 87) dX6_faultOf_82 (by decide) ?_
            cases H
            exact aw_ret dX6_faultOf_87 rfl rfl rfl rfl ⟨rfl, rfl⟩
          · replace H := zf h9 H
            refine aw_ldc (q := 87) dX6_faultOf_85 rfl q_X6_115 ?_
            cases H
            exact aw_ret dX6_faultOf_87 rfl rfl rfl rfl ⟨rfl, rfl⟩
        · replace H := zf h4 H
          by_cases h5 : x2 = 3
          · replace H := zt h5 H
            refine aw_tabIn (q := 88) (off := 68) dX6_faultOf_20 (by rw [h5]; decide) (by rw [h5]; decide) (by rw [h5]; rfl) (by decide) ?_
            refine aw_aload_n (q := 89) dX6_faultOf_88 rfl rfl ?_
            refine aw_getr (q := 92) dX6_faultOf_89 rfl e_X6_31 (by decide) (o_X6 s R) rfl ?_
            refine aw_getr (q := 95) dX6_faultOf_92 rfl e_X6_116 (zX4_lt zX4_74) (o_X4 zX4_74 s R) rfl ?_
            refine aw_iload_n (q := 96) dX6_faultOf_95 rfl rfl ?_
            obtain ⟨h10, H⟩ := zio H
            refine aw_iald' (q := 97) (v := s.1 (sD 74) x1.toNatClampNeg) dX6_faultOf_96 rfl (zX4_ltD zX4_74) (o_X4a1 zX4_74 s R) (zin_in h10) rfl ?_
            refine aw_cs (M' := M_X6_foundOrNot) (as := [.int (s.1 (sD 74) x1.toNatClampNeg)]) (q := 100) dX6_faultOf_97 rfl W_X6_foundOrNot k_X6_83 s_X6_foundOrNot rfl rfl (by decide) (Nat.le_of_ble_eq_true rfl) (c_X6_foundOrNot (zT s R) (s.1 (sD 74) x1.toNatClampNeg)) (Nat.le_refl _) (Nat.le_refl _) ?_
            rintro r9 h9 ⟨rfl, rfl⟩
            cases H
            exact aw_ret dX6_faultOf_100 rfl rfl rfl rfl ⟨rfl, rfl⟩
          · replace H := zf h5 H
            refine aw_tabOut (q := 101) dX6_faultOf_20 (by have w0 : ¬ x2.toInt = 0 := zne h2; have w1 : ¬ x2.toInt = 1 := zne h3; have w2 : ¬ x2.toInt = 2 := zne h4; have w3 : ¬ x2.toInt = 3 := zne h5; omega) (by decide) ?_
            refine aw_ldc (q := 103) dX6_faultOf_101 rfl q_X6_74 ?_
            cases H
            exact aw_ret dX6_faultOf_103 rfl rfl rfl rfl ⟨rfl, rfl⟩
  · replace H := zf h1 H
    refine aw_ldc (q := 18) dX6_faultOf_16 rfl q_X6_74 ?_
    cases H
    exact aw_ret dX6_faultOf_18 rfl rfl rfl rfl ⟨rfl, rfl⟩
def f_X6_isDay (x0 : Int32) : Bool :=
  if x0 < 0 then (
    false
  ) else (
    if (7 : Int32) ≤ x0 then (
      false
    ) else (
      true
    )
  )
set_option maxHeartbeats 4000000 in
set_option maxRecDepth 100000 in
theorem c_X6_isDay {G : zG} {sl : Nat} (h : zH) (x0 : Int32)  : zMv G 0 M_X6_isDay [.int x0] sl h (fun r h' => r = some (.int (zb (f_X6_isDay x0))) ∧ h' = h) := by
  generalize H : f_X6_isDay x0 = r0
  unfold f_X6_isDay at H
  refine zMv_of (L := [some (.int x0)]) (by decide) rfl (Nat.le_of_ble_eq_true rfl) rfl ?_
  refine aw_iload_n (q := 1) dX6_isDay_0 rfl rfl ?_
  refine aw_if_lt (q := 4) (t := 14) dX6_isDay_1 rfl (by decide) (fun h1 => ?_) (fun h1 => ?_)
  · replace H := zt h1 H
    refine aw_iconst (q := 15) (v := 0) dX6_isDay_14 rfl (by decide) ?_
    subst H
    exact aw_ret dX6_isDay_15 rfl rfl rfl rfl ⟨rfl, rfl⟩
  · replace H := zf h1 H
    refine aw_iload_n (q := 5) dX6_isDay_4 rfl rfl ?_
    refine aw_bipush (q := 7) (v := 7) dX6_isDay_5 rfl (by decide) ?_
    refine aw_icmp_ge (q := 10) (t := 14) dX6_isDay_7 rfl (by decide) (fun h2 => ?_) (fun h2 => ?_)
    · replace H := zt h2 H
      refine aw_iconst (q := 15) (v := 0) dX6_isDay_14 rfl (by decide) ?_
      subst H
      exact aw_ret dX6_isDay_15 rfl rfl rfl rfl ⟨rfl, rfl⟩
    · replace H := zf h2 H
      refine aw_iconst (q := 11) (v := 1) dX6_isDay_10 rfl (by decide) ?_
      refine aw_goto (q := 15) dX6_isDay_11 (by decide) ?_
      subst H
      exact aw_ret dX6_isDay_15 rfl rfl rfl rfl ⟨rfl, rfl⟩
def f_X6_isFaultOrNone (s : zs) (x1 : Int32) : Bool :=
  if x1 = (-1) then (
    true
  ) else (
    if f_X0_isFault s (sB 74) x1 = true then (
      true
    ) else (
      false
    )
  )
set_option maxHeartbeats 4000000 in
set_option maxRecDepth 100000 in
theorem c_X6_isFaultOrNone {G : zG} {sl : Nat} (s : zs) (R : zr) (x1 : Int32)  : zMv G 1 M_X6_isFaultOrNone [.ref 0, .int x1] sl (zT s R) (fun r h' => r = some (.int (zb (f_X6_isFaultOrNone s x1))) ∧ h' = (zT s R)) := by
  generalize H : f_X6_isFaultOrNone s x1 = r0
  unfold f_X6_isFaultOrNone at H
  refine zMv_of (L := [some (.ref 0), some (.int x1)]) (by decide) rfl (Nat.le_of_ble_eq_true rfl) rfl ?_
  refine aw_iload_n (q := 1) dX6_isFaultOrNone_0 rfl rfl ?_
  refine aw_iconst (q := 2) (v := (-1)) dX6_isFaultOrNone_1 rfl (by decide) ?_
  refine aw_icmp_eq (q := 5) (t := 19) dX6_isFaultOrNone_2 rfl (by decide) (fun h1 => ?_) (fun h1 => ?_)
  · replace H := zt h1 H
    refine aw_iconst (q := 20) (v := 1) dX6_isFaultOrNone_19 rfl (by decide) ?_
    refine aw_goto (q := 24) dX6_isFaultOrNone_20 (by decide) ?_
    subst H
    exact aw_ret dX6_isFaultOrNone_24 rfl rfl rfl rfl ⟨rfl, rfl⟩
  · replace H := zf h1 H
    refine aw_aload_n (q := 6) dX6_isFaultOrNone_5 rfl rfl ?_
    refine aw_getr (q := 9) dX6_isFaultOrNone_6 rfl e_X6_31 (by decide) (o_X6 s R) rfl ?_
    refine aw_getr (q := 12) dX6_isFaultOrNone_9 rfl e_X6_42 (zX4_lt zX4_74) (o_X4 zX4_74 s R) rfl ?_
    refine aw_iload_n (q := 13) dX6_isFaultOrNone_12 rfl rfl ?_
    refine aw_cv (M' := M_X0_isFault) (as := [.int x1]) (q := 16) dX6_isFaultOrNone_13 rfl W_X0_isFault k_X6_103 i_X0_isFault v_X0_isFault (zB_lt0 (zX4_B zX4_74)) (o_X0 (zX4_B zX4_74) s R) rfl rfl rfl (by decide) (Nat.le_of_ble_eq_true rfl) (c_X0_isFault s R (zX4_B zX4_74) x1) (Nat.le_refl _) (Nat.le_refl _) ?_
    rintro r9 h9 ⟨rfl, rfl⟩
    refine aw_ifeqB (q := 19) (t := 23) dX6_isFaultOrNone_16 rfl (by decide) (fun h2 => ?_) (fun h2 => ?_)
    · replace H := zt h2 H
      refine aw_iconst (q := 20) (v := 1) dX6_isFaultOrNone_19 rfl (by decide) ?_
      refine aw_goto (q := 24) dX6_isFaultOrNone_20 (by decide) ?_
      subst H
      exact aw_ret dX6_isFaultOrNone_24 rfl rfl rfl rfl ⟨rfl, rfl⟩
    · replace H := zf h2 H
      refine aw_iconst (q := 24) (v := 0) dX6_isFaultOrNone_23 rfl (by decide) ?_
      subst H
      exact aw_ret dX6_isFaultOrNone_24 rfl rfl rfl rfl ⟨rfl, rfl⟩
def f_X6_suspectFor (x0 : Int32) : Int32 :=
  if x0 = (-1) then (
    10
  ) else (
    x0
  )
set_option maxHeartbeats 4000000 in
set_option maxRecDepth 100000 in
theorem c_X6_suspectFor {G : zG} {sl : Nat} (h : zH) (x0 : Int32)  : zMv G 0 M_X6_suspectFor [.int x0] sl h (fun r h' => r = some (.int (f_X6_suspectFor x0)) ∧ h' = h) := by
  generalize H : f_X6_suspectFor x0 = r0
  unfold f_X6_suspectFor at H
  refine zMv_of (L := [some (.int x0)]) (by decide) rfl (Nat.le_of_ble_eq_true rfl) rfl ?_
  refine aw_iload_n (q := 1) dX6_suspectFor_0 rfl rfl ?_
  refine aw_iconst (q := 2) (v := (-1)) dX6_suspectFor_1 rfl (by decide) ?_
  refine aw_icmp_neP (q := 5) (t := 10) dX6_suspectFor_2 rfl (by decide) (fun h1 => ?_) (fun h1 => ?_)
  · replace H := zt h1 H
    refine aw_bipush (q := 7) (v := 10) dX6_suspectFor_5 rfl (by decide) ?_
    refine aw_goto (q := 11) dX6_suspectFor_7 (by decide) ?_
    subst H
    exact aw_ret dX6_suspectFor_11 rfl rfl rfl rfl ⟨rfl, rfl⟩
  · replace H := zf h1 H
    refine aw_iload_n (q := 11) dX6_suspectFor_10 rfl rfl ?_
    subst H
    exact aw_ret dX6_suspectFor_11 rfl rfl rfl rfl ⟨rfl, rfl⟩
def f_X6_reached (s : zs) (x1 : Int32) (x2 : Int32) : Option (Int32 × zs) :=
  if f_X6_isDay x1 = true then (
    if f_X6_isFaultOrNone s x2 = true then (
      Option.bind (f_X2_suppose s (f_X6_suspectFor x2)) fun v3 =>
      Option.bind (f_X0_blessedOn v3.2 (sB 74) x1) fun v4 =>
      Option.bind (f_X5_probe v3.2 v3.1 v4) fun v5 =>
      some (v5.1 v3.1 6, v5)
    ) else (
      some ((-1000001), s)
    )
  ) else (
    some ((-1000001), s)
  )
set_option maxHeartbeats 4000000 in
set_option maxRecDepth 100000 in
theorem c_X6_reached {G : zG} {sl : Nat} (s : zs) (R : zr) (x1 : Int32) (x2 : Int32) {v9 : (Int32 × zs)} (H : f_X6_reached s x1 x2 = some v9) : zMv G 5 M_X6_reached [.ref 0, .int x1, .int x2] sl (zT s R) (fun r h' => r = some (.int v9.1) ∧ h' = zT v9.2 R) := by
  unfold f_X6_reached at H
  refine zMv_of (L := [some (.ref 0), some (.int x1), some (.int x2), none]) (by decide) rfl (Nat.le_of_ble_eq_true rfl) rfl ?_
  refine aw_iload_n (q := 1) dX6_reached_0 rfl rfl ?_
  refine aw_cs (M' := M_X6_isDay) (as := [.int x1]) (q := 4) dX6_reached_1 rfl W_X6_isDay k_X6_119 s_X6_isDay rfl rfl (by decide) (Nat.le_of_ble_eq_true rfl) (c_X6_isDay (zT s R) x1) (Nat.le_refl _) (Nat.le_refl _) ?_
  rintro r9 h9 ⟨rfl, rfl⟩
  refine aw_ifeqB (q := 7) (t := 15) dX6_reached_4 rfl (by decide) (fun h1 => ?_) (fun h1 => ?_)
  · replace H := zt h1 H
    refine aw_aload_n (q := 8) dX6_reached_7 rfl rfl ?_
    refine aw_iload_n (q := 9) dX6_reached_8 rfl rfl ?_
    refine aw_cv (M' := M_X6_isFaultOrNone) (as := [.int x2]) (q := 12) dX6_reached_9 rfl W_X6_isFaultOrNone k_X6_122 i_X6_isFaultOrNone v_X6_isFaultOrNone (by decide) (o_X6 s R) rfl rfl rfl (by decide) (Nat.le_of_ble_eq_true rfl) (c_X6_isFaultOrNone s R x2) (Nat.le_refl _) (Nat.le_refl _) ?_
    rintro r9 h9 ⟨rfl, rfl⟩
    refine aw_ifneB (q := 15) (t := 18) dX6_reached_12 rfl (by decide) (fun h2 => ?_) (fun h2 => ?_)
    · replace H := zt h2 H
      refine aw_aload_n (q := 19) dX6_reached_18 rfl rfl ?_
      refine aw_getr (q := 22) dX6_reached_19 rfl e_X6_38 (by decide) (o_X6 s R) rfl ?_
      refine aw_iload_n (q := 23) dX6_reached_22 rfl rfl ?_
      refine aw_cs (M' := M_X6_suspectFor) (as := [.int x2]) (q := 26) dX6_reached_23 rfl W_X6_suspectFor k_X6_125 s_X6_suspectFor rfl rfl (by decide) (Nat.le_of_ble_eq_true rfl) (c_X6_suspectFor (zT s R) x2) (Nat.le_refl _) (Nat.le_refl _) ?_
      rintro r9 h9 ⟨rfl, rfl⟩
      obtain ⟨v3, hv3, H⟩ := zbd H
      refine aw_cv (M' := M_X2_suppose) (as := [.int (f_X6_suspectFor x2)]) (q := 29) dX6_reached_26 rfl W_X2_suppose k_X6_128 i_X2_suppose v_X2_suppose (by decide) (o_X2 s R) rfl rfl rfl (by decide) (Nat.le_of_ble_eq_true rfl) (c_X2_suppose s R (f_X6_suspectFor x2) hv3) (Nat.le_refl _) (Nat.le_refl _) ?_
      rintro r9 h9 ⟨rfl, rfl⟩
      refine aw_astore_n (q := 30) (L' := [some (.ref 0), some (.int x1), some (.int x2), some (.ref v3.1)]) dX6_reached_29 rfl (by decide) rfl rfl ?_
      refine aw_aload_n (q := 31) dX6_reached_30 rfl rfl ?_
      refine aw_aload_n (q := 32) dX6_reached_31 rfl rfl ?_
      refine aw_getr (q := 35) dX6_reached_32 rfl e_X6_31 (by decide) (o_X6 v3.2 R) rfl ?_
      refine aw_getr (q := 38) dX6_reached_35 rfl e_X6_42 (zX4_lt zX4_74) (o_X4 zX4_74 v3.2 R) rfl ?_
      refine aw_iload_n (q := 39) dX6_reached_38 rfl rfl ?_
      obtain ⟨v4, hv4, H⟩ := zbd H
      refine aw_cv (M' := M_X0_blessedOn) (as := [.int x1]) (q := 42) dX6_reached_39 rfl W_X0_blessedOn k_X6_132 i_X0_blessedOn v_X0_blessedOn (zB_lt0 (zX4_B zX4_74)) (o_X0 (zX4_B zX4_74) v3.2 R) rfl rfl rfl (by decide) (Nat.le_of_ble_eq_true rfl) (c_X0_blessedOn v3.2 R (zX4_B zX4_74) x1 hv4) (Nat.le_refl _) (Nat.le_refl _) ?_
      rintro r9 h9 ⟨rfl, rfl⟩
      obtain ⟨v5, hv5, H⟩ := zbd H
      refine aw_cv (M' := M_X5_probe) (as := [.int v4]) (q := 45) dX6_reached_42 rfl W_X5_probe k_X6_135 i_X5_probe v_X5_probe (zU_lt (k := 0) (U_X2_suppose hv3) (by decide)) (o_X5 (U_X2_suppose hv3) v3.2 R) rfl rfl rfl (by decide) (Nat.le_of_ble_eq_true rfl) (c_X5_probe v3.2 R (U_X2_suppose hv3) v4 hv5) (Nat.le_refl _) (Nat.le_refl _) ?_
      rintro r9 h9 ⟨rfl, rfl⟩
      refine aw_aload_n (q := 46) dX6_reached_45 rfl rfl ?_
      refine aw_getr (q := 49) dX6_reached_46 rfl e_X6_141 (zU_lt (k := 0) (U_X2_suppose hv3) (by decide)) (o_X5 (U_X2_suppose hv3) v5 R) rfl ?_
      cases H
      exact aw_ret dX6_reached_49 rfl rfl rfl rfl ⟨rfl, rfl⟩
    · replace H := zf h2 H
      refine aw_ldc (q := 17) dX6_reached_15 rfl q_X6_74 ?_
      cases H
      exact aw_ret dX6_reached_17 rfl rfl rfl rfl ⟨rfl, rfl⟩
  · replace H := zf h1 H
    refine aw_ldc (q := 17) dX6_reached_15 rfl q_X6_74 ?_
    cases H
    exact aw_ret dX6_reached_17 rfl rfl rfl rfl ⟨rfl, rfl⟩
def f_X6_scanned (s : zs) (x1 : Int32) (x2 : Int32) : Option (Int32 × zs) :=
  if f_X6_isDay x1 = true then (
    if f_X6_isFaultOrNone s x2 = true then (
      Option.bind (f_X2_suppose s (f_X6_suspectFor x2)) fun v3 =>
      Option.bind (f_X0_blessedOn v3.2 (sB 74) x1) fun v4 =>
      Option.bind (f_X5_scannedChips v3.2 v3.1 v4) fun v5 =>
      some (v5, v3.2)
    ) else (
      some ((-1000001), s)
    )
  ) else (
    some ((-1000001), s)
  )
set_option maxHeartbeats 4000000 in
set_option maxRecDepth 100000 in
theorem c_X6_scanned {G : zG} {sl : Nat} (s : zs) (R : zr) (x1 : Int32) (x2 : Int32) {v9 : (Int32 × zs)} (H : f_X6_scanned s x1 x2 = some v9) : zMv G 5 M_X6_scanned [.ref 0, .int x1, .int x2] sl (zT s R) (fun r h' => r = some (.int v9.1) ∧ h' = zT v9.2 R) := by
  unfold f_X6_scanned at H
  refine zMv_of (L := [some (.ref 0), some (.int x1), some (.int x2)]) (by decide) rfl (Nat.le_of_ble_eq_true rfl) rfl ?_
  refine aw_iload_n (q := 1) dX6_scanned_0 rfl rfl ?_
  refine aw_cs (M' := M_X6_isDay) (as := [.int x1]) (q := 4) dX6_scanned_1 rfl W_X6_isDay k_X6_119 s_X6_isDay rfl rfl (by decide) (Nat.le_of_ble_eq_true rfl) (c_X6_isDay (zT s R) x1) (Nat.le_refl _) (Nat.le_refl _) ?_
  rintro r9 h9 ⟨rfl, rfl⟩
  refine aw_ifeqB (q := 7) (t := 15) dX6_scanned_4 rfl (by decide) (fun h1 => ?_) (fun h1 => ?_)
  · replace H := zt h1 H
    refine aw_aload_n (q := 8) dX6_scanned_7 rfl rfl ?_
    refine aw_iload_n (q := 9) dX6_scanned_8 rfl rfl ?_
    refine aw_cv (M' := M_X6_isFaultOrNone) (as := [.int x2]) (q := 12) dX6_scanned_9 rfl W_X6_isFaultOrNone k_X6_122 i_X6_isFaultOrNone v_X6_isFaultOrNone (by decide) (o_X6 s R) rfl rfl rfl (by decide) (Nat.le_of_ble_eq_true rfl) (c_X6_isFaultOrNone s R x2) (Nat.le_refl _) (Nat.le_refl _) ?_
    rintro r9 h9 ⟨rfl, rfl⟩
    refine aw_ifneB (q := 15) (t := 18) dX6_scanned_12 rfl (by decide) (fun h2 => ?_) (fun h2 => ?_)
    · replace H := zt h2 H
      refine aw_aload_n (q := 19) dX6_scanned_18 rfl rfl ?_
      refine aw_getr (q := 22) dX6_scanned_19 rfl e_X6_38 (by decide) (o_X6 s R) rfl ?_
      refine aw_iload_n (q := 23) dX6_scanned_22 rfl rfl ?_
      refine aw_cs (M' := M_X6_suspectFor) (as := [.int x2]) (q := 26) dX6_scanned_23 rfl W_X6_suspectFor k_X6_125 s_X6_suspectFor rfl rfl (by decide) (Nat.le_of_ble_eq_true rfl) (c_X6_suspectFor (zT s R) x2) (Nat.le_refl _) (Nat.le_refl _) ?_
      rintro r9 h9 ⟨rfl, rfl⟩
      obtain ⟨v3, hv3, H⟩ := zbd H
      refine aw_cv (M' := M_X2_suppose) (as := [.int (f_X6_suspectFor x2)]) (q := 29) dX6_scanned_26 rfl W_X2_suppose k_X6_128 i_X2_suppose v_X2_suppose (by decide) (o_X2 s R) rfl rfl rfl (by decide) (Nat.le_of_ble_eq_true rfl) (c_X2_suppose s R (f_X6_suspectFor x2) hv3) (Nat.le_refl _) (Nat.le_refl _) ?_
      rintro r9 h9 ⟨rfl, rfl⟩
      refine aw_aload_n (q := 30) dX6_scanned_29 rfl rfl ?_
      refine aw_getr (q := 33) dX6_scanned_30 rfl e_X6_31 (by decide) (o_X6 v3.2 R) rfl ?_
      refine aw_getr (q := 36) dX6_scanned_33 rfl e_X6_42 (zX4_lt zX4_74) (o_X4 zX4_74 v3.2 R) rfl ?_
      refine aw_iload_n (q := 37) dX6_scanned_36 rfl rfl ?_
      obtain ⟨v4, hv4, H⟩ := zbd H
      refine aw_cv (M' := M_X0_blessedOn) (as := [.int x1]) (q := 40) dX6_scanned_37 rfl W_X0_blessedOn k_X6_132 i_X0_blessedOn v_X0_blessedOn (zB_lt0 (zX4_B zX4_74)) (o_X0 (zX4_B zX4_74) v3.2 R) rfl rfl rfl (by decide) (Nat.le_of_ble_eq_true rfl) (c_X0_blessedOn v3.2 R (zX4_B zX4_74) x1 hv4) (Nat.le_refl _) (Nat.le_refl _) ?_
      rintro r9 h9 ⟨rfl, rfl⟩
      obtain ⟨v5, hv5, H⟩ := zbd H
      refine aw_cv (M' := M_X5_scannedChips) (as := [.int v4]) (q := 43) dX6_scanned_40 rfl W_X5_scannedChips k_X6_145 i_X5_scannedChips v_X5_scannedChips (zU_lt (k := 0) (U_X2_suppose hv3) (by decide)) (o_X5 (U_X2_suppose hv3) v3.2 R) rfl rfl rfl (by decide) (Nat.le_of_ble_eq_true rfl) (c_X5_scannedChips v3.2 R (U_X2_suppose hv3) v4 hv5) (Nat.le_refl _) (Nat.le_refl _) ?_
      rintro r9 h9 ⟨rfl, rfl⟩
      cases H
      exact aw_ret dX6_scanned_43 rfl rfl rfl rfl ⟨rfl, rfl⟩
    · replace H := zf h2 H
      refine aw_ldc (q := 17) dX6_scanned_15 rfl q_X6_74 ?_
      cases H
      exact aw_ret dX6_scanned_17 rfl rfl rfl rfl ⟨rfl, rfl⟩
  · replace H := zf h1 H
    refine aw_ldc (q := 17) dX6_scanned_15 rfl q_X6_74 ?_
    cases H
    exact aw_ret dX6_scanned_17 rfl rfl rfl rfl ⟨rfl, rfl⟩
def f_X6_isZeroOrOne (x0 : Int32) : Bool :=
  if x0 = 0 then (
    true
  ) else (
    if x0 = 1 then (
      true
    ) else (
      false
    )
  )
set_option maxHeartbeats 4000000 in
set_option maxRecDepth 100000 in
theorem c_X6_isZeroOrOne {G : zG} {sl : Nat} (h : zH) (x0 : Int32)  : zMv G 0 M_X6_isZeroOrOne [.int x0] sl h (fun r h' => r = some (.int (zb (f_X6_isZeroOrOne x0))) ∧ h' = h) := by
  generalize H : f_X6_isZeroOrOne x0 = r0
  unfold f_X6_isZeroOrOne at H
  refine zMv_of (L := [some (.int x0)]) (by decide) rfl (Nat.le_of_ble_eq_true rfl) rfl ?_
  refine aw_iload_n (q := 1) dX6_isZeroOrOne_0 rfl rfl ?_
  refine aw_if_eq (q := 4) (t := 9) dX6_isZeroOrOne_1 rfl (by decide) (fun h1 => ?_) (fun h1 => ?_)
  · replace H := zt h1 H
    refine aw_iconst (q := 10) (v := 1) dX6_isZeroOrOne_9 rfl (by decide) ?_
    refine aw_goto (q := 14) dX6_isZeroOrOne_10 (by decide) ?_
    subst H
    exact aw_ret dX6_isZeroOrOne_14 rfl rfl rfl rfl ⟨rfl, rfl⟩
  · replace H := zf h1 H
    refine aw_iload_n (q := 5) dX6_isZeroOrOne_4 rfl rfl ?_
    refine aw_iconst (q := 6) (v := 1) dX6_isZeroOrOne_5 rfl (by decide) ?_
    refine aw_icmp_neP (q := 9) (t := 13) dX6_isZeroOrOne_6 rfl (by decide) (fun h2 => ?_) (fun h2 => ?_)
    · replace H := zt h2 H
      refine aw_iconst (q := 10) (v := 1) dX6_isZeroOrOne_9 rfl (by decide) ?_
      refine aw_goto (q := 14) dX6_isZeroOrOne_10 (by decide) ?_
      subst H
      exact aw_ret dX6_isZeroOrOne_14 rfl rfl rfl rfl ⟨rfl, rfl⟩
    · replace H := zf h2 H
      refine aw_iconst (q := 14) (v := 0) dX6_isZeroOrOne_13 rfl (by decide) ?_
      subst H
      exact aw_ret dX6_isZeroOrOne_14 rfl rfl rfl rfl ⟨rfl, rfl⟩
def f_X6_reads (s : zs) (x1 : Int32) (x2 : Int32) (x3 : Int32) (x4 : Int32) : Option (Int32 × zs) :=
  if f_X6_isDay x1 = true then (
    if f_X6_isFaultOrNone s x2 = true then (
      if f_X6_isPin x3 = true then (
        if f_X6_isZeroOrOne x4 = true then (
          Option.bind (f_X2_suppose s (f_X6_suspectFor x2)) fun v5 =>
          Option.bind (f_X0_blessedOn v5.2 (sB 74) x1) fun v6 =>
          Option.bind (f_X5_probe v5.2 v5.1 v6) fun v7 =>
          if f_X6_hasBit (v7.1 v5.1 6) x3 = true then (
            Option.bind (f_X5_pinsAtOne v7 v5.1 x3 x4) fun v9 =>
            some (v9, v7)
          ) else (
            some ((-1000004), v7)
          )
        ) else (
          some ((-1000001), s)
        )
      ) else (
        some ((-1000001), s)
      )
    ) else (
      some ((-1000001), s)
    )
  ) else (
    some ((-1000001), s)
  )
set_option maxHeartbeats 4000000 in
set_option maxRecDepth 100000 in
theorem c_X6_reads {G : zG} {sl : Nat} (s : zs) (R : zr) (x1 : Int32) (x2 : Int32) (x3 : Int32) (x4 : Int32) {v9 : (Int32 × zs)} (H : f_X6_reads s x1 x2 x3 x4 = some v9) : zMv G 5 M_X6_reads [.ref 0, .int x1, .int x2, .int x3, .int x4] sl (zT s R) (fun r h' => r = some (.int v9.1) ∧ h' = zT v9.2 R) := by
  unfold f_X6_reads at H
  refine zMv_of (L := [some (.ref 0), some (.int x1), some (.int x2), some (.int x3), some (.int x4), none]) (by decide) rfl (Nat.le_of_ble_eq_true rfl) rfl ?_
  refine aw_iload_n (q := 1) dX6_reads_0 rfl rfl ?_
  refine aw_cs (M' := M_X6_isDay) (as := [.int x1]) (q := 4) dX6_reads_1 rfl W_X6_isDay k_X6_119 s_X6_isDay rfl rfl (by decide) (Nat.le_of_ble_eq_true rfl) (c_X6_isDay (zT s R) x1) (Nat.le_refl _) (Nat.le_refl _) ?_
  rintro r9 h9 ⟨rfl, rfl⟩
  refine aw_ifeqB (q := 7) (t := 30) dX6_reads_4 rfl (by decide) (fun h1 => ?_) (fun h1 => ?_)
  · replace H := zt h1 H
    refine aw_aload_n (q := 8) dX6_reads_7 rfl rfl ?_
    refine aw_iload_n (q := 9) dX6_reads_8 rfl rfl ?_
    refine aw_cv (M' := M_X6_isFaultOrNone) (as := [.int x2]) (q := 12) dX6_reads_9 rfl W_X6_isFaultOrNone k_X6_122 i_X6_isFaultOrNone v_X6_isFaultOrNone (by decide) (o_X6 s R) rfl rfl rfl (by decide) (Nat.le_of_ble_eq_true rfl) (c_X6_isFaultOrNone s R x2) (Nat.le_refl _) (Nat.le_refl _) ?_
    rintro r9 h9 ⟨rfl, rfl⟩
    refine aw_ifeqB (q := 15) (t := 30) dX6_reads_12 rfl (by decide) (fun h2 => ?_) (fun h2 => ?_)
    · replace H := zt h2 H
      refine aw_iload_n (q := 16) dX6_reads_15 rfl rfl ?_
      refine aw_cs (M' := M_X6_isPin) (as := [.int x3]) (q := 19) dX6_reads_16 rfl W_X6_isPin k_X6_70 s_X6_isPin rfl rfl (by decide) (Nat.le_of_ble_eq_true rfl) (c_X6_isPin (zT s R) x3) (Nat.le_refl _) (Nat.le_refl _) ?_
      rintro r9 h9 ⟨rfl, rfl⟩
      refine aw_ifeqB (q := 22) (t := 30) dX6_reads_19 rfl (by decide) (fun h3 => ?_) (fun h3 => ?_)
      · replace H := zt h3 H
        refine aw_iload (q := 24) dX6_reads_22 rfl rfl ?_
        refine aw_cs (M' := M_X6_isZeroOrOne) (as := [.int x4]) (q := 27) dX6_reads_24 rfl W_X6_isZeroOrOne k_X6_148 s_X6_isZeroOrOne rfl rfl (by decide) (Nat.le_of_ble_eq_true rfl) (c_X6_isZeroOrOne (zT s R) x4) (Nat.le_refl _) (Nat.le_refl _) ?_
        rintro r9 h9 ⟨rfl, rfl⟩
        refine aw_ifneB (q := 30) (t := 33) dX6_reads_27 rfl (by decide) (fun h4 => ?_) (fun h4 => ?_)
        · replace H := zt h4 H
          refine aw_aload_n (q := 34) dX6_reads_33 rfl rfl ?_
          refine aw_getr (q := 37) dX6_reads_34 rfl e_X6_38 (by decide) (o_X6 s R) rfl ?_
          refine aw_iload_n (q := 38) dX6_reads_37 rfl rfl ?_
          refine aw_cs (M' := M_X6_suspectFor) (as := [.int x2]) (q := 41) dX6_reads_38 rfl W_X6_suspectFor k_X6_125 s_X6_suspectFor rfl rfl (by decide) (Nat.le_of_ble_eq_true rfl) (c_X6_suspectFor (zT s R) x2) (Nat.le_refl _) (Nat.le_refl _) ?_
          rintro r9 h9 ⟨rfl, rfl⟩
          obtain ⟨v5, hv5, H⟩ := zbd H
          refine aw_cv (M' := M_X2_suppose) (as := [.int (f_X6_suspectFor x2)]) (q := 44) dX6_reads_41 rfl W_X2_suppose k_X6_128 i_X2_suppose v_X2_suppose (by decide) (o_X2 s R) rfl rfl rfl (by decide) (Nat.le_of_ble_eq_true rfl) (c_X2_suppose s R (f_X6_suspectFor x2) hv5) (Nat.le_refl _) (Nat.le_refl _) ?_
          rintro r9 h9 ⟨rfl, rfl⟩
          refine aw_astore (q := 46) (L' := [some (.ref 0), some (.int x1), some (.int x2), some (.int x3), some (.int x4), some (.ref v5.1)]) dX6_reads_44 rfl (by decide) rfl rfl ?_
          refine aw_aload (q := 48) dX6_reads_46 rfl rfl ?_
          refine aw_aload_n (q := 49) dX6_reads_48 rfl rfl ?_
          refine aw_getr (q := 52) dX6_reads_49 rfl e_X6_31 (by decide) (o_X6 v5.2 R) rfl ?_
          refine aw_getr (q := 55) dX6_reads_52 rfl e_X6_42 (zX4_lt zX4_74) (o_X4 zX4_74 v5.2 R) rfl ?_
          refine aw_iload_n (q := 56) dX6_reads_55 rfl rfl ?_
          obtain ⟨v6, hv6, H⟩ := zbd H
          refine aw_cv (M' := M_X0_blessedOn) (as := [.int x1]) (q := 59) dX6_reads_56 rfl W_X0_blessedOn k_X6_132 i_X0_blessedOn v_X0_blessedOn (zB_lt0 (zX4_B zX4_74)) (o_X0 (zX4_B zX4_74) v5.2 R) rfl rfl rfl (by decide) (Nat.le_of_ble_eq_true rfl) (c_X0_blessedOn v5.2 R (zX4_B zX4_74) x1 hv6) (Nat.le_refl _) (Nat.le_refl _) ?_
          rintro r9 h9 ⟨rfl, rfl⟩
          obtain ⟨v7, hv7, H⟩ := zbd H
          refine aw_cv (M' := M_X5_probe) (as := [.int v6]) (q := 62) dX6_reads_59 rfl W_X5_probe k_X6_135 i_X5_probe v_X5_probe (zU_lt (k := 0) (U_X2_suppose hv5) (by decide)) (o_X5 (U_X2_suppose hv5) v5.2 R) rfl rfl rfl (by decide) (Nat.le_of_ble_eq_true rfl) (c_X5_probe v5.2 R (U_X2_suppose hv5) v6 hv7) (Nat.le_refl _) (Nat.le_refl _) ?_
          rintro r9 h9 ⟨rfl, rfl⟩
          refine aw_aload (q := 64) dX6_reads_62 rfl rfl ?_
          refine aw_getr (q := 67) dX6_reads_64 rfl e_X6_141 (zU_lt (k := 0) (U_X2_suppose hv5) (by decide)) (o_X5 (U_X2_suppose hv5) v7 R) rfl ?_
          refine aw_iload_n (q := 68) dX6_reads_67 rfl rfl ?_
          refine aw_cs (M' := M_X6_hasBit) (as := [.int (v7.1 v5.1 6), .int x3]) (q := 71) dX6_reads_68 rfl W_X6_hasBit k_X6_99 s_X6_hasBit rfl rfl (by decide) (Nat.le_of_ble_eq_true rfl) (c_X6_hasBit (zT v7 R) (v7.1 v5.1 6) x3) (Nat.le_refl _) (Nat.le_refl _) ?_
          rintro r9 h9 ⟨rfl, rfl⟩
          refine aw_ifeqB (q := 74) (t := 85) dX6_reads_71 rfl (by decide) (fun h8 => ?_) (fun h8 => ?_)
          · replace H := zt h8 H
            refine aw_aload (q := 76) dX6_reads_74 rfl rfl ?_
            refine aw_iload_n (q := 77) dX6_reads_76 rfl rfl ?_
            refine aw_iload (q := 79) dX6_reads_77 rfl rfl ?_
            obtain ⟨v9, hv9, H⟩ := zbd H
            refine aw_cv (M' := M_X5_pinsAtOne) (as := [.int x3, .int x4]) (q := 82) dX6_reads_79 rfl W_X5_pinsAtOne k_X6_151 i_X5_pinsAtOne v_X5_pinsAtOne (zU_lt (k := 0) (U_X2_suppose hv5) (by decide)) (o_X5 (U_X2_suppose hv5) v7 R) rfl rfl rfl (by decide) (Nat.le_of_ble_eq_true rfl) (c_X5_pinsAtOne v7 R (U_X2_suppose hv5) x3 x4 hv9) (Nat.le_refl _) (Nat.le_refl _) ?_
            rintro r9 h9 ⟨rfl, rfl⟩
            refine aw_goto (q := 87) dX6_reads_82 (by decide) ?_
            cases H
            exact aw_ret dX6_reads_87 rfl rfl rfl rfl ⟨rfl, rfl⟩
          · replace H := zf h8 H
            refine aw_ldc (q := 87) dX6_reads_85 rfl q_X6_115 ?_
            cases H
            exact aw_ret dX6_reads_87 rfl rfl rfl rfl ⟨rfl, rfl⟩
        · replace H := zf h4 H
          refine aw_ldc (q := 32) dX6_reads_30 rfl q_X6_74 ?_
          cases H
          exact aw_ret dX6_reads_32 rfl rfl rfl rfl ⟨rfl, rfl⟩
      · replace H := zf h3 H
        refine aw_ldc (q := 32) dX6_reads_30 rfl q_X6_74 ?_
        cases H
        exact aw_ret dX6_reads_32 rfl rfl rfl rfl ⟨rfl, rfl⟩
    · replace H := zf h2 H
      refine aw_ldc (q := 32) dX6_reads_30 rfl q_X6_74 ?_
      cases H
      exact aw_ret dX6_reads_32 rfl rfl rfl rfl ⟨rfl, rfl⟩
  · replace H := zf h1 H
    refine aw_ldc (q := 32) dX6_reads_30 rfl q_X6_74 ?_
    cases H
    exact aw_ret dX6_reads_32 rfl rfl rfl rfl ⟨rfl, rfl⟩
def f_X6_daysOf (s : zs) (x1 : Int32) : Option (Int32 × zs) :=
  if f_X0_isFault s (sB 74) x1 = true then (
    Option.bind (f_X2_measureWeek s) fun v2 =>
    Option.bind (f_X2_daysUnlike v2 x1 10) fun v3 =>
    some (v3, v2)
  ) else (
    some ((-1000001), s)
  )
set_option maxHeartbeats 4000000 in
set_option maxRecDepth 100000 in
theorem c_X6_daysOf {G : zG} {sl : Nat} (s : zs) (R : zr) (x1 : Int32) {v9 : (Int32 × zs)} (H : f_X6_daysOf s x1 = some v9) : zMv G 6 M_X6_daysOf [.ref 0, .int x1] sl (zT s R) (fun r h' => r = some (.int v9.1) ∧ h' = zT v9.2 R) := by
  unfold f_X6_daysOf at H
  refine zMv_of (L := [some (.ref 0), some (.int x1)]) (by decide) rfl (Nat.le_of_ble_eq_true rfl) rfl ?_
  refine aw_aload_n (q := 1) dX6_daysOf_0 rfl rfl ?_
  refine aw_getr (q := 4) dX6_daysOf_1 rfl e_X6_31 (by decide) (o_X6 s R) rfl ?_
  refine aw_getr (q := 7) dX6_daysOf_4 rfl e_X6_42 (zX4_lt zX4_74) (o_X4 zX4_74 s R) rfl ?_
  refine aw_iload_n (q := 8) dX6_daysOf_7 rfl rfl ?_
  refine aw_cv (M' := M_X0_isFault) (as := [.int x1]) (q := 11) dX6_daysOf_8 rfl W_X0_isFault k_X6_103 i_X0_isFault v_X0_isFault (zB_lt0 (zX4_B zX4_74)) (o_X0 (zX4_B zX4_74) s R) rfl rfl rfl (by decide) (Nat.le_of_ble_eq_true rfl) (c_X0_isFault s R (zX4_B zX4_74) x1) (Nat.le_refl _) (Nat.le_refl _) ?_
  rintro r9 h9 ⟨rfl, rfl⟩
  refine aw_ifneB (q := 14) (t := 17) dX6_daysOf_11 rfl (by decide) (fun h1 => ?_) (fun h1 => ?_)
  · replace H := zt h1 H
    refine aw_aload_n (q := 18) dX6_daysOf_17 rfl rfl ?_
    refine aw_getr (q := 21) dX6_daysOf_18 rfl e_X6_38 (by decide) (o_X6 s R) rfl ?_
    obtain ⟨v2, hv2, H⟩ := zbd H
    refine aw_cv (M' := M_X2_measureWeek) (as := []) (q := 24) dX6_daysOf_21 rfl W_X2_measureWeek k_X6_154 i_X2_measureWeek v_X2_measureWeek (by decide) (o_X2 s R) rfl rfl rfl (by decide) (Nat.le_of_ble_eq_true rfl) (c_X2_measureWeek s R hv2) (Nat.le_refl _) (Nat.le_refl _) ?_
    rintro r9 h9 ⟨rfl, rfl⟩
    refine aw_aload_n (q := 25) dX6_daysOf_24 rfl rfl ?_
    refine aw_getr (q := 28) dX6_daysOf_25 rfl e_X6_38 (by decide) (o_X6 v2 R) rfl ?_
    refine aw_iload_n (q := 29) dX6_daysOf_28 rfl rfl ?_
    refine aw_bipush (q := 31) (v := 10) dX6_daysOf_29 rfl (by decide) ?_
    obtain ⟨v3, hv3, H⟩ := zbd H
    refine aw_cv (M' := M_X2_daysUnlike) (as := [.int x1, .int 10]) (q := 34) dX6_daysOf_31 rfl W_X2_daysUnlike k_X6_157 i_X2_daysUnlike v_X2_daysUnlike (by decide) (o_X2 v2 R) rfl rfl rfl (by decide) (Nat.le_of_ble_eq_true rfl) (c_X2_daysUnlike v2 R x1 10 hv3) (Nat.le_refl _) (Nat.le_refl _) ?_
    rintro r9 h9 ⟨rfl, rfl⟩
    cases H
    exact aw_ret dX6_daysOf_34 rfl rfl rfl rfl ⟨rfl, rfl⟩
  · replace H := zf h1 H
    refine aw_ldc (q := 16) dX6_daysOf_14 rfl q_X6_74 ?_
    cases H
    exact aw_ret dX6_daysOf_16 rfl rfl rfl rfl ⟨rfl, rfl⟩
