def f_X6_count (s : zs) (x1 : Int32) : Option (Int32 × zs) :=
  if x1 = 0 then (
    some (s.1 (sB 74) 9, s)
  ) else (
    if x1 = 1 then (
      some (s.1 (sB 74) 10, s)
    ) else (
      if x1 = 2 then (
        some (s.1 (sB 74) 11, s)
      ) else (
        if x1 = 3 then (
          some (s.1 74 2, s)
        ) else (
          if x1 = 4 then (
            some (f_X4_weekday s 74, s)
          ) else (
            if x1 = 5 then (
              some (s.1 74 5, s)
            ) else (
              if x1 = 6 then (
                Option.bind (f_X4_touchedNow s 74) fun v17 =>
                some (f_J6_bitCount_0f7a4 v17, s)
              ) else (
                if x1 = 7 then (
                  Option.bind (f_X6_reachedNow s) fun v18 =>
                  some (v18.1, v18.2)
                ) else (
                  if x1 = 8 then (
                    some (s.1 74 7, s)
                  ) else (
                    if x1 = 9 then (
                      some (s.1 1 1, s)
                    ) else (
                      if x1 = 10 then (
                        some (s.1 51 3, s)
                      ) else (
                        if x1 = 11 then (
                          Option.bind (f_X4_filedIn s 74 (x1 - 11)) fun v19 =>
                          some (v19, s)
                        ) else (
                          if x1 = 12 then (
                            Option.bind (f_X4_filedIn s 74 (x1 - 11)) fun v20 =>
                            some (v20, s)
                          ) else (
                            if x1 = 13 then (
                              Option.bind (f_X4_filedIn s 74 (x1 - 11)) fun v21 =>
                              some (v21, s)
                            ) else (
                              if x1 = 14 then (
                                Option.bind (f_X4_filedIn s 74 (x1 - 11)) fun v22 =>
                                some (v22, s)
                              ) else (
                                if x1 = 15 then (
                                  Option.bind (f_X4_filedIn s 74 (x1 - 11)) fun v23 =>
                                  some (v23, s)
                                ) else (
                                  some ((-1000001), s)
                                )
                              )
                            )
                          )
                        )
                      )
                    )
                  )
                )
              )
            )
          )
        )
      )
    )
  )
set_option maxHeartbeats 4000000 in
set_option maxRecDepth 100000 in
theorem c_X6_count {G : zG} {sl : Nat} (s : zs) (R : zr) (x1 : Int32) {v9 : (Int32 × zs)} (H : f_X6_count s x1 = some v9) : zMv G 6 M_X6_count [.ref 0, .int x1] sl (zT s R) (fun r h' => r = some (.int v9.1) ∧ h' = zT v9.2 R) := by
  unfold f_X6_count at H
  refine zMv_of (L := [some (.ref 0), some (.int x1)]) (by decide) rfl (Nat.le_of_ble_eq_true rfl) rfl ?_
  refine aw_iload_n (q := 1) dX6_count_0 rfl rfl ?_
  by_cases h1 : x1 = 0
  · replace H := zt h1 H
    refine aw_tabIn (q := 80) (off := 79) dX6_count_1 (by rw [h1]; decide) (by rw [h1]; decide) (by rw [h1]; rfl) (by decide) ?_
    refine aw_aload_n (q := 81) dX6_count_80 rfl rfl ?_
    refine aw_getr (q := 84) dX6_count_81 rfl e_X6_31 (by decide) (o_X6 s R) rfl ?_
    refine aw_getr (q := 87) dX6_count_84 rfl e_X6_42 (zX4_lt zX4_74) (o_X4 zX4_74 s R) rfl ?_
    refine aw_getr (q := 90) dX6_count_87 rfl e_X6_226 (zB_lt0 (zX4_B zX4_74)) (o_X0 (zX4_B zX4_74) s R) rfl ?_
    cases H
    exact aw_ret dX6_count_90 rfl rfl rfl rfl ⟨rfl, rfl⟩
  · replace H := zf h1 H
    by_cases h2 : x1 = 1
    · replace H := zt h2 H
      refine aw_tabIn (q := 91) (off := 90) dX6_count_1 (by rw [h2]; decide) (by rw [h2]; decide) (by rw [h2]; rfl) (by decide) ?_
      refine aw_aload_n (q := 92) dX6_count_91 rfl rfl ?_
      refine aw_getr (q := 95) dX6_count_92 rfl e_X6_31 (by decide) (o_X6 s R) rfl ?_
      refine aw_getr (q := 98) dX6_count_95 rfl e_X6_42 (zX4_lt zX4_74) (o_X4 zX4_74 s R) rfl ?_
      refine aw_getr (q := 101) dX6_count_98 rfl e_X6_229 (zB_lt0 (zX4_B zX4_74)) (o_X0 (zX4_B zX4_74) s R) rfl ?_
      cases H
      exact aw_ret dX6_count_101 rfl rfl rfl rfl ⟨rfl, rfl⟩
    · replace H := zf h2 H
      by_cases h3 : x1 = 2
      · replace H := zt h3 H
        refine aw_tabIn (q := 102) (off := 101) dX6_count_1 (by rw [h3]; decide) (by rw [h3]; decide) (by rw [h3]; rfl) (by decide) ?_
        refine aw_aload_n (q := 103) dX6_count_102 rfl rfl ?_
        refine aw_getr (q := 106) dX6_count_103 rfl e_X6_31 (by decide) (o_X6 s R) rfl ?_
        refine aw_getr (q := 109) dX6_count_106 rfl e_X6_42 (zX4_lt zX4_74) (o_X4 zX4_74 s R) rfl ?_
        refine aw_getr (q := 112) dX6_count_109 rfl e_X6_163 (zB_lt0 (zX4_B zX4_74)) (o_X0 (zX4_B zX4_74) s R) rfl ?_
        cases H
        exact aw_ret dX6_count_112 rfl rfl rfl rfl ⟨rfl, rfl⟩
      · replace H := zf h3 H
        by_cases h4 : x1 = 3
        · replace H := zt h4 H
          refine aw_tabIn (q := 113) (off := 112) dX6_count_1 (by rw [h4]; decide) (by rw [h4]; decide) (by rw [h4]; rfl) (by decide) ?_
          refine aw_aload_n (q := 114) dX6_count_113 rfl rfl ?_
          refine aw_getr (q := 117) dX6_count_114 rfl e_X6_31 (by decide) (o_X6 s R) rfl ?_
          refine aw_getr (q := 120) dX6_count_117 rfl e_X6_214 (zX4_lt zX4_74) (o_X4 zX4_74 s R) rfl ?_
          cases H
          exact aw_ret dX6_count_120 rfl rfl rfl rfl ⟨rfl, rfl⟩
        · replace H := zf h4 H
          by_cases h5 : x1 = 4
          · replace H := zt h5 H
            refine aw_tabIn (q := 121) (off := 120) dX6_count_1 (by rw [h5]; decide) (by rw [h5]; decide) (by rw [h5]; rfl) (by decide) ?_
            refine aw_aload_n (q := 122) dX6_count_121 rfl rfl ?_
            refine aw_getr (q := 125) dX6_count_122 rfl e_X6_31 (by decide) (o_X6 s R) rfl ?_
            refine aw_cv (M' := M_X4_weekday) (as := []) (q := 128) dX6_count_125 rfl W_X4_weekday k_X6_217 i_X4_weekday v_X4_weekday (zX4_lt zX4_74) (o_X4 zX4_74 s R) rfl rfl rfl (by decide) (Nat.le_of_ble_eq_true rfl) (c_X4_weekday s R zX4_74) (Nat.le_refl _) (Nat.le_refl _) ?_
            rintro r9 h9 ⟨rfl, rfl⟩
            cases H
            exact aw_ret dX6_count_128 rfl rfl rfl rfl ⟨rfl, rfl⟩
          · replace H := zf h5 H
            by_cases h6 : x1 = 5
            · replace H := zt h6 H
              refine aw_tabIn (q := 129) (off := 128) dX6_count_1 (by rw [h6]; decide) (by rw [h6]; decide) (by rw [h6]; rfl) (by decide) ?_
              refine aw_aload_n (q := 130) dX6_count_129 rfl rfl ?_
              refine aw_getr (q := 133) dX6_count_130 rfl e_X6_31 (by decide) (o_X6 s R) rfl ?_
              refine aw_getr (q := 136) dX6_count_133 rfl e_X6_207 (zX4_lt zX4_74) (o_X4 zX4_74 s R) rfl ?_
              cases H
              exact aw_ret dX6_count_136 rfl rfl rfl rfl ⟨rfl, rfl⟩
            · replace H := zf h6 H
              by_cases h7 : x1 = 6
              · replace H := zt h7 H
                refine aw_tabIn (q := 137) (off := 136) dX6_count_1 (by rw [h7]; decide) (by rw [h7]; decide) (by rw [h7]; rfl) (by decide) ?_
                refine aw_aload_n (q := 138) dX6_count_137 rfl rfl ?_
                refine aw_getr (q := 141) dX6_count_138 rfl e_X6_31 (by decide) (o_X6 s R) rfl ?_
                obtain ⟨v17, hv17, H⟩ := zbd H
                refine aw_cv (M' := M_X4_touchedNow) (as := []) (q := 144) dX6_count_141 rfl W_X4_touchedNow k_X6_95 i_X4_touchedNow v_X4_touchedNow (zX4_lt zX4_74) (o_X4 zX4_74 s R) rfl rfl rfl (by decide) (Nat.le_of_ble_eq_true rfl) (c_X4_touchedNow s R zX4_74 hv17) (Nat.le_refl _) (Nat.le_refl _) ?_
                rintro r9 h9 ⟨rfl, rfl⟩
                refine aw_cs (M' := M_J6_bitCount_0f7a4) (as := [.int v17]) (q := 147) dX6_count_144 rfl W_J6_bitCount_0f7a4 k_X6_186 s_J6_bitCount_0f7a4 rfl rfl (by decide) (Nat.le_of_ble_eq_true rfl) (c_J6_bitCount_0f7a4 (zT s R) v17) (Nat.le_refl _) (Nat.le_refl _) ?_
                rintro r9 h9 ⟨rfl, rfl⟩
                cases H
                exact aw_ret dX6_count_147 rfl rfl rfl rfl ⟨rfl, rfl⟩
              · replace H := zf h7 H
                by_cases h8 : x1 = 7
                · replace H := zt h8 H
                  refine aw_tabIn (q := 148) (off := 147) dX6_count_1 (by rw [h8]; decide) (by rw [h8]; decide) (by rw [h8]; rfl) (by decide) ?_
                  refine aw_aload_n (q := 149) dX6_count_148 rfl rfl ?_
                  obtain ⟨v18, hv18, H⟩ := zbd H
                  refine aw_cv (M' := M_X6_reachedNow) (as := []) (q := 152) dX6_count_149 rfl W_X6_reachedNow k_X6_232 i_X6_reachedNow v_X6_reachedNow (by decide) (o_X6 s R) rfl rfl rfl (by decide) (Nat.le_of_ble_eq_true rfl) (c_X6_reachedNow s R hv18) (Nat.le_refl _) (Nat.le_refl _) ?_
                  rintro r9 h9 ⟨rfl, rfl⟩
                  cases H
                  exact aw_ret dX6_count_152 rfl rfl rfl rfl ⟨rfl, rfl⟩
                · replace H := zf h8 H
                  by_cases h9 : x1 = 8
                  · replace H := zt h9 H
                    refine aw_tabIn (q := 153) (off := 152) dX6_count_1 (by rw [h9]; decide) (by rw [h9]; decide) (by rw [h9]; rfl) (by decide) ?_
                    refine aw_aload_n (q := 154) dX6_count_153 rfl rfl ?_
                    refine aw_getr (q := 157) dX6_count_154 rfl e_X6_31 (by decide) (o_X6 s R) rfl ?_
                    refine aw_getr (q := 160) dX6_count_157 rfl e_X6_200 (zX4_lt zX4_74) (o_X4 zX4_74 s R) rfl ?_
                    cases H
                    exact aw_ret dX6_count_160 rfl rfl rfl rfl ⟨rfl, rfl⟩
                  · replace H := zf h9 H
                    by_cases h10 : x1 = 9
                    · replace H := zt h10 H
                      refine aw_tabIn (q := 161) (off := 160) dX6_count_1 (by rw [h10]; decide) (by rw [h10]; decide) (by rw [h10]; rfl) (by decide) ?_
                      refine aw_aload_n (q := 162) dX6_count_161 rfl rfl ?_
                      refine aw_getr (q := 165) dX6_count_162 rfl e_X6_12 (by decide) (o_X6 s R) rfl ?_
                      refine aw_getr (q := 168) dX6_count_165 rfl e_X6_235 (by decide) (o_X1 s R) rfl ?_
                      cases H
                      exact aw_ret dX6_count_168 rfl rfl rfl rfl ⟨rfl, rfl⟩
                    · replace H := zf h10 H
                      by_cases h11 : x1 = 10
                      · replace H := zt h11 H
                        refine aw_tabIn (q := 169) (off := 168) dX6_count_1 (by rw [h11]; decide) (by rw [h11]; decide) (by rw [h11]; rfl) (by decide) ?_
                        refine aw_aload_n (q := 170) dX6_count_169 rfl rfl ?_
                        refine aw_getr (q := 173) dX6_count_170 rfl e_X6_19 (by decide) (o_X6 s R) rfl ?_
                        refine aw_getr (q := 176) dX6_count_173 rfl e_X6_238 (by decide) (o_X3 s R) rfl ?_
                        cases H
                        exact aw_ret dX6_count_176 rfl rfl rfl rfl ⟨rfl, rfl⟩
                      · replace H := zf h11 H
                        by_cases h12 : x1 = 11
                        · replace H := zt h12 H
                          refine aw_tabIn (q := 177) (off := 176) dX6_count_1 (by rw [h12]; decide) (by rw [h12]; decide) (by rw [h12]; rfl) (by decide) ?_
                          refine aw_aload_n (q := 178) dX6_count_177 rfl rfl ?_
                          refine aw_getr (q := 181) dX6_count_178 rfl e_X6_31 (by decide) (o_X6 s R) rfl ?_
                          refine aw_iload_n (q := 182) dX6_count_181 rfl rfl ?_
                          refine aw_bipush (q := 184) (v := 11) dX6_count_182 rfl (by decide) ?_
                          refine aw_isub (q := 185) dX6_count_184 rfl ?_
                          obtain ⟨v19, hv19, H⟩ := zbd H
                          refine aw_cv (M' := M_X4_filedIn) (as := [.int (x1 - 11)]) (q := 188) dX6_count_185 rfl W_X4_filedIn k_X6_223 i_X4_filedIn v_X4_filedIn (zX4_lt zX4_74) (o_X4 zX4_74 s R) rfl rfl rfl (by decide) (Nat.le_of_ble_eq_true rfl) (c_X4_filedIn s R zX4_74 (x1 - 11) hv19) (Nat.le_refl _) (Nat.le_refl _) ?_
                          rintro r9 h9 ⟨rfl, rfl⟩
                          cases H
                          exact aw_ret dX6_count_188 rfl rfl rfl rfl ⟨rfl, rfl⟩
                        · replace H := zf h12 H
                          by_cases h13 : x1 = 12
                          · replace H := zt h13 H
                            refine aw_tabIn (q := 177) (off := 176) dX6_count_1 (by rw [h13]; decide) (by rw [h13]; decide) (by rw [h13]; rfl) (by decide) ?_
                            refine aw_aload_n (q := 178) dX6_count_177 rfl rfl ?_
                            refine aw_getr (q := 181) dX6_count_178 rfl e_X6_31 (by decide) (o_X6 s R) rfl ?_
                            refine aw_iload_n (q := 182) dX6_count_181 rfl rfl ?_
                            refine aw_bipush (q := 184) (v := 11) dX6_count_182 rfl (by decide) ?_
                            refine aw_isub (q := 185) dX6_count_184 rfl ?_
                            obtain ⟨v20, hv20, H⟩ := zbd H
                            refine aw_cv (M' := M_X4_filedIn) (as := [.int (x1 - 11)]) (q := 188) dX6_count_185 rfl W_X4_filedIn k_X6_223 i_X4_filedIn v_X4_filedIn (zX4_lt zX4_74) (o_X4 zX4_74 s R) rfl rfl rfl (by decide) (Nat.le_of_ble_eq_true rfl) (c_X4_filedIn s R zX4_74 (x1 - 11) hv20) (Nat.le_refl _) (Nat.le_refl _) ?_
                            rintro r9 h9 ⟨rfl, rfl⟩
                            cases H
                            exact aw_ret dX6_count_188 rfl rfl rfl rfl ⟨rfl, rfl⟩
                          · replace H := zf h13 H
                            by_cases h14 : x1 = 13
                            · replace H := zt h14 H
                              refine aw_tabIn (q := 177) (off := 176) dX6_count_1 (by rw [h14]; decide) (by rw [h14]; decide) (by rw [h14]; rfl) (by decide) ?_
                              refine aw_aload_n (q := 178) dX6_count_177 rfl rfl ?_
                              refine aw_getr (q := 181) dX6_count_178 rfl e_X6_31 (by decide) (o_X6 s R) rfl ?_
                              refine aw_iload_n (q := 182) dX6_count_181 rfl rfl ?_
                              refine aw_bipush (q := 184) (v := 11) dX6_count_182 rfl (by decide) ?_
                              refine aw_isub (q := 185) dX6_count_184 rfl ?_
                              obtain ⟨v21, hv21, H⟩ := zbd H
                              refine aw_cv (M' := M_X4_filedIn) (as := [.int (x1 - 11)]) (q := 188) dX6_count_185 rfl W_X4_filedIn k_X6_223 i_X4_filedIn v_X4_filedIn (zX4_lt zX4_74) (o_X4 zX4_74 s R) rfl rfl rfl (by decide) (Nat.le_of_ble_eq_true rfl) (c_X4_filedIn s R zX4_74 (x1 - 11) hv21) (Nat.le_refl _) (Nat.le_refl _) ?_
                              rintro r9 h9 ⟨rfl, rfl⟩
                              cases H
                              exact aw_ret dX6_count_188 rfl rfl rfl rfl ⟨rfl, rfl⟩
                            · replace H := zf h14 H
                              by_cases h15 : x1 = 14
                              · replace H := zt h15 H
                                refine aw_tabIn (q := 177) (off := 176) dX6_count_1 (by rw [h15]; decide) (by rw [h15]; decide) (by rw [h15]; rfl) (by decide) ?_
                                refine aw_aload_n (q := 178) dX6_count_177 rfl rfl ?_
                                refine aw_getr (q := 181) dX6_count_178 rfl e_X6_31 (by decide) (o_X6 s R) rfl ?_
                                refine aw_iload_n (q := 182) dX6_count_181 rfl rfl ?_
                                refine aw_bipush (q := 184) (v := 11) dX6_count_182 rfl (by decide) ?_
                                refine aw_isub (q := 185) dX6_count_184 rfl ?_
                                obtain ⟨v22, hv22, H⟩ := zbd H
                                refine aw_cv (M' := M_X4_filedIn) (as := [.int (x1 - 11)]) (q := 188) dX6_count_185 rfl W_X4_filedIn k_X6_223 i_X4_filedIn v_X4_filedIn (zX4_lt zX4_74) (o_X4 zX4_74 s R) rfl rfl rfl (by decide) (Nat.le_of_ble_eq_true rfl) (c_X4_filedIn s R zX4_74 (x1 - 11) hv22) (Nat.le_refl _) (Nat.le_refl _) ?_
                                rintro r9 h9 ⟨rfl, rfl⟩
                                cases H
                                exact aw_ret dX6_count_188 rfl rfl rfl rfl ⟨rfl, rfl⟩
                              · replace H := zf h15 H
                                by_cases h16 : x1 = 15
                                · replace H := zt h16 H
                                  refine aw_tabIn (q := 177) (off := 176) dX6_count_1 (by rw [h16]; decide) (by rw [h16]; decide) (by rw [h16]; rfl) (by decide) ?_
                                  refine aw_aload_n (q := 178) dX6_count_177 rfl rfl ?_
                                  refine aw_getr (q := 181) dX6_count_178 rfl e_X6_31 (by decide) (o_X6 s R) rfl ?_
                                  refine aw_iload_n (q := 182) dX6_count_181 rfl rfl ?_
                                  refine aw_bipush (q := 184) (v := 11) dX6_count_182 rfl (by decide) ?_
                                  refine aw_isub (q := 185) dX6_count_184 rfl ?_
                                  obtain ⟨v23, hv23, H⟩ := zbd H
                                  refine aw_cv (M' := M_X4_filedIn) (as := [.int (x1 - 11)]) (q := 188) dX6_count_185 rfl W_X4_filedIn k_X6_223 i_X4_filedIn v_X4_filedIn (zX4_lt zX4_74) (o_X4 zX4_74 s R) rfl rfl rfl (by decide) (Nat.le_of_ble_eq_true rfl) (c_X4_filedIn s R zX4_74 (x1 - 11) hv23) (Nat.le_refl _) (Nat.le_refl _) ?_
                                  rintro r9 h9 ⟨rfl, rfl⟩
                                  cases H
                                  exact aw_ret dX6_count_188 rfl rfl rfl rfl ⟨rfl, rfl⟩
                                · replace H := zf h16 H
                                  refine aw_tabOut (q := 189) dX6_count_1 (by have w0 : ¬ x1.toInt = 0 := zne h1; have w1 : ¬ x1.toInt = 1 := zne h2; have w2 : ¬ x1.toInt = 2 := zne h3; have w3 : ¬ x1.toInt = 3 := zne h4; have w4 : ¬ x1.toInt = 4 := zne h5; have w5 : ¬ x1.toInt = 5 := zne h6; have w6 : ¬ x1.toInt = 6 := zne h7; have w7 : ¬ x1.toInt = 7 := zne h8; have w8 : ¬ x1.toInt = 8 := zne h9; have w9 : ¬ x1.toInt = 9 := zne h10; have w10 : ¬ x1.toInt = 10 := zne h11; have w11 : ¬ x1.toInt = 11 := zne h12; have w12 : ¬ x1.toInt = 12 := zne h13; have w13 : ¬ x1.toInt = 13 := zne h14; have w14 : ¬ x1.toInt = 14 := zne h15; have w15 : ¬ x1.toInt = 15 := zne h16; omega) (by decide) ?_
                                  refine aw_ldc (q := 191) dX6_count_189 rfl q_X6_74 ?_
                                  cases H
                                  exact aw_ret dX6_count_191 rfl rfl rfl rfl ⟨rfl, rfl⟩
def f_X6_undo (s : zs) : Option (Int32 × zs) :=
  if (s.1 1 1) = 0 then (
    some ((-1000002), s)
  ) else (
    Option.bind (f_X1_restore s 74) fun v2 =>
    some (v2.1 1 1, v2)
  )
set_option maxHeartbeats 4000000 in
set_option maxRecDepth 100000 in
theorem c_X6_undo {G : zG} {sl : Nat} (s : zs) (R : zr)  {v9 : (Int32 × zs)} (H : f_X6_undo s = some v9) : zMv G 5 M_X6_undo [.ref 0] sl (zT s R) (fun r h' => r = some (.int v9.1) ∧ h' = zT v9.2 R) := by
  unfold f_X6_undo at H
  refine zMv_of (L := [some (.ref 0)]) (by decide) rfl (Nat.le_of_ble_eq_true rfl) rfl ?_
  refine aw_aload_n (q := 1) dX6_undo_0 rfl rfl ?_
  refine aw_getr (q := 4) dX6_undo_1 rfl e_X6_12 (by decide) (o_X6 s R) rfl ?_
  refine aw_getr (q := 7) dX6_undo_4 rfl e_X6_235 (by decide) (o_X1 s R) rfl ?_
  refine aw_if_neP (q := 10) (t := 13) dX6_undo_7 rfl (by decide) (fun h1 => ?_) (fun h1 => ?_)
  · replace H := zt h1 H
    refine aw_ldc (q := 12) dX6_undo_10 rfl q_X6_206 ?_
    cases H
    exact aw_ret dX6_undo_12 rfl rfl rfl rfl ⟨rfl, rfl⟩
  · replace H := zf h1 H
    refine aw_aload_n (q := 14) dX6_undo_13 rfl rfl ?_
    refine aw_getr (q := 17) dX6_undo_14 rfl e_X6_12 (by decide) (o_X6 s R) rfl ?_
    refine aw_aload_n (q := 18) dX6_undo_17 rfl rfl ?_
    refine aw_getr (q := 21) dX6_undo_18 rfl e_X6_31 (by decide) (o_X6 s R) rfl ?_
    obtain ⟨v2, hv2, H⟩ := zbd H
    refine aw_cv (M' := M_X1_restore) (as := [.ref 74]) (q := 24) dX6_undo_21 rfl W_X1_restore k_X6_241 i_X1_restore v_X1_restore (by decide) (o_X1 s R) rfl rfl rfl (by decide) (Nat.le_of_ble_eq_true rfl) (c_X1_restore s R zX4_74 hv2) (Nat.le_refl _) (Nat.le_refl _) ?_
    rintro r9 h9 ⟨rfl, rfl⟩
    refine aw_aload_n (q := 25) dX6_undo_24 rfl rfl ?_
    refine aw_getr (q := 28) dX6_undo_25 rfl e_X6_12 (by decide) (o_X6 v2 R) rfl ?_
    refine aw_getr (q := 31) dX6_undo_28 rfl e_X6_235 (by decide) (o_X1 v2 R) rfl ?_
    cases H
    exact aw_ret dX6_undo_31 rfl rfl rfl rfl ⟨rfl, rfl⟩

