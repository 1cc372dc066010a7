def f_X6_count (s : zs) (x1 : Int32) : Option (Int32 × zs) :=
  if x1 = 0 then (
    some (s.1 (sB 74) 9, s)
  ) else (
    if x1 = 1 then (
      some (s.1 (sB 74) 10, s)
    ) else (
      if x1 = 2 then (
        some (s.1 (sB 74) 11, s)
      ) else (
        if x1 = 3 then (
          some (s.1 74 2, s)
        ) else (
          if x1 = 4 then (
            some (f_X4_weekday s 74, s)
          ) else (
            if x1 = 5 then (
              some (s.1 74 5, s)
            ) else (
              if x1 = 6 then (
                Option.bind (f_X4_touchedNow s 74) fun v17 =>
                some (f_J6_bitCount_0f7a4 v17, s)
              ) else (
                if x1 = 7 then (
                  Option.bind (f_X6_reachedNow s) fun v18 =>
                  some (v18.1, v18.2)
                ) else (
                  if x1 = 8 then (
                    some (s.1 74 7, s)
                  ) else (
                    if x1 = 9 then (
                      some (s.1 1 1, s)
                    ) else (
                      if x1 = 10 then (
                        some (s.1 51 3, s)
                      ) else (
                        if x1 = 11 then (
                          Option.bind (f_X4_filedIn s 74 (x1 - 11)) fun v19 =>
                          some (v19, s)
                        ) else (
                          if x1 = 12 then (
                            Option.bind (f_X4_filedIn s 74 (x1 - 11)) fun v20 =>
                            some (v20, s)
                          ) else (
                            if x1 = 13 then (
                              Option.bind (f_X4_filedIn s 74 (x1 - 11)) fun v21 =>
                              some (v21, s)
                            ) else (
                              if x1 = 14 then (
                                Option.bind (f_X4_filedIn s 74 (x1 - 11)) fun v22 =>
                                some (v22, s)
                              ) else (
                                if x1 = 15 then (
                                  Option.bind (f_X4_filedIn s 74 (x1 - 11)) fun v23 =>
                                  some (v23, s)
                                ) else (
                                  some ((-1000001), s)
                                )
                              )
                            )
                          )
                        )
                      )
                    )
                  )
                )
              )
            )
          )
        )
      )
    )
  )
set_option maxHeartbeats 4000000 in
set_option maxRecDepth 100000 in
theorem c_X6_count {G : zG} {sl : Nat} (s : zs) (R : zr) (x1 : Int32) {v9 : (Int32 × zs)} (H : f_X6_count s x1 = some v9) : zMv G 6 M_X6_count [.ref 0, .int x1] sl (zT s R) (fun r h' => r = some (.int v9.1) ∧ h' = zT v9.2 R) := by
  unfold f_X6_count at H
  refine zMv_of (L := [some (.ref 0), some (.int x1)]) (by decide) rfl (Nat.le_of_ble_eq_true rfl) rfl ?_
  refine aw_iload_n (q := 1) dX6_count_0 rfl rfl ?_
  by_cases h1 : x1 = 0
  · replace H := zt h1 H
    refine aw_tabIn (q := 80) (off := 79) dX6_count_1 (by rw [h1]; decide) (by rw [h1]; decide) (by rw [h1]; rfl) (by decide) ?_
    refine aw_aload_n (q := 81) dX6_count_80 rfl rfl ?_
    refine aw_getr (q := 84) dX6_count_81 rfl e_X6_31 (by decide) (o_X6 s R) rfl ?_
    refine aw_getr (q := 87) dX6_count_84 rfl e_X6_42 (zX4_lt zX4_74) (o_X4 zX4_74 s R) rfl ?_
    refine aw_getr (q := 90) dX6_count_87 rfl e_X6_226 (zB_lt0 (zX4_B zX4_74)) (o_X0 (zX4_B zX4_74) s R) rfl ?_
    cases H
    exact aw_ret dX6_count_90 rfl rfl rfl rfl ⟨rfl, rfl⟩
  · replace H := zf h1 H
    by_cases h2 : x1 = 1
    · replace H := zt h2 H
      refine aw_tabIn (q := 91) (off := 90) dX6_count_1 (by rw [h2]; decide) (by rw [h2]; decide) (by rw [h2]; rfl) (by decide) ?_
      refine aw_aload_n (q := 92) dX6_count_91 rfl rfl ?_
      refine aw_getr (q := 95) dX6_count_92 rfl e_X6_31 (by decide) (o_X6 s R) rfl ?_
      refine aw_getr (q := 98) dX6_count_95 rfl e_X6_42 (zX4_lt zX4_74) (o_X4 zX4_74 s R) rfl ?_
      refine aw_getr (q := 101) dX6_count_98 rfl e_X6_229 (zB_lt0 (zX4_B zX4_74)) (o_X0 (zX4_B zX4_74) s R) rfl ?_
      cases H
      exact aw_ret dX6_count_101 rfl rfl rfl rfl ⟨rfl, rfl⟩
    · replace H := zf h2 H
      by_cases h3 : x1 = 2
      · replace H := zt h3 H
        refine aw_tabIn (q := 102) (off := 101) dX6_count_1 (by rw [h3]; decide) (by rw [h3]; decide) (by rw [h3]; rfl) (by decide) ?_
        refine aw_aload_n (q := 103) dX6_count_102 rfl rfl ?_
        refine aw_getr (q := 106) dX6_count_103 rfl e_X6_31 (by decide) (o_X6 s R) rfl ?_
        refine aw_getr (q := 109) dX6_count_106 rfl e_X6_42 (zX4_lt zX4_74) (o_X4 zX4_74 s R) rfl ?_
        refine aw_getr (q := 112) dX6_count_109 rfl e_X6_163 (zB_lt0 (zX4_B zX4_74)) (o_X0 (zX4_B zX4_74) s R) rfl ?_
        cases H
        exact aw_ret dX6_count_112 rfl rfl rfl rfl ⟨rfl, rfl⟩
      · replace H := zf h3 H
        by_cases h4 : x1 = 3
        · replace H := zt h4 H
          refine aw_tabIn (q := 113) (off := 112) dX6_count_1 (by rw [h4]; decide) (by rw [h4]; decide) (by rw [h4]; rfl) (by decide) ?_
          refine aw_aload_n (q := 114) dX6_count_113 rfl rfl ?_
          refine aw_getr (q := 117) dX6_count_114 rfl e_X6_31 (by decide) (o_X6 s R) rfl ?_
          refine aw_getr (q := 120) dX6_count_117 rfl e_X6_214 (zX4_lt zX4_74) (o_X4 zX4_74 s R) rfl ?_
          cases H
          exact aw_ret dX6_count_120 rfl rfl rfl rfl ⟨rfl, rfl⟩
        · replace H := zf h4 H
          by_cases h5 : x1 = 4
          · replace H := zt h5 H
            refine aw_tabIn (q := 121) (off := 120) dX6_count_1 (by rw [h5]; decide) (by rw [h5]; decide) (by rw [h5]; rfl) (by decide) ?_
            refine aw_aload_n (q := 122) dX6_count_121 rfl rfl ?_
            refine aw_getr (q := 125) dX6_count_122 rfl e_X6_31 (by decide) (o_X6 s R) rfl ?_
            refine aw_cv (M' := M_X4_weekday) (as := []) (q := 128) dX6_count_125 rfl W_X4_weekday k_X6_217 i_X4_weekday v_X4_weekday (zX4_lt zX4_74) (o_X4 zX4_74 s R) rfl rfl rfl (by decide) (Nat.le_of_ble_eq_true rfl) (c_X4_weekday s R zX4_74) (Nat.le_refl _) (Nat.le_refl _) ?_
            rintro r9 h9 ⟨rfl, rfl⟩
            cases H
            exact aw_ret dX6_count_128 rfl rfl rfl rfl ⟨rfl, rfl⟩
          · replace H := zf h5 H
            by_cases h6 : x1 = 5
            · replace H := zt h6 H
              refine aw_tabIn (q := 129) (off := 128) dX6_count_1 (by rw [h6]; decide) (by rw [h6]; decide) (by rw [h6]; rfl) (by decide) ?_
              refine aw_aload_n (q := 130) dX6_count_129 rfl rfl ?_
              refine aw_getr (q := 133) dX6_count_130 rfl e_X6_31 (by decide) (o_X6 s R) rfl ?_
              refine aw_getr (q := 136) dX6_count_133 rfl e_X6_207 (zX4_lt zX4_74) (o_X4 zX4_74 s R) rfl ?_
              cases H
              exact aw_ret dX6_count_136 rfl rfl rfl rfl ⟨rfl, rfl⟩
            · replace H := zf h6 H
              by_cases h7 : x1 = 6
              · replace H := zt h7 H
                refine aw_tabIn (q := 137) (off := 136) dX6_count_1 (by rw [h7]; decide) (by rw [h7]; decide) (by rw [h7]; rfl) (by decide) ?_
                refine aw_aload_n (q := 138) dX6_count_137 rfl rfl ?_
                refine aw_getr (q := 141) dX6_count_138 rfl e_X6_31 (by decide) (o_X6 s R) rfl ?_
                obtain ⟨v17, hv17, H⟩ := zbd H
                refine aw_cv (M' := M_X4_touchedNow) (as := []) (q := 144) dX6_count_141 rfl W_X4_touchedNow k_X6_95 i_X4_touchedNow v_X4_touchedNow (zX4_lt zX4_74) (o_X4 zX4_74 s R) rfl rfl rfl (by decide) (Nat.le_of_ble_eq_true rfl) (c_X4_touchedNow s R zX4_74 hv17) (Nat.le_refl _) (Nat.le_refl _) ?_
                rintro r9 h9 ⟨rfl, rfl⟩
                refine aw_cs (M' := M_J6_bitCount_0f7a4) (as := [.int v17]) (q := 147) dX6_count_144 rfl W_J6_bitCount_0f7a4 k_X6_186 s_J6_bitCount_0f7a4 rfl rfl (by decide) (Nat.le_of_ble_eq_true rfl) (c_J6_bitCount_0f7a4 (zT s R) v17) (Nat.le_refl _) (Nat.le_refl _) ?_
                rintro r9 h9 ⟨rfl, rfl⟩
                cases H
                exact aw_ret dX6_count_147 rfl rfl rfl rfl ⟨rfl, rfl⟩
              · replace H := zf h7 H
                by_cases h8 : x1 = 7
                · replace H := zt h8 H
                  refine aw_tabIn (q := 148) (off := 147) dX6_count_1 (by rw [h8]; decide) (by rw [h8]; decide) (by rw [h8]; rfl) (by decide) ?_
                  refine aw_aload_n (q := 149) dX6_count_148 rfl rfl ?_
                  obtain ⟨v18, hv18, H⟩ := zbd H
                  refine aw_cv (M' := M_X6_reachedNow) (as := []) (q := 152) dX6_count_149 rfl W_X6_reachedNow k_X6_232 i_X6_reachedNow v_X6_reachedNow (by decide) (o_X6 s R) rfl rfl rfl (by decide) (Nat.le_of_ble_eq_true rfl) (c_X6_reachedNow s R hv18) (Nat.le_refl _) (Nat.le_refl _) ?_
                  rintro r9 h9 ⟨rfl, rfl⟩
                  cases H
                  exact aw_ret dX6_count_152 rfl rfl rfl rfl ⟨rfl, rfl⟩
                · replace H := zf h8 H
                  by_cases h9 : x1 = 8
                  · replace H := zt h9 H
                    refine aw_tabIn (q := 153) (off := 152) dX6_count_1 (by rw [h9]; decide) (by rw [h9]; decide) (by rw [h9]; rfl) (by decide) ?_
                    refine aw_aload_n (q := 154) dX6_count_153 rfl rfl ?_
                    refine aw_getr (q := 157) dX6_count_154 rfl e_X6_31 (by decide) (o_X6 s R) rfl ?_
                    refine aw_getr (q := 160) dX6_count_157 rfl e_X6_200 (zX4_lt zX4_74) (o_X4 zX4_74 s R) rfl ?_
                    cases H
                    exact aw_ret dX6_count_160 rfl rfl rfl rfl ⟨rfl, rfl⟩
                  · replace H := zf h9 H
                    by_cases h10 : x1 = 9
                    · replace H := zt h10 H
                      refine aw_tabIn (q := 161) (off := 160) dX6_count_1 (by rw [h10]; decide) (by rw [h10]; decide) (by rw [h10]; rfl) (by decide) ?_
                      refine aw_aload_n (q := 162) dX6_count_161 rfl rfl ?_
                      refine aw_getr (q := 165) dX6_count_162 rfl e_X6_12 (by decide) (o_X6 s R) rfl ?_
                      refine aw_getr (q := 168) dX6_count_165 rfl e_X6_235 (by decide) (o_X1 s R) rfl ?_
                      cases H
                      exact aw_ret dX6_count_168 rfl rfl rfl rfl ⟨rfl, rfl⟩
                    · replace H := zf h10 H
                      by_cases h11 : x1 = 10
                      · replace H := zt h11 H
                        refine aw_tabIn (q := 169) (off := 168) dX6_count_1 (by rw [h11]; decide) (by rw [h11]; decide) (by rw [h11]; rfl) (by decide) ?_
                        refine aw_aload_n (q := 170) dX6_count_169 rfl rfl ?_
                        refine aw_getr (q := 173) dX6_count_170 rfl e_X6_19 (by decide) (o_X6 s R) rfl ?_
                        refine aw_getr (q := 176) dX6_count_173 rfl e_X6_238 (by decide) (o_X3 s R) rfl ?_
                        cases H
                        exact aw_ret dX6_count_176 rfl rfl rfl rfl ⟨rfl, rfl⟩
                      · replace H := zf h11 H
                        by_cases h12 : x1 = 11
                        · replace H := zt h12 H
                          refine aw_tabIn (q := 177) (off := 176) dX6_count_1 (by rw [h12]; decide) (by rw [h12]; decide) (by rw [h12]; rfl) (by decide) ?_
                          refine aw_aload_n (q := 178) dX6_count_177 rfl rfl ?_
                          refine aw_getr (q := 181) dX6_count_178 rfl e_X6_31 (by decide) (o_X6 s R) rfl ?_
                          refine aw_iload_n (q := 182) dX6_count_181 rfl rfl ?_
                          refine aw_bipush (q := 184) (v := 11) dX6_count_182 rfl (by decide) ?_
                          refine aw_isub (q := 185) dX6_count_184 rfl ?_
                          obtain ⟨v19, hv19, H⟩ := zbd H
                          refine aw_cv (M' := M_X4_filedIn) (as := [.int (x1 - 11)]) (q := 188) dX6_count_185 rfl W_X4_filedIn k_X6_223 i_X4_filedIn v_X4_filedIn (zX4_lt zX4_74) (o_X4 zX4_74 s R) rfl rfl rfl (by decide) (Nat.le_of_ble_eq_true rfl) (c_X4_filedIn s R zX4_74 (x1 - 11) hv19) (Nat.le_refl _) (Nat.le_refl _) ?_
                          rintro r9 h9 ⟨rfl, rfl⟩
                          cases H
                          exact aw_ret dX6_count_188 rfl rfl rfl rfl ⟨rfl, rfl⟩
                        · replace H := zf h12 H
                          by_cases h13 : x1 = 12
                          · replace H := zt h13 H
                            refine aw_tabIn (q := 177) (off := 176) dX6_count_1 (by rw [h13]; decide) (by rw [h13]; decide) (by rw [h13]; rfl) (by decide) ?_
                            refine aw_aload_n (q := 178) dX6_count_177 rfl rfl ?_
                            refine aw_getr (q := 181) dX6_count_178 rfl e_X6_31 (by decide) (o_X6 s R) rfl ?_
                            refine aw_iload_n (q := 182) dX6_count_181 rfl rfl ?_
                            refine aw_bipush (q := 184) (v := 11) dX6_count_182 rfl (by decide) ?_
                            refine aw_isub (q := 185) dX6_count_184 rfl ?_
                            obtain ⟨v20, hv20, H⟩ := zbd H
                            refine aw_cv (M' := M_X4_filedIn) (as := [.int (x1 - 11)]) (q := 188) dX6_count_185 rfl W_X4_filedIn k_X6_223 i_X4_filedIn v_X4_filedIn (zX4_lt zX4_74) (o_X4 zX4_74 s R) rfl rfl rfl (by decide) (Nat.le_of_ble_eq_true rfl) (c_X4_filedIn s R zX4_74 (x1 - 11) hv20) (Nat.le_refl _) (Nat.le_refl _) ?_
                            rintro r9 h9 ⟨rfl, rfl⟩
                            cases H
                            exact aw_ret dX6_count_188 rfl rfl rfl rfl ⟨rfl, rfl⟩
                          · replace H := zf h13 H
                            by_cases h14 : x1 = 13
                            · replace H := zt h14 H
                              refine aw_tabIn (q := 177) (off := 176) dX6_count_1 (by rw [h14]; decide) (by rw [h14]; decide) (by rw [h14]; rfl) (by decide) ?_
                              refine aw_aload_n (q := 178) dX6_count_177 rfl rfl ?_
                              refine aw_getr (q := 181) dX6_count_178 rfl e_X6_31 (by decide) (o_X6 s R) rfl ?_
                              refine aw_iload_n (q := 182) dX6_count_181 rfl rfl ?_
                              refine aw_bipush (q := 184) (v := 11) dX6_count_182 rfl (by decide) ?_
                              refine aw_isub (q := 185) dX6_count_184 rfl ?_
                              obtain ⟨v21, hv21, H⟩ := zbd H
                              refine aw_cv (M' := M_X4_filedIn) (as := [.int (x1 - 11)]) (q := 188) dX6_count_185 rfl W_X4_filedIn k_X6_223 i_X4_filedIn v_X4_filedIn (zX4_lt zX4_74) (o_X4 zX4_74 s R) rfl rfl rfl (by decide) (Nat.le_of_ble_eq_true rfl) (c_X4_filedIn s R zX4_74 (x1 - 11) hv21) (Nat.le_refl _) (Nat.le_refl _) ?_
                              rintro r9 h9 ⟨rfl, rfl⟩
                              cases H
                              exact aw_ret dX6_count_188 rfl rfl rfl rfl ⟨rfl, rfl⟩
                            · replace H := zf h14 H
                              by_cases h15 : x1 = 14
                              · replace H := zt h15 H
                                refine aw_tabIn (q := 177) (off := 176) dX6_count_1 (by rw [h15]; decide) (by rw [h15]; decide) (by rw [h15]; rfl) (by decide) ?_
                                refine aw_aload_n (q := 178) dX6_count_177 rfl rfl ?_
                                refine aw_getr (q := 181) dX6_count_178 rfl e_X6_31 (by decide) (o_X6 s R) rfl ?_
                                refine aw_iload_n (q := 182) dX6_count_181 rfl rfl ?_
                                refine aw_bipush (q := 184) (v := 11) dX6_count_182 rfl (by decide) ?_
                                refine aw_isub (q := 185) dX6_count_184 rfl ?_
                                obtain ⟨v22, hv22, H⟩ := zbd H
                                refine aw_cv (M' := M_X4_filedIn) (as := [.int (x1 - 11)]) (q := 188) dX6_count_185 rfl W_X4_filedIn k_X6_223 i_X4_filedIn v_X4_filedIn (zX4_lt zX4_74) (o_X4 zX4_74 s R) rfl rfl rfl (by decide) (Nat.le_of_ble_eq_true rfl) (c_X4_filedIn s R zX4_74 (x1 - 11) hv22) (Nat.le_refl _) (Nat.le_refl _) ?_
                                rintro r9 h9 ⟨rfl, rfl⟩
                                cases H
                                exact aw_ret dX6_count_188 rfl rfl rfl rfl ⟨rfl, rfl⟩
                              · replace H := zf h15 H
                                by_cases h16 : x1 = 15
                                · replace H := zt h16 H
                                  refine aw_tabIn (q := 177) (off := 176) dX6_count_1 (by rw [h16]; decide) (by rw [h16]; decide) (by rw [h16]; rfl) (by decide) ?_
                                  refine aw_aload_n (q := 178) dX6_count_177 rfl rfl ?_
                                  refine aw_getr (q := 181) dX6_count_178 rfl e_X6_31 (by decide) (o_X6 s R) rfl ?_
                                  refine aw_iload_n (q := 182) dX6_count_181 rfl rfl ?_
                                  refine aw_bipush (q := 184) (v := 11) dX6_count_182 rfl (by decide) ?_
                                  refine aw_isub (q := 185) dX6_count_184 rfl ?_
                                  obtain ⟨v23, hv23, H⟩ := zbd H
                                  refine aw_cv (M' := M_X4_filedIn) (as := [.int (x1 - 11)]) (q := 188) dX6_count_185 rfl W_X4_filedIn k_X6_223 i_X4_filedIn v_X4_filedIn (zX4_lt zX4_74) (o_X4 zX4_74 s R) rfl rfl rfl (by decide) (Nat.le_of_ble_eq_true rfl) (c_X4_filedIn s R zX4_74 (x1 - 11) hv23) (Nat.le_refl _) (Nat.le_refl _) ?_
                                  rintro r9 h9 ⟨rfl, rfl⟩
                                  cases H
                                  exact aw_ret dX6_count_188 rfl rfl rfl rfl ⟨rfl, rfl⟩
                                · replace H := zf h16 H
                                  refine aw_tabOut (q := 189) dX6_count_1 (by have w0 : ¬ x1.toInt = 0 := zne h1; have w1 : ¬ x1.toInt = 1 := zne h2; have w2 : ¬ x1.toInt = 2 := zne h3; have w3 : ¬ x1.toInt = 3 := zne h4; have w4 : ¬ x1.toInt = 4 := zne h5; have w5 : ¬ x1.toInt = 5 := zne h6; have w6 : ¬ x1.toInt = 6 := zne h7; have w7 : ¬ x1.toInt = 7 := zne h8; have w8 : ¬ x1.toInt = 8 := zne h9; have w9 : ¬ x1.toInt = 9 := zne h10; have w10 : ¬ x1.toInt = 10 := zne h11; have w11 : ¬ x1.toInt = 11 := zne h12; have w12 : ¬ x1.toInt = 12 := zne h13; have w13 : ¬ x1.toInt = 13 := zne h14; have w14 : ¬ x1.toInt = 14 := zne h15; have w15 : ¬ x1.toInt = 15 := zne h16; omega) (by decide) ?_
                                  refine aw_ldc (q := 191) dX6_count_189 rfl q_X6_74 ?_
                                  cases H
                                  exact aw_ret dX6_count_191 rfl rfl rfl rfl ⟨rfl, rfl⟩
def f_X6_undo (s : zs) : Option (Int32 × zs) :=
  if (s.1 1 1) = 0 then (
    some ((-1000002), s)
  ) else (
    Option.bind (f_X1_restore s 74) fun v2 =>
    some (v2.1 1 1, v2)
  )
set_option maxHeartbeats 4000000 in
set_option maxRecDepth 100000 in
theorem c_X6_undo {G : zG} {sl : Nat} (s : zs) (R : zr)  {v9 : (Int32 × zs)} (H : f_X6_undo s = some v9) : zMv G 5 M_X6_undo [.ref 0] sl (zT s R) (fun r h' => r = some (.int v9.1) ∧ h' = zT v9.2 R) := by
  unfold f_X6_undo at H
  refine zMv_of (L := [some (.ref 0)]) (by decide) rfl (Nat.le_of_ble_eq_true rfl) rfl ?_
  refine aw_aload_n (q := 1) dX6_undo_0 rfl rfl ?_
  refine aw_getr (q := 4) dX6_undo_1 rfl e_X6_12 (by decide) (o_X6 s R) rfl ?_
  refine aw_getr (q := 7) dX6_undo_4 rfl e_X6_235 (by decide) (o_X1 s R) rfl ?_
  refine aw_if_neP (q := 10) (t := 13) dX6_undo_7 rfl (by decide) (fun h1 => ?_) (fun h1 => ?_)
  · replace H := zt h1 H
    refine aw_ldc (q := 12) dX6_undo_10 rfl q_X6_206 ?_
    cases H
    exact aw_ret dX6_undo_12 rfl rfl rfl rfl ⟨rfl, rfl⟩
  · replace H := zf h1 H
    refine aw_aload_n (q := 14) dX6_undo_13 rfl rfl ?_
    refine aw_getr (q := 17) dX6_undo_14 rfl e_X6_12 (by decide) (o_X6 s R) rfl ?_
    refine aw_aload_n (q := 18) dX6_undo_17 rfl rfl ?_
    refine aw_getr (q := 21) dX6_undo_18 rfl e_X6_31 (by decide) (o_X6 s R) rfl ?_
    obtain ⟨v2, hv2, H⟩ := zbd H
    refine aw_cv (M' := M_X1_restore) (as := [.ref 74]) (q := 24) dX6_undo_21 rfl W_X1_restore k_X6_241 i_X1_restore v_X1_restore (by decide) (o_X1 s R) rfl rfl rfl (by decide) (Nat.le_of_ble_eq_true rfl) (c_X1_restore s R zX4_74 hv2) (Nat.le_refl _) (Nat.le_refl _) ?_
    rintro r9 h9 ⟨rfl, rfl⟩
    refine aw_aload_n (q := 25) dX6_undo_24 rfl rfl ?_
    refine aw_getr (q := 28) dX6_undo_25 rfl e_X6_12 (by decide) (o_X6 v2 R) rfl ?_
    refine aw_getr (q := 31) dX6_undo_28 rfl e_X6_235 (by decide) (o_X1 v2 R) rfl ?_
    cases H
    exact aw_ret dX6_undo_31 rfl rfl rfl rfl ⟨rfl, rfl⟩
def f_X6_type (s : zs) (x1 : Int32) : Option (Int32 × zs) :=
  if x1 < 32 then (
    some ((-1000001), s)
  ) else (
    if x1 ≤ 126 then (
      if (s.1 51 3) < 100 then (
        Option.bind (f_X3_append s ((x1.toUInt32 % 65536).toInt32)) fun v4 =>
        some (v4.1 51 3, v4)
      ) else (
        some ((-1000003), s)
      )
    ) else (
      some ((-1000001), s)
    )
  )
set_option maxHeartbeats 4000000 in
set_option maxRecDepth 100000 in
theorem c_X6_type {G : zG} {sl : Nat} (s : zs) (R : zr) (x1 : Int32) {v9 : (Int32 × zs)} (H : f_X6_type s x1 = some v9) : zMv G 1 M_X6_type [.ref 0, .int x1] sl (zT s R) (fun r h' => r = some (.int v9.1) ∧ h' = zT v9.2 R) := by
  unfold f_X6_type at H
  refine zMv_of (L := [some (.ref 0), some (.int x1)]) (by decide) rfl (Nat.le_of_ble_eq_true rfl) rfl ?_
  refine aw_iload_n (q := 1) dX6_type_0 rfl rfl ?_
  refine aw_bipush (q := 3) (v := 32) dX6_type_1 rfl (by decide) ?_
  refine aw_icmp_lt (q := 6) (t := 12) dX6_type_3 rfl (by decide) (fun h1 => ?_) (fun h1 => ?_)
  · replace H := zt h1 H
    refine aw_ldc (q := 14) dX6_type_12 rfl q_X6_74 ?_
    cases H
    exact aw_ret dX6_type_14 rfl rfl rfl rfl ⟨rfl, rfl⟩
  · replace H := zf h1 H
    refine aw_iload_n (q := 7) dX6_type_6 rfl rfl ?_
    refine aw_bipush (q := 9) (v := 126) dX6_type_7 rfl (by decide) ?_
    refine aw_icmp_le (q := 12) (t := 15) dX6_type_9 rfl (by decide) (fun h2 => ?_) (fun h2 => ?_)
    · replace H := zt h2 H
      refine aw_aload_n (q := 16) dX6_type_15 rfl rfl ?_
      refine aw_getr (q := 19) dX6_type_16 rfl e_X6_19 (by decide) (o_X6 s R) rfl ?_
      refine aw_getr (q := 22) dX6_type_19 rfl e_X6_238 (by decide) (o_X3 s R) rfl ?_
      refine aw_bipush (q := 24) (v := 100) dX6_type_22 rfl (by decide) ?_
      refine aw_icmp_lt (q := 27) (t := 30) dX6_type_24 rfl (by decide) (fun h3 => ?_) (fun h3 => ?_)
      · replace H := zt h3 H
        refine aw_aload_n (q := 31) dX6_type_30 rfl rfl ?_
        refine aw_getr (q := 34) dX6_type_31 rfl e_X6_19 (by decide) (o_X6 s R) rfl ?_
        refine aw_iload_n (q := 35) dX6_type_34 rfl rfl ?_
        refine aw_i2c (q := 36) dX6_type_35 rfl ?_
        obtain ⟨v4, hv4, H⟩ := zbd H
        refine aw_cv (M' := M_X3_append) (as := [.int ((x1.toUInt32 % 65536).toInt32)]) (q := 39) dX6_type_36 rfl W_X3_append k_X6_244 i_X3_append v_X3_append (by decide) (o_X3 s R) rfl rfl rfl (by decide) (Nat.le_of_ble_eq_true rfl) (c_X3_append s R ((x1.toUInt32 % 65536).toInt32) hv4) (Nat.le_refl _) (Nat.le_refl _) ?_
        rintro r9 h9 ⟨rfl, rfl⟩
        refine aw_aload_n (q := 40) dX6_type_39 rfl rfl ?_
        refine aw_getr (q := 43) dX6_type_40 rfl e_X6_19 (by decide) (o_X6 v4 R) rfl ?_
        refine aw_getr (q := 46) dX6_type_43 rfl e_X6_238 (by decide) (o_X3 v4 R) rfl ?_
        cases H
        exact aw_ret dX6_type_46 rfl rfl rfl rfl ⟨rfl, rfl⟩
      · replace H := zf h3 H
        refine aw_ldc (q := 29) dX6_type_27 rfl q_X6_210 ?_
        cases H
        exact aw_ret dX6_type_29 rfl rfl rfl rfl ⟨rfl, rfl⟩
    · replace H := zf h2 H
      refine aw_ldc (q := 14) dX6_type_12 rfl q_X6_74 ?_
      cases H
      exact aw_ret dX6_type_14 rfl rfl rfl rfl ⟨rfl, rfl⟩
def f_X6_clearText (s : zs) : Option (Int32 × zs) :=
  zlt (s.1 51 3 : Int32) fun y1 =>
  zlt (zc s 51 3 0) fun s3 =>
  some (y1, s3)
set_option maxHeartbeats 4000000 in
set_option maxRecDepth 100000 in
theorem c_X6_clearText {G : zG} {sl : Nat} (s : zs) (R : zr)  {v9 : (Int32 × zs)} (H : f_X6_clearText s = some v9) : zMv G 0 M_X6_clearText [.ref 0] sl (zT s R) (fun r h' => r = some (.int v9.1) ∧ h' = zT v9.2 R) := by
  unfold f_X6_clearText at H
  refine zMv_of (L := [some (.ref 0), none]) (by decide) rfl (Nat.le_of_ble_eq_true rfl) rfl ?_
  refine aw_aload_n (q := 1) dX6_clearText_0 rfl rfl ?_
  refine aw_getr (q := 4) dX6_clearText_1 rfl e_X6_19 (by decide) (o_X6 s R) rfl ?_
  refine aw_getr (q := 7) dX6_clearText_4 rfl e_X6_238 (by decide) (o_X3 s R) rfl ?_
  obtain ⟨y1, q2, H⟩ := zltd H
  refine aw_nm q2 ?_
  refine aw_istore_n (q := 8) (L' := [some (.ref 0), some (.int y1)]) dX6_clearText_7 rfl (by decide) rfl rfl ?_
  refine aw_aload_n (q := 9) dX6_clearText_8 rfl rfl ?_
  refine aw_getr (q := 12) dX6_clearText_9 rfl e_X6_19 (by decide) (o_X6 s R) rfl ?_
  refine aw_iconst (q := 13) (v := 0) dX6_clearText_12 rfl (by decide) ?_
  obtain ⟨s3, q4, H⟩ := zltd H
  refine aw_put (q := 16) dX6_clearText_13 rfl f_X6_238 (by decide) (o_X3 s R) rfl rfl (Nat.le_of_ble_eq_true rfl) ((p_X3_3).trans (congrArg (fun z => zT z R) q4.symm)) ?_
  refine aw_iload_n (q := 17) dX6_clearText_16 rfl rfl ?_
  cases H
  exact aw_ret dX6_clearText_17 rfl rfl rfl rfl ⟨rfl, rfl⟩
def f_X6_place (s : zs) (x1 : Int32) : Option (Int32 × zs) :=
  if f_X6_isZeroOrOne x1 = true then (
    Option.bind (f_X3_tryOn s (sB 74)) fun v2 =>
    if (v2.1 51 8) = 0 then (
      some ((-1000004), v2)
    ) else (
      if x1 = 0 then (
        some (v2.1 51 7, v2)
      ) else (
        some (v2.1 51 8, v2)
      )
    )
  ) else (
    some ((-1000001), s)
  )
set_option maxHeartbeats 4000000 in
set_option maxRecDepth 100000 in
theorem c_X6_place {G : zG} {sl : Nat} (s : zs) (R : zr) (x1 : Int32) {v9 : (Int32 × zs)} (H : f_X6_place s x1 = some v9) : zMv G 9 M_X6_place [.ref 0, .int x1] sl (zT s R) (fun r h' => r = some (.int v9.1) ∧ h' = zT v9.2 R) := by
  unfold f_X6_place at H
  refine zMv_of (L := [some (.ref 0), some (.int x1)]) (by decide) rfl (Nat.le_of_ble_eq_true rfl) rfl ?_
  refine aw_iload_n (q := 1) dX6_place_0 rfl rfl ?_
  refine aw_cs (M' := M_X6_isZeroOrOne) (as := [.int x1]) (q := 4) dX6_place_1 rfl W_X6_isZeroOrOne k_X6_148 s_X6_isZeroOrOne rfl rfl (by decide) (Nat.le_of_ble_eq_true rfl) (c_X6_isZeroOrOne (zT s R) x1) (Nat.le_refl _) (Nat.le_refl _) ?_
  rintro r9 h9 ⟨rfl, rfl⟩
  refine aw_ifneB (q := 7) (t := 10) dX6_place_4 rfl (by decide) (fun h1 => ?_) (fun h1 => ?_)
  · replace H := zt h1 H
    refine aw_aload_n (q := 11) dX6_place_10 rfl rfl ?_
    refine aw_getr (q := 14) dX6_place_11 rfl e_X6_19 (by decide) (o_X6 s R) rfl ?_
    refine aw_aload_n (q := 15) dX6_place_14 rfl rfl ?_
    refine aw_getr (q := 18) dX6_place_15 rfl e_X6_31 (by decide) (o_X6 s R) rfl ?_
    refine aw_getr (q := 21) dX6_place_18 rfl e_X6_42 (zX4_lt zX4_74) (o_X4 zX4_74 s R) rfl ?_
    obtain ⟨v2, hv2, H⟩ := zbd H
    refine aw_cv (M' := M_X3_tryOn) (as := [.ref (sB 74)]) (q := 24) dX6_place_21 rfl W_X3_tryOn k_X6_248 i_X3_tryOn v_X3_tryOn (by decide) (o_X3 s R) rfl rfl rfl (by decide) (Nat.le_of_ble_eq_true rfl) (c_X3_tryOn s R (zX4_B zX4_74) hv2) (Nat.le_refl _) (Nat.le_refl _) ?_
    rintro r9 h9 ⟨rfl, rfl⟩
    refine aw_aload_n (q := 25) dX6_place_24 rfl rfl ?_
    refine aw_getr (q := 28) dX6_place_25 rfl e_X6_19 (by decide) (o_X6 v2 R) rfl ?_
    refine aw_getr (q := 31) dX6_place_28 rfl e_X6_251 (by decide) (o_X3 v2 R) rfl ?_
    refine aw_if_neP (q := 34) (t := 37) dX6_place_31 rfl (by decide) (fun h3 => ?_) (fun h3 => ?_)
    · replace H := zt h3 H
      refine aw_ldc (q := 36) dX6_place_34 rfl q_X6_115 ?_
      cases H
      exact aw_ret dX6_place_36 rfl rfl rfl rfl ⟨rfl, rfl⟩
    · replace H := zf h3 H
      refine aw_iload_n (q := 38) dX6_place_37 rfl rfl ?_
      refine aw_if_neP (q := 41) (t := 51) dX6_place_38 rfl (by decide) (fun h4 => ?_) (fun h4 => ?_)
      · replace H := zt h4 H
        refine aw_aload_n (q := 42) dX6_place_41 rfl rfl ?_
        refine aw_getr (q := 45) dX6_place_42 rfl e_X6_19 (by decide) (o_X6 v2 R) rfl ?_
        refine aw_getr (q := 48) dX6_place_45 rfl e_X6_254 (by decide) (o_X3 v2 R) rfl ?_
        refine aw_goto (q := 58) dX6_place_48 (by decide) ?_
        cases H
        exact aw_ret dX6_place_58 rfl rfl rfl rfl ⟨rfl, rfl⟩
      · replace H := zf h4 H
        refine aw_aload_n (q := 52) dX6_place_51 rfl rfl ?_
        refine aw_getr (q := 55) dX6_place_52 rfl e_X6_19 (by decide) (o_X6 v2 R) rfl ?_
        refine aw_getr (q := 58) dX6_place_55 rfl e_X6_251 (by decide) (o_X3 v2 R) rfl ?_
        cases H
        exact aw_ret dX6_place_58 rfl rfl rfl rfl ⟨rfl, rfl⟩
  · replace H := zf h1 H
    refine aw_ldc (q := 9) dX6_place_7 rfl q_X6_74 ?_
    cases H
    exact aw_ret dX6_place_9 rfl rfl rfl rfl ⟨rfl, rfl⟩
def f_X6_run (s : zs) : Option (Int32 × zs) :=
  Option.bind (f_X3_tryOn s (sB 74)) fun v1 =>
  if (v1.1 51 8) = 0 then (
    Option.bind (f_X1_keep v1 74) fun v3 =>
    Option.bind (f_X0_copyFrom v3 (sB 74) 52) fun v4 =>
    some (v4.1 51 6, v4)
  ) else (
    some ((-1000002), v1)
  )
set_option maxHeartbeats 4000000 in
set_option maxRecDepth 100000 in
theorem c_X6_run {G : zG} {sl : Nat} (s : zs) (R : zr)  {v9 : (Int32 × zs)} (H : f_X6_run s = some v9) : zMv G 9 M_X6_run [.ref 0] sl (zT s R) (fun r h' => r = some (.int v9.1) ∧ h' = zT v9.2 R) := by
  unfold f_X6_run at H
  refine zMv_of (L := [some (.ref 0)]) (by decide) rfl (Nat.le_of_ble_eq_true rfl) rfl ?_
  refine aw_aload_n (q := 1) dX6_run_0 rfl rfl ?_
  refine aw_getr (q := 4) dX6_run_1 rfl e_X6_19 (by decide) (o_X6 s R) rfl ?_
  refine aw_aload_n (q := 5) dX6_run_4 rfl rfl ?_
  refine aw_getr (q := 8) dX6_run_5 rfl e_X6_31 (by decide) (o_X6 s R) rfl ?_
  refine aw_getr (q := 11) dX6_run_8 rfl e_X6_42 (zX4_lt zX4_74) (o_X4 zX4_74 s R) rfl ?_
  obtain ⟨v1, hv1, H⟩ := zbd H
  refine aw_cv (M' := M_X3_tryOn) (as := [.ref (sB 74)]) (q := 14) dX6_run_11 rfl W_X3_tryOn k_X6_248 i_X3_tryOn v_X3_tryOn (by decide) (o_X3 s R) rfl rfl rfl (by decide) (Nat.le_of_ble_eq_true rfl) (c_X3_tryOn s R (zX4_B zX4_74) hv1) (Nat.le_refl _) (Nat.le_refl _) ?_
  rintro r9 h9 ⟨rfl, rfl⟩
  refine aw_aload_n (q := 15) dX6_run_14 rfl rfl ?_
  refine aw_getr (q := 18) dX6_run_15 rfl e_X6_19 (by decide) (o_X6 v1 R) rfl ?_
  refine aw_getr (q := 21) dX6_run_18 rfl e_X6_251 (by decide) (o_X3 v1 R) rfl ?_
  refine aw_if_eq (q := 24) (t := 27) dX6_run_21 rfl (by decide) (fun h2 => ?_) (fun h2 => ?_)
  · replace H := zt h2 H
    refine aw_aload_n (q := 28) dX6_run_27 rfl rfl ?_
    refine aw_getr (q := 31) dX6_run_28 rfl e_X6_12 (by decide) (o_X6 v1 R) rfl ?_
    refine aw_aload_n (q := 32) dX6_run_31 rfl rfl ?_
    refine aw_getr (q := 35) dX6_run_32 rfl e_X6_31 (by decide) (o_X6 v1 R) rfl ?_
    obtain ⟨v3, hv3, H⟩ := zbd H
    refine aw_cv (M' := M_X1_keep) (as := [.ref 74]) (q := 38) dX6_run_35 rfl W_X1_keep k_X6_50 i_X1_keep v_X1_keep (by decide) (o_X1 v1 R) rfl rfl rfl (by decide) (Nat.le_of_ble_eq_true rfl) (c_X1_keep v1 R zX4_74 hv3) (Nat.le_refl _) (Nat.le_refl _) ?_
    rintro r9 h9 ⟨rfl, rfl⟩
    refine aw_aload_n (q := 39) dX6_run_38 rfl rfl ?_
    refine aw_getr (q := 42) dX6_run_39 rfl e_X6_31 (by decide) (o_X6 v3 R) rfl ?_
    refine aw_getr (q := 45) dX6_run_42 rfl e_X6_42 (zX4_lt zX4_74) (o_X4 zX4_74 v3 R) rfl ?_
    refine aw_aload_n (q := 46) dX6_run_45 rfl rfl ?_
    refine aw_getr (q := 49) dX6_run_46 rfl e_X6_19 (by decide) (o_X6 v3 R) rfl ?_
    refine aw_getr (q := 52) dX6_run_49 rfl e_X6_257 (by decide) (o_X3 v3 R) rfl ?_
    obtain ⟨v4, hv4, H⟩ := zbd H
    refine aw_cv (M' := M_X0_copyFrom) (as := [.ref 52]) (q := 55) dX6_run_52 rfl W_X0_copyFrom k_X6_260 i_X0_copyFrom v_X0_copyFrom (zB_lt0 (zX4_B zX4_74)) (o_X0 (zX4_B zX4_74) v3 R) rfl rfl rfl (by decide) (Nat.le_of_ble_eq_true rfl) (c_X0_copyFrom v3 R (zX4_B zX4_74) zB52 hv4) (Nat.le_refl _) (Nat.le_refl _) ?_
    rintro r9 h9 ⟨rfl, rfl⟩
    refine aw_aload_n (q := 56) dX6_run_55 rfl rfl ?_
    refine aw_getr (q := 59) dX6_run_56 rfl e_X6_19 (by decide) (o_X6 v4 R) rfl ?_
    refine aw_getr (q := 62) dX6_run_59 rfl e_X6_263 (by decide) (o_X3 v4 R) rfl ?_
    cases H
    exact aw_ret dX6_run_62 rfl rfl rfl rfl ⟨rfl, rfl⟩
  · replace H := zf h2 H
    refine aw_ldc (q := 26) dX6_run_24 rfl q_X6_206 ?_
    cases H
    exact aw_ret dX6_run_26 rfl rfl rfl rfl ⟨rfl, rfl⟩

