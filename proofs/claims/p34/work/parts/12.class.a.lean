def f_X0_copyFrom (s : zs) (b : Nat) (x1 : Nat) : Option zs :=
  zlt (zcr s (b + 1) (va_cpy (s.1 (x1 + 1)) (s.1 (b + 1)) 0 0 8)) fun s1 =>
  zlt (zcr s1 (b + 2) (va_cpy (s1.1 (x1 + 2)) (s1.1 (b + 2)) 0 0 16)) fun s3 =>
  zlt (zcr s3 (b + 3) (va_cpy (s3.1 (x1 + 3)) (s3.1 (b + 3)) 0 0 5)) fun s5 =>
  zlt (zcr s5 (b + 4) (va_cpy (s5.1 (x1 + 4)) (s5.1 (b + 4)) 0 0 5)) fun s7 =>
  zlt (zcr s7 (b + 5) (va_cpy (s7.1 (x1 + 5)) (s7.1 (b + 5)) 0 0 5)) fun s9 =>
  zlt (zcr s9 (b + 6) (va_cpy (s9.1 (x1 + 6)) (s9.1 (b + 6)) 0 0 10)) fun s11 =>
  zlt (zcr s11 (b + 7) (va_cpy (s11.1 (x1 + 7)) (s11.1 (b + 7)) 0 0 10)) fun s13 =>
  zlt (zcr s13 (b + 8) (va_cpy (s13.1 (x1 + 8)) (s13.1 (b + 8)) 0 0 10)) fun s15 =>
  zlt (zcr s15 (b + 9) (va_cpy (s15.1 (x1 + 9)) (s15.1 (b + 9)) 0 0 16)) fun s17 =>
  zlt (zc s17 b 9 (s17.1 x1 9)) fun s19 =>
  zlt (zc s19 b 10 (s19.1 x1 10)) fun s21 =>
  zlt (zc s21 b 11 (s21.1 x1 11)) fun s23 =>
  zlt (zc s23 b 12 (s23.1 x1 12)) fun s25 =>
  zlt (zc s25 b 13 (s25.1 x1 13)) fun s27 =>
  some s27
set_option maxHeartbeats 4000000 in
set_option maxRecDepth 100000 in
theorem c_X0_copyFrom {G : zG} {sl : Nat} (s : zs) (R : zr) {b : Nat} (hb : zB b) {x1 : Nat} (hx1 : zB x1) {v9 : zs} (H : f_X0_copyFrom s b x1 = some v9) : zMv G 2 M_X0_copyFrom [.ref b, .ref x1] sl (zT s R) (fun r h' => r = none ∧ h' = zT v9 R) := by
  unfold f_X0_copyFrom at H
  refine zMv_of (L := [some (.ref b), some (.ref x1)]) (by decide) rfl (Nat.le_of_ble_eq_true rfl) rfl ?_
  refine aw_aload_n (q := 1) dX0_copyFrom_0 rfl rfl ?_
  refine aw_getr (q := 4) dX0_copyFrom_1 rfl e_X0_9 (zB_lt0 hx1) (o_X0 hx1 s R) rfl ?_
  refine aw_iconst (q := 5) (v := 0) dX0_copyFrom_4 rfl (by decide) ?_
  refine aw_aload_n (q := 6) dX0_copyFrom_5 rfl rfl ?_
  refine aw_getr (q := 9) dX0_copyFrom_6 rfl e_X0_9 (zB_lt0 hb) (o_X0 hb s R) rfl ?_
  refine aw_iconst (q := 10) (v := 0) dX0_copyFrom_9 rfl (by decide) ?_
  refine aw_bipush (q := 12) (v := 8) dX0_copyFrom_10 rfl (by decide) ?_
  obtain ⟨s1, q2, H⟩ := zltd H
  refine aw_copy (q := 15) dX0_copyFrom_12 rfl k_X0_45 (zB_lt (k := 1) hx1 (by decide)) (zB_lt (k := 1) hb (by decide)) (o_X0a0 hx1 s R) (o_X0a0 hb s R) (by decide) (by decide) (by decide) (by decide) (by decide) (by decide) (Nat.le_of_ble_eq_true rfl) ((r_X0a0 hb).trans (congrArg (fun z => zT z R) q2.symm)) ?_
  refine aw_aload_n (q := 16) dX0_copyFrom_15 rfl rfl ?_
  refine aw_getr (q := 19) dX0_copyFrom_16 rfl e_X0_15 (zB_lt0 hx1) (o_X0 hx1 s1 R) rfl ?_
  refine aw_iconst (q := 20) (v := 0) dX0_copyFrom_19 rfl (by decide) ?_
  refine aw_aload_n (q := 21) dX0_copyFrom_20 rfl rfl ?_
  refine aw_getr (q := 24) dX0_copyFrom_21 rfl e_X0_15 (zB_lt0 hb) (o_X0 hb s1 R) rfl ?_
  refine aw_iconst (q := 25) (v := 0) dX0_copyFrom_24 rfl (by decide) ?_
  refine aw_bipush (q := 27) (v := 16) dX0_copyFrom_25 rfl (by decide) ?_
  obtain ⟨s3, q4, H⟩ := zltd H
  refine aw_copy (q := 30) dX0_copyFrom_27 rfl k_X0_45 (zB_lt (k := 2) hx1 (by decide)) (zB_lt (k := 2) hb (by decide)) (o_X0a1 hx1 s1 R) (o_X0a1 hb s1 R) (by decide) (by decide) (by decide) (by decide) (by decide) (by decide) (Nat.le_of_ble_eq_true rfl) ((r_X0a1 hb).trans (congrArg (fun z => zT z R) q4.symm)) ?_
  refine aw_aload_n (q := 31) dX0_copyFrom_30 rfl rfl ?_
  refine aw_getr (q := 34) dX0_copyFrom_31 rfl e_X0_18 (zB_lt0 hx1) (o_X0 hx1 s3 R) rfl ?_
  refine aw_iconst (q := 35) (v := 0) dX0_copyFrom_34 rfl (by decide) ?_
  refine aw_aload_n (q := 36) dX0_copyFrom_35 rfl rfl ?_
  refine aw_getr (q := 39) dX0_copyFrom_36 rfl e_X0_18 (zB_lt0 hb) (o_X0 hb s3 R) rfl ?_
  refine aw_iconst (q := 40) (v := 0) dX0_copyFrom_39 rfl (by decide) ?_
  refine aw_iconst (q := 41) (v := 5) dX0_copyFrom_40 rfl (by decide) ?_
  obtain ⟨s5, q6, H⟩ := zltd H
  refine aw_copy (q := 44) dX0_copyFrom_41 rfl k_X0_45 (zB_lt (k := 3) hx1 (by decide)) (zB_lt (k := 3) hb (by decide)) (o_X0a2 hx1 s3 R) (o_X0a2 hb s3 R) (by decide) (by decide) (by decide) (by decide) (by decide) (by decide) (Nat.le_of_ble_eq_true rfl) ((r_X0a2 hb).trans (congrArg (fun z => zT z R) q6.symm)) ?_
  refine aw_aload_n (q := 45) dX0_copyFrom_44 rfl rfl ?_
  refine aw_getr (q := 48) dX0_copyFrom_45 rfl e_X0_21 (zB_lt0 hx1) (o_X0 hx1 s5 R) rfl ?_
  refine aw_iconst (q := 49) (v := 0) dX0_copyFrom_48 rfl (by decide) ?_
  refine aw_aload_n (q := 50) dX0_copyFrom_49 rfl rfl ?_
  refine aw_getr (q := 53) dX0_copyFrom_50 rfl e_X0_21 (zB_lt0 hb) (o_X0 hb s5 R) rfl ?_
  refine aw_iconst (q := 54) (v := 0) dX0_copyFrom_53 rfl (by decide) ?_
  refine aw_iconst (q := 55) (v := 5) dX0_copyFrom_54 rfl (by decide) ?_
  obtain ⟨s7, q8, H⟩ := zltd H
  refine aw_copy (q := 58) dX0_copyFrom_55 rfl k_X0_45 (zB_lt (k := 4) hx1 (by decide)) (zB_lt (k := 4) hb (by decide)) (o_X0a3 hx1 s5 R) (o_X0a3 hb s5 R) (by decide) (by decide) (by decide) (by decide) (by decide) (by decide) (Nat.le_of_ble_eq_true rfl) ((r_X0a3 hb).trans (congrArg (fun z => zT z R) q8.symm)) ?_
  refine aw_aload_n (q := 59) dX0_copyFrom_58 rfl rfl ?_
  refine aw_getr (q := 62) dX0_copyFrom_59 rfl e_X0_24 (zB_lt0 hx1) (o_X0 hx1 s7 R) rfl ?_
  refine aw_iconst (q := 63) (v := 0) dX0_copyFrom_62 rfl (by decide) ?_
  refine aw_aload_n (q := 64) dX0_copyFrom_63 rfl rfl ?_
  refine aw_getr (q := 67) dX0_copyFrom_64 rfl e_X0_24 (zB_lt0 hb) (o_X0 hb s7 R) rfl ?_
  refine aw_iconst (q := 68) (v := 0) dX0_copyFrom_67 rfl (by decide) ?_
  refine aw_iconst (q := 69) (v := 5) dX0_copyFrom_68 rfl (by decide) ?_
  obtain ⟨s9, q10, H⟩ := zltd H
  refine aw_copy (q := 72) dX0_copyFrom_69 rfl k_X0_45 (zB_lt (k := 5) hx1 (by decide)) (zB_lt (k := 5) hb (by decide)) (o_X0a4 hx1 s7 R) (o_X0a4 hb s7 R) (by decide) (by decide) (by decide) (by decide) (by decide) (by decide) (Nat.le_of_ble_eq_true rfl) ((r_X0a4 hb).trans (congrArg (fun z => zT z R) q10.symm)) ?_
  refine aw_aload_n (q := 73) dX0_copyFrom_72 rfl rfl ?_
  refine aw_getr (q := 76) dX0_copyFrom_73 rfl e_X0_27 (zB_lt0 hx1) (o_X0 hx1 s9 R) rfl ?_
  refine aw_iconst (q := 77) (v := 0) dX0_copyFrom_76 rfl (by decide) ?_
  refine aw_aload_n (q := 78) dX0_copyFrom_77 rfl rfl ?_
  refine aw_getr (q := 81) dX0_copyFrom_78 rfl e_X0_27 (zB_lt0 hb) (o_X0 hb s9 R) rfl ?_
  refine aw_iconst (q := 82) (v := 0) dX0_copyFrom_81 rfl (by decide) ?_
  refine aw_bipush (q := 84) (v := 10) dX0_copyFrom_82 rfl (by decide) ?_
  obtain ⟨s11, q12, H⟩ := zltd H
  refine aw_copy (q := 87) dX0_copyFrom_84 rfl k_X0_45 (zB_lt (k := 6) hx1 (by decide)) (zB_lt (k := 6) hb (by decide)) (o_X0a5 hx1 s9 R) (o_X0a5 hb s9 R) (by decide) (by decide) (by decide) (by decide) (by decide) (by decide) (Nat.le_of_ble_eq_true rfl) ((r_X0a5 hb).trans (congrArg (fun z => zT z R) q12.symm)) ?_
  refine aw_aload_n (q := 88) dX0_copyFrom_87 rfl rfl ?_
  refine aw_getr (q := 91) dX0_copyFrom_88 rfl e_X0_30 (zB_lt0 hx1) (o_X0 hx1 s11 R) rfl ?_
  refine aw_iconst (q := 92) (v := 0) dX0_copyFrom_91 rfl (by decide) ?_
  refine aw_aload_n (q := 93) dX0_copyFrom_92 rfl rfl ?_
  refine aw_getr (q := 96) dX0_copyFrom_93 rfl e_X0_30 (zB_lt0 hb) (o_X0 hb s11 R) rfl ?_
  refine aw_iconst (q := 97) (v := 0) dX0_copyFrom_96 rfl (by decide) ?_
  refine aw_bipush (q := 99) (v := 10) dX0_copyFrom_97 rfl (by decide) ?_
  obtain ⟨s13, q14, H⟩ := zltd H
  refine aw_copy (q := 102) dX0_copyFrom_99 rfl k_X0_45 (zB_lt (k := 7) hx1 (by decide)) (zB_lt (k := 7) hb (by decide)) (o_X0a6 hx1 s11 R) (o_X0a6 hb s11 R) (by decide) (by decide) (by decide) (by decide) (by decide) (by decide) (Nat.le_of_ble_eq_true rfl) ((r_X0a6 hb).trans (congrArg (fun z => zT z R) q14.symm)) ?_
  refine aw_aload_n (q := 103) dX0_copyFrom_102 rfl rfl ?_
  refine aw_getr (q := 106) dX0_copyFrom_103 rfl e_X0_33 (zB_lt0 hx1) (o_X0 hx1 s13 R) rfl ?_
  refine aw_iconst (q := 107) (v := 0) dX0_copyFrom_106 rfl (by decide) ?_
  refine aw_aload_n (q := 108) dX0_copyFrom_107 rfl rfl ?_
  refine aw_getr (q := 111) dX0_copyFrom_108 rfl e_X0_33 (zB_lt0 hb) (o_X0 hb s13 R) rfl ?_
  refine aw_iconst (q := 112) (v := 0) dX0_copyFrom_111 rfl (by decide) ?_
  refine aw_bipush (q := 114) (v := 10) dX0_copyFrom_112 rfl (by decide) ?_
  obtain ⟨s15, q16, H⟩ := zltd H
  refine aw_copy (q := 117) dX0_copyFrom_114 rfl k_X0_45 (zB_lt (k := 8) hx1 (by decide)) (zB_lt (k := 8) hb (by decide)) (o_X0a7 hx1 s13 R) (o_X0a7 hb s13 R) (by decide) (by decide) (by decide) (by decide) (by decide) (by decide) (Nat.le_of_ble_eq_true rfl) ((r_X0a7 hb).trans (congrArg (fun z => zT z R) q16.symm)) ?_
  refine aw_aload_n (q := 118) dX0_copyFrom_117 rfl rfl ?_
  refine aw_getr (q := 121) dX0_copyFrom_118 rfl e_X0_36 (zB_lt0 hx1) (o_X0 hx1 s15 R) rfl ?_
  refine aw_iconst (q := 122) (v := 0) dX0_copyFrom_121 rfl (by decide) ?_
  refine aw_aload_n (q := 123) dX0_copyFrom_122 rfl rfl ?_
  refine aw_getr (q := 126) dX0_copyFrom_123 rfl e_X0_36 (zB_lt0 hb) (o_X0 hb s15 R) rfl ?_
  refine aw_iconst (q := 127) (v := 0) dX0_copyFrom_126 rfl (by decide) ?_
  refine aw_bipush (q := 129) (v := 16) dX0_copyFrom_127 rfl (by decide) ?_
  obtain ⟨s17, q18, H⟩ := zltd H
  refine aw_copy (q := 132) dX0_copyFrom_129 rfl k_X0_45 (zB_lt (k := 9) hx1 (by decide)) (zB_lt (k := 9) hb (by decide)) (o_X0a8 hx1 s15 R) (o_X0a8 hb s15 R) (by decide) (by decide) (by decide) (by decide) (by decide) (by decide) (Nat.le_of_ble_eq_true rfl) ((r_X0a8 hb).trans (congrArg (fun z => zT z R) q18.symm)) ?_
  refine aw_aload_n (q := 133) dX0_copyFrom_132 rfl rfl ?_
  refine aw_aload_n (q := 134) dX0_copyFrom_133 rfl rfl ?_
  refine aw_getr (q := 137) dX0_copyFrom_134 rfl e_X0_51 (zB_lt0 hx1) (o_X0 hx1 s17 R) rfl ?_
  obtain ⟨s19, q20, H⟩ := zltd H
  refine aw_put (q := 140) dX0_copyFrom_137 rfl f_X0_51 (zB_lt0 hb) (o_X0 hb s17 R) rfl rfl (Nat.le_of_ble_eq_true rfl) ((p_X0_9 hb).trans (congrArg (fun z => zT z R) q20.symm)) ?_
  refine aw_aload_n (q := 141) dX0_copyFrom_140 rfl rfl ?_
  refine aw_aload_n (q := 142) dX0_copyFrom_141 rfl rfl ?_
  refine aw_getr (q := 145) dX0_copyFrom_142 rfl e_X0_55 (zB_lt0 hx1) (o_X0 hx1 s19 R) rfl ?_
  obtain ⟨s21, q22, H⟩ := zltd H
  refine aw_put (q := 148) dX0_copyFrom_145 rfl f_X0_55 (zB_lt0 hb) (o_X0 hb s19 R) rfl rfl (Nat.le_of_ble_eq_true rfl) ((p_X0_10 hb).trans (congrArg (fun z => zT z R) q22.symm)) ?_
  refine aw_aload_n (q := 149) dX0_copyFrom_148 rfl rfl ?_
  refine aw_aload_n (q := 150) dX0_copyFrom_149 rfl rfl ?_
  refine aw_getr (q := 153) dX0_copyFrom_150 rfl e_X0_58 (zB_lt0 hx1) (o_X0 hx1 s21 R) rfl ?_
  obtain ⟨s23, q24, H⟩ := zltd H
  refine aw_put (q := 156) dX0_copyFrom_153 rfl f_X0_58 (zB_lt0 hb) (o_X0 hb s21 R) rfl rfl (Nat.le_of_ble_eq_true rfl) ((p_X0_11 hb).trans (congrArg (fun z => zT z R) q24.symm)) ?_
  refine aw_aload_n (q := 157) dX0_copyFrom_156 rfl rfl ?_
  refine aw_aload_n (q := 158) dX0_copyFrom_157 rfl rfl ?_
  refine aw_getr (q := 161) dX0_copyFrom_158 rfl e_X0_61 (zB_lt0 hx1) (o_X0 hx1 s23 R) rfl ?_
  obtain ⟨s25, q26, H⟩ := zltd H
  refine aw_put (q := 164) dX0_copyFrom_161 rfl f_X0_61 (zB_lt0 hb) (o_X0 hb s23 R) rfl rfl (Nat.le_of_ble_eq_true rfl) ((p_X0_12 hb).trans (congrArg (fun z => zT z R) q26.symm)) ?_
  refine aw_aload_n (q := 165) dX0_copyFrom_164 rfl rfl ?_
  refine aw_aload_n (q := 166) dX0_copyFrom_165 rfl rfl ?_
  refine aw_getr (q := 169) dX0_copyFrom_166 rfl e_X0_64 (zB_lt0 hx1) (o_X0 hx1 s25 R) rfl ?_
  obtain ⟨s27, q28, H⟩ := zltd H
  refine aw_put (q := 172) dX0_copyFrom_169 rfl f_X0_64 (zB_lt0 hb) (o_X0 hb s25 R) rfl rfl (Nat.le_of_ble_eq_true rfl) ((p_X0_13 hb).trans (congrArg (fun z => zT z R) q28.symm)) ?_
  cases H
  exact aw_vret dX0_copyFrom_172 rfl rfl rfl ⟨rfl, rfl⟩
def f_J6_bitCount_0f7a4 (x0 : Int32) : Int32 :=
  zlt (x0 - (((x0.toUInt32 >>> ((1 : Int32).toUInt32 &&& Int32.toUInt32 31)).toInt32) &&& 1431655765) : Int32) fun y1 =>
  zlt ((y1 &&& 858993459) + (((y1.toUInt32 >>> ((2 : Int32).toUInt32 &&& Int32.toUInt32 31)).toInt32) &&& 858993459) : Int32) fun y3 =>
  zlt ((y3 + ((y3.toUInt32 >>> ((4 : Int32).toUInt32 &&& Int32.toUInt32 31)).toInt32)) &&& 252645135 : Int32) fun y5 =>
  zlt (y5 + ((y5.toUInt32 >>> ((8 : Int32).toUInt32 &&& Int32.toUInt32 31)).toInt32) : Int32) fun y7 =>
  zlt (y7 + ((y7.toUInt32 >>> ((16 : Int32).toUInt32 &&& Int32.toUInt32 31)).toInt32) : Int32) fun y9 =>
  y9 &&& 63
set_option maxHeartbeats 4000000 in
set_option maxRecDepth 100000 in
theorem c_J6_bitCount_0f7a4 {G : zG} {sl : Nat} (h : zH) (x0 : Int32)  : zMv G 0 M_J6_bitCount_0f7a4 [.int x0] sl h (fun r h' => r = some (.int (f_J6_bitCount_0f7a4 x0)) ∧ h' = h) := by
  generalize H : f_J6_bitCount_0f7a4 x0 = r0
  unfold f_J6_bitCount_0f7a4 at H
  refine zMv_of (L := [some (.int x0)]) (by decide) rfl (Nat.le_of_ble_eq_true rfl) rfl ?_
  refine aw_iload_n (q := 1) dJ6_bitCount_0f7a4_0 rfl rfl ?_
  refine aw_iload_n (q := 2) dJ6_bitCount_0f7a4_1 rfl rfl ?_
  refine aw_iconst (q := 3) (v := 1) dJ6_bitCount_0f7a4_2 rfl (by decide) ?_
  refine aw_iushr (q := 4) dJ6_bitCount_0f7a4_3 rfl ?_
  refine aw_ldcw (q := 7) dJ6_bitCount_0f7a4_4 rfl q_J6_265 ?_
  refine aw_iand (q := 8) dJ6_bitCount_0f7a4_7 rfl ?_
  refine aw_isub (q := 9) dJ6_bitCount_0f7a4_8 rfl ?_
  obtain ⟨y1, q2, H⟩ := zltd H
  refine aw_nm q2 ?_
  refine aw_istore_n (q := 10) (L' := [some (.int y1)]) dJ6_bitCount_0f7a4_9 rfl (by decide) rfl rfl ?_
  refine aw_iload_n (q := 11) dJ6_bitCount_0f7a4_10 rfl rfl ?_
  refine aw_ldcw (q := 14) dJ6_bitCount_0f7a4_11 rfl q_J6_266 ?_
  refine aw_iand (q := 15) dJ6_bitCount_0f7a4_14 rfl ?_
  refine aw_iload_n (q := 16) dJ6_bitCount_0f7a4_15 rfl rfl ?_
  refine aw_iconst (q := 17) (v := 2) dJ6_bitCount_0f7a4_16 rfl (by decide) ?_
  refine aw_iushr (q := 18) dJ6_bitCount_0f7a4_17 rfl ?_
  refine aw_ldcw (q := 21) dJ6_bitCount_0f7a4_18 rfl q_J6_266 ?_
  refine aw_iand (q := 22) dJ6_bitCount_0f7a4_21 rfl ?_
  refine aw_iadd (q := 23) dJ6_bitCount_0f7a4_22 rfl ?_
  obtain ⟨y3, q4, H⟩ := zltd H
  refine aw_nm q4 ?_
  refine aw_istore_n (q := 24) (L' := [some (.int y3)]) dJ6_bitCount_0f7a4_23 rfl (by decide) rfl rfl ?_
  refine aw_iload_n (q := 25) dJ6_bitCount_0f7a4_24 rfl rfl ?_
  refine aw_iload_n (q := 26) dJ6_bitCount_0f7a4_25 rfl rfl ?_
  refine aw_iconst (q := 27) (v := 4) dJ6_bitCount_0f7a4_26 rfl (by decide) ?_
  refine aw_iushr (q := 28) dJ6_bitCount_0f7a4_27 rfl ?_
  refine aw_iadd (q := 29) dJ6_bitCount_0f7a4_28 rfl ?_
  refine aw_ldcw (q := 32) dJ6_bitCount_0f7a4_29 rfl q_J6_267 ?_
  refine aw_iand (q := 33) dJ6_bitCount_0f7a4_32 rfl ?_
  obtain ⟨y5, q6, H⟩ := zltd H
  refine aw_nm q6 ?_
  refine aw_istore_n (q := 34) (L' := [some (.int y5)]) dJ6_bitCount_0f7a4_33 rfl (by decide) rfl rfl ?_
  refine aw_iload_n (q := 35) dJ6_bitCount_0f7a4_34 rfl rfl ?_
  refine aw_iload_n (q := 36) dJ6_bitCount_0f7a4_35 rfl rfl ?_
  refine aw_bipush (q := 38) (v := 8) dJ6_bitCount_0f7a4_36 rfl (by decide) ?_
  refine aw_iushr (q := 39) dJ6_bitCount_0f7a4_38 rfl ?_
  refine aw_iadd (q := 40) dJ6_bitCount_0f7a4_39 rfl ?_
  obtain ⟨y7, q8, H⟩ := zltd H
  refine aw_nm q8 ?_
  refine aw_istore_n (q := 41) (L' := [some (.int y7)]) dJ6_bitCount_0f7a4_40 rfl (by decide) rfl rfl ?_
  refine aw_iload_n (q := 42) dJ6_bitCount_0f7a4_41 rfl rfl ?_
  refine aw_iload_n (q := 43) dJ6_bitCount_0f7a4_42 rfl rfl ?_
  refine aw_bipush (q := 45) (v := 16) dJ6_bitCount_0f7a4_43 rfl (by decide) ?_
  refine aw_iushr (q := 46) dJ6_bitCount_0f7a4_45 rfl ?_
  refine aw_iadd (q := 47) dJ6_bitCount_0f7a4_46 rfl ?_
  obtain ⟨y9, q10, H⟩ := zltd H
  refine aw_nm q10 ?_
  refine aw_istore_n (q := 48) (L' := [some (.int y9)]) dJ6_bitCount_0f7a4_47 rfl (by decide) rfl rfl ?_
  refine aw_iload_n (q := 49) dJ6_bitCount_0f7a4_48 rfl rfl ?_
  refine aw_bipush (q := 51) (v := 63) dJ6_bitCount_0f7a4_49 rfl (by decide) ?_
  refine aw_iand (q := 52) dJ6_bitCount_0f7a4_51 rfl ?_
  subst H
  exact aw_ret dJ6_bitCount_0f7a4_52 rfl rfl rfl rfl ⟨rfl, rfl⟩
def f_X0_refusalOfNet (s : zs) (b : Nat) (x1 : Int32) : Int32 :=
  zlt (f_J6_bitCount_0f7a4 x1 : Int32) fun y1 =>
  if (x1 &&& (-65536)) = 0 then (
    if y1 < 2 then (
      (-1000001)
    ) else (
      if y1 ≤ 5 then (
        if (x1 &&& (s.1 b 12)) = 0 then (
          if (s.1 b 9) < 8 then (
            0
          ) else (
            (-1000003)
          )
        ) else (
          (-1000002)
        )
      ) else (
        (-1000001)
      )
    )
  ) else (
    (-1000001)
  )
set_option maxHeartbeats 4000000 in
set_option maxRecDepth 100000 in
theorem c_X0_refusalOfNet {G : zG} {sl : Nat} (s : zs) (R : zr) {b : Nat} (hb : zB b) (x1 : Int32)  : zMv G 1 M_X0_refusalOfNet [.ref b, .int x1] sl (zT s R) (fun r h' => r = some (.int (f_X0_refusalOfNet s b x1)) ∧ h' = (zT s R)) := by
  generalize H : f_X0_refusalOfNet s b x1 = r0
  unfold f_X0_refusalOfNet at H
  refine zMv_of (L := [some (.ref b), some (.int x1), none]) (by decide) rfl (Nat.le_of_ble_eq_true rfl) rfl ?_
  refine aw_iload_n (q := 1) dX0_refusalOfNet_0 rfl rfl ?_
  refine aw_cs (M' := M_J6_bitCount_0f7a4) (as := [.int x1]) (q := 4) dX0_refusalOfNet_1 rfl W_J6_bitCount_0f7a4 k_X0_67 s_J6_bitCount_0f7a4 rfl rfl (by decide) (Nat.le_of_ble_eq_true rfl) (c_J6_bitCount_0f7a4 (zT s R) x1) (Nat.le_refl _) (Nat.le_refl _) ?_
  rintro r9 h9 ⟨rfl, rfl⟩
  obtain ⟨y1, q2, H⟩ := zltd H
  refine aw_nm q2 ?_
  refine aw_istore_n (q := 5) (L' := [some (.ref b), some (.int x1), some (.int y1)]) dX0_refusalOfNet_4 rfl (by decide) rfl rfl ?_
  refine aw_iload_n (q := 6) dX0_refusalOfNet_5 rfl rfl ?_
  refine aw_ldc (q := 8) dX0_refusalOfNet_6 rfl q_X0_73 ?_
  refine aw_iand (q := 9) dX0_refusalOfNet_8 rfl ?_
  refine aw_if_neP (q := 12) (t := 22) dX0_refusalOfNet_9 rfl (by decide) (fun h3 => ?_) (fun h3 => ?_)
  · replace H := zt h3 H
    refine aw_iload_n (q := 13) dX0_refusalOfNet_12 rfl rfl ?_
    refine aw_iconst (q := 14) (v := 2) dX0_refusalOfNet_13 rfl (by decide) ?_
    refine aw_icmp_lt (q := 17) (t := 22) dX0_refusalOfNet_14 rfl (by decide) (fun h4 => ?_) (fun h4 => ?_)
    · replace H := zt h4 H
      refine aw_ldc (q := 24) dX0_refusalOfNet_22 rfl q_X0_74 ?_
      subst H
      exact aw_ret dX0_refusalOfNet_24 rfl rfl rfl rfl ⟨rfl, rfl⟩
    · replace H := zf h4 H
      refine aw_iload_n (q := 18) dX0_refusalOfNet_17 rfl rfl ?_
      refine aw_iconst (q := 19) (v := 5) dX0_refusalOfNet_18 rfl (by decide) ?_
      refine aw_icmp_le (q := 22) (t := 25) dX0_refusalOfNet_19 rfl (by decide) (fun h5 => ?_) (fun h5 => ?_)
      · replace H := zt h5 H
        refine aw_iload_n (q := 26) dX0_refusalOfNet_25 rfl rfl ?_
        refine aw_aload_n (q := 27) dX0_refusalOfNet_26 rfl rfl ?_
        refine aw_getr (q := 30) dX0_refusalOfNet_27 rfl e_X0_61 (zB_lt0 hb) (o_X0 hb s R) rfl ?_
        refine aw_iand (q := 31) dX0_refusalOfNet_30 rfl ?_
        refine aw_if_eq (q := 34) (t := 37) dX0_refusalOfNet_31 rfl (by decide) (fun h6 => ?_) (fun h6 => ?_)
        · replace H := zt h6 H
          refine aw_aload_n (q := 38) dX0_refusalOfNet_37 rfl rfl ?_
          refine aw_getr (q := 41) dX0_refusalOfNet_38 rfl e_X0_51 (zB_lt0 hb) (o_X0 hb s R) rfl ?_
          refine aw_bipush (q := 43) (v := 8) dX0_refusalOfNet_41 rfl (by decide) ?_
          refine aw_icmp_lt (q := 46) (t := 51) dX0_refusalOfNet_43 rfl (by decide) (fun h7 => ?_) (fun h7 => ?_)
          · replace H := zt h7 H
            refine aw_iconst (q := 52) (v := 0) dX0_refusalOfNet_51 rfl (by decide) ?_
            subst H
            exact aw_ret dX0_refusalOfNet_52 rfl rfl rfl rfl ⟨rfl, rfl⟩
          · replace H := zf h7 H
            refine aw_ldc (q := 48) dX0_refusalOfNet_46 rfl q_X0_76 ?_
            refine aw_goto (q := 52) dX0_refusalOfNet_48 (by decide) ?_
            subst H
            exact aw_ret dX0_refusalOfNet_52 rfl rfl rfl rfl ⟨rfl, rfl⟩
        · replace H := zf h6 H
          refine aw_ldc (q := 36) dX0_refusalOfNet_34 rfl q_X0_75 ?_
          subst H
          exact aw_ret dX0_refusalOfNet_36 rfl rfl rfl rfl ⟨rfl, rfl⟩
      · replace H := zf h5 H
        refine aw_ldc (q := 24) dX0_refusalOfNet_22 rfl q_X0_74 ?_
        subst H
        exact aw_ret dX0_refusalOfNet_24 rfl rfl rfl rfl ⟨rfl, rfl⟩
  · replace H := zf h3 H
    refine aw_ldc (q := 24) dX0_refusalOfNet_22 rfl q_X0_74 ?_
    subst H
    exact aw_ret dX0_refusalOfNet_24 rfl rfl rfl rfl ⟨rfl, rfl⟩
def f_X6_hasBit (x0 : Int32) (x1 : Int32) : Bool :=
  if ((x0 >>> (x1 &&& 31)) &&& 1) = 1 then (
    true
  ) else (
    false
  )
set_option maxHeartbeats 4000000 in
set_option maxRecDepth 100000 in
theorem c_X6_hasBit {G : zG} {sl : Nat} (h : zH) (x0 : Int32) (x1 : Int32)  : zMv G 0 M_X6_hasBit [.int x0, .int x1] sl h (fun r h' => r = some (.int (zb (f_X6_hasBit x0 x1))) ∧ h' = h) := by
  generalize H : f_X6_hasBit x0 x1 = r0
  unfold f_X6_hasBit at H
  refine zMv_of (L := [some (.int x0), some (.int x1)]) (by decide) rfl (Nat.le_of_ble_eq_true rfl) rfl ?_
  refine aw_iload_n (q := 1) dX6_hasBit_0 rfl rfl ?_
  refine aw_iload_n (q := 2) dX6_hasBit_1 rfl rfl ?_
  refine aw_ishr (q := 3) dX6_hasBit_2 rfl ?_
  refine aw_iconst (q := 4) (v := 1) dX6_hasBit_3 rfl (by decide) ?_
  refine aw_iand (q := 5) dX6_hasBit_4 rfl ?_
  refine aw_iconst (q := 6) (v := 1) dX6_hasBit_5 rfl (by decide) ?_
  refine aw_icmp_neP (q := 9) (t := 13) dX6_hasBit_6 rfl (by decide) (fun h1 => ?_) (fun h1 => ?_)
  · replace H := zt h1 H
    refine aw_iconst (q := 10) (v := 1) dX6_hasBit_9 rfl (by decide) ?_
    refine aw_goto (q := 14) dX6_hasBit_10 (by decide) ?_
    subst H
    exact aw_ret dX6_hasBit_14 rfl rfl rfl rfl ⟨rfl, rfl⟩
  · replace H := zf h1 H
    refine aw_iconst (q := 14) (v := 0) dX6_hasBit_13 rfl (by decide) ?_
    subst H
    exact aw_ret dX6_hasBit_14 rfl rfl rfl rfl ⟨rfl, rfl⟩
def f_X0_addNet_22 : Nat → zs → Nat → Int32 → Int32 → Option (zs)
  | 0, _, _, _, _ => none
  | k + 1, s, b, x1, x2 =>
    if (16 : Int32) ≤ x2 then (
      some s
    ) else (
      if f_X6_hasBit x1 x2 = true then (
        if zin x2 16 = true then
        zlt (zc s (b + 2) x2.toNatClampNeg (s.1 b 9)) fun s4 =>
        f_X0_addNet_22 k s4 b x1 (x2 + 1)
        else none
      ) else (
        f_X0_addNet_22 k s b x1 (x2 + 1)
      )
    )
set_option maxHeartbeats 4000000 in
set_option maxRecDepth 100000 in
theorem L_X0_addNet_22 {G : zG} {sl : Nat} {P : Option Value → zH → Prop} (R : zr) {b : Nat} (hb : zB b) (x1 : Int32) : ∀ (k : Nat) (s : zs) (x2 : Int32) (e : zs), f_X0_addNet_22 k s b x1 x2 = some e → (AV G M_X0_addNet 1 sl P 52 [some (.ref b), none, none] [] (zT e R)) → AV G M_X0_addNet 1 sl P 22 [some (.ref b), some (.int x1), some (.int x2)] [] (zT s R) := by
  intro k
  induction k with
  | zero =>
    intro s x2 e H
    unfold f_X0_addNet_22 at H
    cases H
  | succ k ih =>
    intro s x2 e H KE
    unfold f_X0_addNet_22 at H
    refine aw_iload_n (q := 23) dX0_addNet_22 rfl rfl ?_
    refine aw_bipush (q := 25) (v := 16) dX0_addNet_23 rfl (by decide) ?_
    refine aw_icmp_ge (q := 28) (t := 52) dX0_addNet_25 rfl (by decide) (fun h1 => ?_) (fun h1 => ?_)
    · replace H := zt h1 H
      cases H
      exact aw_fewer (L' := [some (.ref b), none, none]) ⟨rfl, trivial⟩ KE
    · replace H := zf h1 H
      refine aw_iload_n (q := 29) dX0_addNet_28 rfl rfl ?_
      refine aw_iload_n (q := 30) dX0_addNet_29 rfl rfl ?_
      refine aw_csN (M' := M_X6_hasBit) (as := [.int x1, .int x2]) (q := 33) dX0_addNet_30 rfl W_X6_hasBit (show (RX0, 77, yX6_hasBit) ∈ zNl by decide) s_X6_hasBit rfl rfl (by decide) (Nat.le_of_ble_eq_true rfl) (c_X6_hasBit (zT s R) x1 x2) (Nat.le_refl _) (Nat.le_refl _) ?_
      rintro r9 h9 ⟨rfl, rfl⟩
      refine aw_ifeqB (q := 36) (t := 46) dX0_addNet_33 rfl (by decide) (fun h2 => ?_) (fun h2 => ?_)
      · replace H := zt h2 H
        refine aw_aload_n (q := 37) dX0_addNet_36 rfl rfl ?_
        refine aw_getr (q := 40) dX0_addNet_37 rfl e_X0_15 (zB_lt0 hb) (o_X0 hb s R) rfl ?_
        refine aw_iload_n (q := 41) dX0_addNet_40 rfl rfl ?_
        refine aw_aload_n (q := 42) dX0_addNet_41 rfl rfl ?_
        refine aw_getr (q := 45) dX0_addNet_42 rfl e_X0_51 (zB_lt0 hb) (o_X0 hb s R) rfl ?_
        obtain ⟨h3, H⟩ := zio H
        obtain ⟨s4, q5, H⟩ := zltd H
        refine aw_iast (q := 46) dX0_addNet_45 rfl (zB_lt (k := 2) hb (by decide)) (o_X0a1 hb s R) (zin_in h3) ((p_X0a1 hb).trans (congrArg (fun z => zT z R) q5.symm)) ?_
        refine aw_iinc (q := 49) (v := x2 + 1) (L' := [some (.ref b), some (.int x1), some (.int (x2 + 1))]) dX0_addNet_46 rfl rfl (by first | rfl | decide) (by decide) rfl rfl ?_
        refine aw_goto (q := 22) dX0_addNet_49 (by decide) ?_
        exact aw_fewer (L' := [some (.ref b), some (.int x1), some (.int (x2 + 1))]) ⟨rfl, ⟨rfl, ⟨rfl, trivial⟩⟩⟩ (ih s4 (x2 + 1) _ H KE)
      · replace H := zf h2 H
        refine aw_iinc (q := 49) (v := x2 + 1) (L' := [some (.ref b), some (.int x1), some (.int (x2 + 1))]) dX0_addNet_46 rfl rfl (by first | rfl | decide) (by decide) rfl rfl ?_
        refine aw_goto (q := 22) dX0_addNet_49 (by decide) ?_
        exact aw_fewer (L' := [some (.ref b), some (.int x1), some (.int (x2 + 1))]) ⟨rfl, ⟨rfl, ⟨rfl, trivial⟩⟩⟩ (ih s (x2 + 1) _ H KE)
def f_X0_addNet (s : zs) (b : Nat) (x1 : Int32) : Option (Int32 × zs) :=
  if zin (s.1 b 9) 8 = true then
  zlt (zc s (b + 1) ((s.1 b 9).toNatClampNeg) x1) fun s2 =>
  zlt (zc s2 b 12 ((s2.1 b 12) ||| x1)) fun s4 =>
  Option.bind (f_X0_addNet_22 zFu s4 b x1 0) fun e6 =>
  zlt (zc e6 b 9 ((e6.1 b 9) + 1)) fun s7 =>
  some ((s7.1 b 9) - 1, s7)
  else none
set_option maxHeartbeats 4000000 in
set_option maxRecDepth 100000 in
theorem c_X0_addNet {G : zG} {sl : Nat} (s : zs) (R : zr) {b : Nat} (hb : zB b) (x1 : Int32) {v9 : (Int32 × zs)} (H : f_X0_addNet s b x1 = some v9) : zMv G 1 M_X0_addNet [.ref b, .int x1] sl (zT s R) (fun r h' => r = some (.int v9.1) ∧ h' = zT v9.2 R) := by
  unfold f_X0_addNet at H
  refine zMv_of (L := [some (.ref b), some (.int x1), none]) (by decide) rfl (Nat.le_of_ble_eq_true rfl) rfl ?_
  refine aw_aload_n (q := 1) dX0_addNet_0 rfl rfl ?_
  refine aw_getr (q := 4) dX0_addNet_1 rfl e_X0_9 (zB_lt0 hb) (o_X0 hb s R) rfl ?_
  refine aw_aload_n (q := 5) dX0_addNet_4 rfl rfl ?_
  refine aw_getr (q := 8) dX0_addNet_5 rfl e_X0_51 (zB_lt0 hb) (o_X0 hb s R) rfl ?_
  refine aw_iload_n (q := 9) dX0_addNet_8 rfl rfl ?_
  obtain ⟨h1, H⟩ := zio H
  obtain ⟨s2, q3, H⟩ := zltd H
  refine aw_iast (q := 10) dX0_addNet_9 rfl (zB_lt (k := 1) hb (by decide)) (o_X0a0 hb s R) (zin_in h1) ((p_X0a0 hb).trans (congrArg (fun z => zT z R) q3.symm)) ?_
  refine aw_aload_n (q := 11) dX0_addNet_10 rfl rfl ?_
  refine aw_dup (q := 12) dX0_addNet_11 rfl rfl ?_
  refine aw_getr (q := 15) dX0_addNet_12 rfl e_X0_61 (zB_lt0 hb) (o_X0 hb s2 R) rfl ?_
  refine aw_iload_n (q := 16) dX0_addNet_15 rfl rfl ?_
  refine aw_ior (q := 17) dX0_addNet_16 rfl ?_
  obtain ⟨s4, q5, H⟩ := zltd H
  refine aw_put (q := 20) dX0_addNet_17 rfl f_X0_61 (zB_lt0 hb) (o_X0 hb s2 R) rfl rfl (Nat.le_of_ble_eq_true rfl) ((p_X0_12 hb).trans (congrArg (fun z => zT z R) q5.symm)) ?_
  refine aw_iconst (q := 21) (v := 0) dX0_addNet_20 rfl (by decide) ?_
  refine aw_istore_n (q := 22) (L' := [some (.ref b), some (.int x1), some (.int 0)]) dX0_addNet_21 rfl (by decide) rfl rfl ?_
  obtain ⟨e6, he6, H⟩ := zbd H
  refine aw_fewer (L' := [some (.ref b), some (.int x1), some (.int 0)]) ⟨rfl, ⟨rfl, ⟨rfl, trivial⟩⟩⟩ ?_
  refine L_X0_addNet_22 R hb x1 zFu s4 0 e6 he6 ?_
  refine aw_aload_n (q := 53) dX0_addNet_52 rfl rfl ?_
  refine aw_dup (q := 54) dX0_addNet_53 rfl rfl ?_
  refine aw_getr (q := 57) dX0_addNet_54 rfl e_X0_51 (zB_lt0 hb) (o_X0 hb e6 R) rfl ?_
  refine aw_iconst (q := 58) (v := 1) dX0_addNet_57 rfl (by decide) ?_
  refine aw_iadd (q := 59) dX0_addNet_58 rfl ?_
  obtain ⟨s7, q8, H⟩ := zltd H
  refine aw_put (q := 62) dX0_addNet_59 rfl f_X0_51 (zB_lt0 hb) (o_X0 hb e6 R) rfl rfl (Nat.le_of_ble_eq_true rfl) ((p_X0_9 hb).trans (congrArg (fun z => zT z R) q8.symm)) ?_
  refine aw_aload_n (q := 63) dX0_addNet_62 rfl rfl ?_
  refine aw_getr (q := 66) dX0_addNet_63 rfl e_X0_51 (zB_lt0 hb) (o_X0 hb s7 R) rfl ?_
  refine aw_iconst (q := 67) (v := 1) dX0_addNet_66 rfl (by decide) ?_
  refine aw_isub (q := 68) dX0_addNet_67 rfl ?_
  cases H
  exact aw_ret dX0_addNet_68 rfl rfl rfl rfl ⟨rfl, rfl⟩
def f_X6_isPin (x0 : Int32) : Bool :=
  if x0 < 0 then (
    false
  ) else (
    if (16 : Int32) ≤ x0 then (
      false
    ) else (
      true
    )
  )
set_option maxHeartbeats 4000000 in
set_option maxRecDepth 100000 in
theorem c_X6_isPin {G : zG} {sl : Nat} (h : zH) (x0 : Int32)  : zMv G 0 M_X6_isPin [.int x0] sl h (fun r h' => r = some (.int (zb (f_X6_isPin x0))) ∧ h' = h) := by
  generalize H : f_X6_isPin x0 = r0
  unfold f_X6_isPin at H
  refine zMv_of (L := [some (.int x0)]) (by decide) rfl (Nat.le_of_ble_eq_true rfl) rfl ?_
  refine aw_iload_n (q := 1) dX6_isPin_0 rfl rfl ?_
  refine aw_if_lt (q := 4) (t := 14) dX6_isPin_1 rfl (by decide) (fun h1 => ?_) (fun h1 => ?_)
  · replace H := zt h1 H
    refine aw_iconst (q := 15) (v := 0) dX6_isPin_14 rfl (by decide) ?_
    subst H
    exact aw_ret dX6_isPin_15 rfl rfl rfl rfl ⟨rfl, rfl⟩
  · replace H := zf h1 H
    refine aw_iload_n (q := 5) dX6_isPin_4 rfl rfl ?_
    refine aw_bipush (q := 7) (v := 16) dX6_isPin_5 rfl (by decide) ?_
    refine aw_icmp_ge (q := 10) (t := 14) dX6_isPin_7 rfl (by decide) (fun h2 => ?_) (fun h2 => ?_)
    · replace H := zt h2 H
      refine aw_iconst (q := 15) (v := 0) dX6_isPin_14 rfl (by decide) ?_
      subst H
      exact aw_ret dX6_isPin_15 rfl rfl rfl rfl ⟨rfl, rfl⟩
    · replace H := zf h2 H
      refine aw_iconst (q := 11) (v := 1) dX6_isPin_10 rfl (by decide) ?_
      refine aw_goto (q := 15) dX6_isPin_11 (by decide) ?_
      subst H
      exact aw_ret dX6_isPin_15 rfl rfl rfl rfl ⟨rfl, rfl⟩
def f_X0_refusalOfChip (s : zs) (b : Nat) (x1 : Int32) (x2 : Int32) (x3 : Int32) : Int32 :=
  if f_X6_isPin x1 = true then (
    if f_X6_isPin x2 = true then (
      if x1 = x2 then (
        (-1000001)
      ) else (
        if (x3 &&& (-65536)) = 0 then (
          if (5 : Int32) < (f_J6_bitCount_0f7a4 x3) then (
            (-1000001)
          ) else (
            if f_X6_hasBit x3 x1 = true then (
              (-1000001)
            ) else (
              if f_X6_hasBit x3 x2 = true then (
                (-1000001)
              ) else (
                if (((((1 : Int32) <<< (x1 &&& 31)) ||| ((1 : Int32) <<< (x2 &&& 31))) ||| x3) &&& (s.1 b 13)) = 0 then (
                  if (s.1 b 10) < 5 then (
                    0
                  ) else (
                    (-1000003)
                  )
                ) else (
                  (-1000002)
                )
              )
            )
          )
        ) else (
          (-1000001)
        )
      )
    ) else (
      (-1000001)
    )
  ) else (
    (-1000001)
  )
set_option maxHeartbeats 4000000 in
set_option maxRecDepth 100000 in
theorem c_X0_refusalOfChip {G : zG} {sl : Nat} (s : zs) (R : zr) {b : Nat} (hb : zB b) (x1 : Int32) (x2 : Int32) (x3 : Int32)  : zMv G 1 M_X0_refusalOfChip [.ref b, .int x1, .int x2, .int x3] sl (zT s R) (fun r h' => r = some (.int (f_X0_refusalOfChip s b x1 x2 x3)) ∧ h' = (zT s R)) := by
  generalize H : f_X0_refusalOfChip s b x1 x2 x3 = r0
  unfold f_X0_refusalOfChip at H
  refine zMv_of (L := [some (.ref b), some (.int x1), some (.int x2), some (.int x3)]) (by decide) rfl (Nat.le_of_ble_eq_true rfl) rfl ?_
  refine aw_iload_n (q := 1) dX0_refusalOfChip_0 rfl rfl ?_
  refine aw_csN (M' := M_X6_isPin) (as := [.int x1]) (q := 4) dX0_refusalOfChip_1 rfl W_X6_isPin (show (RX0, 81, yX6_isPin) ∈ zNl by decide) s_X6_isPin rfl rfl (by decide) (Nat.le_of_ble_eq_true rfl) (c_X6_isPin (zT s R) x1) (Nat.le_refl _) (Nat.le_refl _) ?_
  rintro r9 h9 ⟨rfl, rfl⟩
  refine aw_ifeqB (q := 7) (t := 19) dX0_refusalOfChip_4 rfl (by decide) (fun h1 => ?_) (fun h1 => ?_)
  · replace H := zt h1 H
    refine aw_iload_n (q := 8) dX0_refusalOfChip_7 rfl rfl ?_
    refine aw_csN (M' := M_X6_isPin) (as := [.int x2]) (q := 11) dX0_refusalOfChip_8 rfl W_X6_isPin (show (RX0, 81, yX6_isPin) ∈ zNl by decide) s_X6_isPin rfl rfl (by decide) (Nat.le_of_ble_eq_true rfl) (c_X6_isPin (zT s R) x2) (Nat.le_refl _) (Nat.le_refl _) ?_
    rintro r9 h9 ⟨rfl, rfl⟩
    refine aw_ifeqB (q := 14) (t := 19) dX0_refusalOfChip_11 rfl (by decide) (fun h2 => ?_) (fun h2 => ?_)
    · replace H := zt h2 H
      refine aw_iload_n (q := 15) dX0_refusalOfChip_14 rfl rfl ?_
      refine aw_iload_n (q := 16) dX0_refusalOfChip_15 rfl rfl ?_
      refine aw_icmp_neP (q := 19) (t := 22) dX0_refusalOfChip_16 rfl (by decide) (fun h3 => ?_) (fun h3 => ?_)
      · replace H := zt h3 H
        refine aw_ldc (q := 21) dX0_refusalOfChip_19 rfl q_X0_74 ?_
        subst H
        exact aw_ret dX0_refusalOfChip_21 rfl rfl rfl rfl ⟨rfl, rfl⟩
      · replace H := zf h3 H
        refine aw_iload_n (q := 23) dX0_refusalOfChip_22 rfl rfl ?_
        refine aw_ldc (q := 25) dX0_refusalOfChip_23 rfl q_X0_73 ?_
        refine aw_iand (q := 26) dX0_refusalOfChip_25 rfl ?_
        refine aw_if_neP (q := 29) (t := 53) dX0_refusalOfChip_26 rfl (by decide) (fun h4 => ?_) (fun h4 => ?_)
        · replace H := zt h4 H
          refine aw_iload_n (q := 30) dX0_refusalOfChip_29 rfl rfl ?_
          refine aw_cs (M' := M_J6_bitCount_0f7a4) (as := [.int x3]) (q := 33) dX0_refusalOfChip_30 rfl W_J6_bitCount_0f7a4 k_X0_67 s_J6_bitCount_0f7a4 rfl rfl (by decide) (Nat.le_of_ble_eq_true rfl) (c_J6_bitCount_0f7a4 (zT s R) x3) (Nat.le_refl _) (Nat.le_refl _) ?_
          rintro r9 h9 ⟨rfl, rfl⟩
          refine aw_iconst (q := 34) (v := 5) dX0_refusalOfChip_33 rfl (by decide) ?_
          refine aw_icmp_gt (q := 37) (t := 53) dX0_refusalOfChip_34 rfl (by decide) (fun h5 => ?_) (fun h5 => ?_)
          · replace H := zt h5 H
            refine aw_ldc (q := 55) dX0_refusalOfChip_53 rfl q_X0_74 ?_
            subst H
            exact aw_ret dX0_refusalOfChip_55 rfl rfl rfl rfl ⟨rfl, rfl⟩
          · replace H := zf h5 H
            refine aw_iload_n (q := 38) dX0_refusalOfChip_37 rfl rfl ?_
            refine aw_iload_n (q := 39) dX0_refusalOfChip_38 rfl rfl ?_
            refine aw_csN (M' := M_X6_hasBit) (as := [.int x3, .int x1]) (q := 42) dX0_refusalOfChip_39 rfl W_X6_hasBit (show (RX0, 77, yX6_hasBit) ∈ zNl by decide) s_X6_hasBit rfl rfl (by decide) (Nat.le_of_ble_eq_true rfl) (c_X6_hasBit (zT s R) x3 x1) (Nat.le_refl _) (Nat.le_refl _) ?_
            rintro r9 h9 ⟨rfl, rfl⟩
            refine aw_ifneB (q := 45) (t := 53) dX0_refusalOfChip_42 rfl (by decide) (fun h6 => ?_) (fun h6 => ?_)
            · replace H := zt h6 H
              refine aw_ldc (q := 55) dX0_refusalOfChip_53 rfl q_X0_74 ?_
              subst H
              exact aw_ret dX0_refusalOfChip_55 rfl rfl rfl rfl ⟨rfl, rfl⟩
            · replace H := zf h6 H
              refine aw_iload_n (q := 46) dX0_refusalOfChip_45 rfl rfl ?_
              refine aw_iload_n (q := 47) dX0_refusalOfChip_46 rfl rfl ?_
              refine aw_csN (M' := M_X6_hasBit) (as := [.int x3, .int x2]) (q := 50) dX0_refusalOfChip_47 rfl W_X6_hasBit (show (RX0, 77, yX6_hasBit) ∈ zNl by decide) s_X6_hasBit rfl rfl (by decide) (Nat.le_of_ble_eq_true rfl) (c_X6_hasBit (zT s R) x3 x2) (Nat.le_refl _) (Nat.le_refl _) ?_
              rintro r9 h9 ⟨rfl, rfl⟩
              refine aw_ifeqB (q := 53) (t := 56) dX0_refusalOfChip_50 rfl (by decide) (fun h7 => ?_) (fun h7 => ?_)
              · replace H := zt h7 H
                refine aw_ldc (q := 55) dX0_refusalOfChip_53 rfl q_X0_74 ?_
                subst H
                exact aw_ret dX0_refusalOfChip_55 rfl rfl rfl rfl ⟨rfl, rfl⟩
              · replace H := zf h7 H
                refine aw_iconst (q := 57) (v := 1) dX0_refusalOfChip_56 rfl (by decide) ?_
                refine aw_iload_n (q := 58) dX0_refusalOfChip_57 rfl rfl ?_
                refine aw_ishl (q := 59) dX0_refusalOfChip_58 rfl ?_
                refine aw_iconst (q := 60) (v := 1) dX0_refusalOfChip_59 rfl (by decide) ?_
                refine aw_iload_n (q := 61) dX0_refusalOfChip_60 rfl rfl ?_
                refine aw_ishl (q := 62) dX0_refusalOfChip_61 rfl ?_
                refine aw_ior (q := 63) dX0_refusalOfChip_62 rfl ?_
                refine aw_iload_n (q := 64) dX0_refusalOfChip_63 rfl rfl ?_
                refine aw_ior (q := 65) dX0_refusalOfChip_64 rfl ?_
                refine aw_aload_n (q := 66) dX0_refusalOfChip_65 rfl rfl ?_
                refine aw_getr (q := 69) dX0_refusalOfChip_66 rfl e_X0_64 (zB_lt0 hb) (o_X0 hb s R) rfl ?_
                refine aw_iand (q := 70) dX0_refusalOfChip_69 rfl ?_
                refine aw_if_eq (q := 73) (t := 76) dX0_refusalOfChip_70 rfl (by decide) (fun h8 => ?_) (fun h8 => ?_)
                · replace H := zt h8 H
                  refine aw_aload_n (q := 77) dX0_refusalOfChip_76 rfl rfl ?_
                  refine aw_getr (q := 80) dX0_refusalOfChip_77 rfl e_X0_55 (zB_lt0 hb) (o_X0 hb s R) rfl ?_
                  refine aw_iconst (q := 81) (v := 5) dX0_refusalOfChip_80 rfl (by decide) ?_
                  refine aw_icmp_lt (q := 84) (t := 89) dX0_refusalOfChip_81 rfl (by decide) (fun h9 => ?_) (fun h9 => ?_)
                  · replace H := zt h9 H
                    refine aw_iconst (q := 90) (v := 0) dX0_refusalOfChip_89 rfl (by decide) ?_
                    subst H
                    exact aw_ret dX0_refusalOfChip_90 rfl rfl rfl rfl ⟨rfl, rfl⟩
                  · replace H := zf h9 H
                    refine aw_ldc (q := 86) dX0_refusalOfChip_84 rfl q_X0_76 ?_
                    refine aw_goto (q := 90) dX0_refusalOfChip_86 (by decide) ?_
                    subst H
                    exact aw_ret dX0_refusalOfChip_90 rfl rfl rfl rfl ⟨rfl, rfl⟩
                · replace H := zf h8 H
                  refine aw_ldc (q := 75) dX0_refusalOfChip_73 rfl q_X0_75 ?_
                  subst H
                  exact aw_ret dX0_refusalOfChip_75 rfl rfl rfl rfl ⟨rfl, rfl⟩
        · replace H := zf h4 H
          refine aw_ldc (q := 55) dX0_refusalOfChip_53 rfl q_X0_74 ?_
          subst H
          exact aw_ret dX0_refusalOfChip_55 rfl rfl rfl rfl ⟨rfl, rfl⟩
    · replace H := zf h2 H
      refine aw_ldc (q := 21) dX0_refusalOfChip_19 rfl q_X0_74 ?_
      subst H
      exact aw_ret dX0_refusalOfChip_21 rfl rfl rfl rfl ⟨rfl, rfl⟩
  · replace H := zf h1 H
    refine aw_ldc (q := 21) dX0_refusalOfChip_19 rfl q_X0_74 ?_
    subst H
    exact aw_ret dX0_refusalOfChip_21 rfl rfl rfl rfl ⟨rfl, rfl⟩
def f_X0_addChip (s : zs) (b : Nat) (x1 : Int32) (x2 : Int32) (x3 : Int32) : Option (Int32 × zs) :=
  if zin (s.1 b 10) 5 = true then
  zlt (zc s (b + 3) ((s.1 b 10).toNatClampNeg) x1) fun s2 =>
  if zin (s2.1 b 10) 5 = true then
  zlt (zc s2 (b + 4) ((s2.1 b 10).toNatClampNeg) x2) fun s5 =>
  if zin (s5.1 b 10) 5 = true then
  zlt (zc s5 (b + 5) ((s5.1 b 10).toNatClampNeg) x3) fun s8 =>
  zlt (zc s8 b 13 ((s8.1 b 13) ||| ((((1 : Int32) <<< (x1 &&& 31)) ||| ((1 : Int32) <<< (x2 &&& 31))) ||| x3))) fun s10 =>
  zlt (zc s10 b 10 ((s10.1 b 10) + 1)) fun s12 =>
  some ((s12.1 b 10) - 1, s12)
  else none
  else none
  else none
set_option maxHeartbeats 4000000 in
set_option maxRecDepth 100000 in
theorem c_X0_addChip {G : zG} {sl : Nat} (s : zs) (R : zr) {b : Nat} (hb : zB b) (x1 : Int32) (x2 : Int32) (x3 : Int32) {v9 : (Int32 × zs)} (H : f_X0_addChip s b x1 x2 x3 = some v9) : zMv G 0 M_X0_addChip [.ref b, .int x1, .int x2, .int x3] sl (zT s R) (fun r h' => r = some (.int v9.1) ∧ h' = zT v9.2 R) := by
  unfold f_X0_addChip at H
  refine zMv_of (L := [some (.ref b), some (.int x1), some (.int x2), some (.int x3)]) (by decide) rfl (Nat.le_of_ble_eq_true rfl) rfl ?_
  refine aw_aload_n (q := 1) dX0_addChip_0 rfl rfl ?_
  refine aw_getr (q := 4) dX0_addChip_1 rfl e_X0_18 (zB_lt0 hb) (o_X0 hb s R) rfl ?_
  refine aw_aload_n (q := 5) dX0_addChip_4 rfl rfl ?_
  refine aw_getr (q := 8) dX0_addChip_5 rfl e_X0_55 (zB_lt0 hb) (o_X0 hb s R) rfl ?_
  refine aw_iload_n (q := 9) dX0_addChip_8 rfl rfl ?_
  obtain ⟨h1, H⟩ := zio H
  obtain ⟨s2, q3, H⟩ := zltd H
  refine aw_iast (q := 10) dX0_addChip_9 rfl (zB_lt (k := 3) hb (by decide)) (o_X0a2 hb s R) (zin_in h1) ((p_X0a2 hb).trans (congrArg (fun z => zT z R) q3.symm)) ?_
  refine aw_aload_n (q := 11) dX0_addChip_10 rfl rfl ?_
  refine aw_getr (q := 14) dX0_addChip_11 rfl e_X0_21 (zB_lt0 hb) (o_X0 hb s2 R) rfl ?_
  refine aw_aload_n (q := 15) dX0_addChip_14 rfl rfl ?_
  refine aw_getr (q := 18) dX0_addChip_15 rfl e_X0_55 (zB_lt0 hb) (o_X0 hb s2 R) rfl ?_
  refine aw_iload_n (q := 19) dX0_addChip_18 rfl rfl ?_
  obtain ⟨h4, H⟩ := zio H
  obtain ⟨s5, q6, H⟩ := zltd H
  refine aw_iast (q := 20) dX0_addChip_19 rfl (zB_lt (k := 4) hb (by decide)) (o_X0a3 hb s2 R) (zin_in h4) ((p_X0a3 hb).trans (congrArg (fun z => zT z R) q6.symm)) ?_
  refine aw_aload_n (q := 21) dX0_addChip_20 rfl rfl ?_
  refine aw_getr (q := 24) dX0_addChip_21 rfl e_X0_24 (zB_lt0 hb) (o_X0 hb s5 R) rfl ?_
  refine aw_aload_n (q := 25) dX0_addChip_24 rfl rfl ?_
  refine aw_getr (q := 28) dX0_addChip_25 rfl e_X0_55 (zB_lt0 hb) (o_X0 hb s5 R) rfl ?_
  refine aw_iload_n (q := 29) dX0_addChip_28 rfl rfl ?_
  obtain ⟨h7, H⟩ := zio H
  obtain ⟨s8, q9, H⟩ := zltd H
  refine aw_iast (q := 30) dX0_addChip_29 rfl (zB_lt (k := 5) hb (by decide)) (o_X0a4 hb s5 R) (zin_in h7) ((p_X0a4 hb).trans (congrArg (fun z => zT z R) q9.symm)) ?_
  refine aw_aload_n (q := 31) dX0_addChip_30 rfl rfl ?_
  refine aw_dup (q := 32) dX0_addChip_31 rfl rfl ?_
  refine aw_getr (q := 35) dX0_addChip_32 rfl e_X0_64 (zB_lt0 hb) (o_X0 hb s8 R) rfl ?_
  refine aw_iconst (q := 36) (v := 1) dX0_addChip_35 rfl (by decide) ?_
  refine aw_iload_n (q := 37) dX0_addChip_36 rfl rfl ?_
  refine aw_ishl (q := 38) dX0_addChip_37 rfl ?_
  refine aw_iconst (q := 39) (v := 1) dX0_addChip_38 rfl (by decide) ?_
  refine aw_iload_n (q := 40) dX0_addChip_39 rfl rfl ?_
  refine aw_ishl (q := 41) dX0_addChip_40 rfl ?_
  refine aw_ior (q := 42) dX0_addChip_41 rfl ?_
  refine aw_iload_n (q := 43) dX0_addChip_42 rfl rfl ?_
  refine aw_ior (q := 44) dX0_addChip_43 rfl ?_
  refine aw_ior (q := 45) dX0_addChip_44 rfl ?_
  obtain ⟨s10, q11, H⟩ := zltd H
  refine aw_put (q := 48) dX0_addChip_45 rfl f_X0_64 (zB_lt0 hb) (o_X0 hb s8 R) rfl rfl (Nat.le_of_ble_eq_true rfl) ((p_X0_13 hb).trans (congrArg (fun z => zT z R) q11.symm)) ?_
  refine aw_aload_n (q := 49) dX0_addChip_48 rfl rfl ?_
  refine aw_dup (q := 50) dX0_addChip_49 rfl rfl ?_
  refine aw_getr (q := 53) dX0_addChip_50 rfl e_X0_55 (zB_lt0 hb) (o_X0 hb s10 R) rfl ?_
  refine aw_iconst (q := 54) (v := 1) dX0_addChip_53 rfl (by decide) ?_
  refine aw_iadd (q := 55) dX0_addChip_54 rfl ?_
  obtain ⟨s12, q13, H⟩ := zltd H
  refine aw_put (q := 58) dX0_addChip_55 rfl f_X0_55 (zB_lt0 hb) (o_X0 hb s10 R) rfl rfl (Nat.le_of_ble_eq_true rfl) ((p_X0_10 hb).trans (congrArg (fun z => zT z R) q13.symm)) ?_
  refine aw_aload_n (q := 59) dX0_addChip_58 rfl rfl ?_
  refine aw_getr (q := 62) dX0_addChip_59 rfl e_X0_55 (zB_lt0 hb) (o_X0 hb s12 R) rfl ?_
  refine aw_iconst (q := 63) (v := 1) dX0_addChip_62 rfl (by decide) ?_
  refine aw_isub (q := 64) dX0_addChip_63 rfl ?_
  cases H
  exact aw_ret dX0_addChip_64 rfl rfl rfl rfl ⟨rfl, rfl⟩
def f_X0_placesFor (s : zs) (b : Nat) (x1 : Int32) : Int32 :=
  if x1 = 0 then (
    16
  ) else (
    if x1 = 4 then (
      s.1 b 10
    ) else (
      s.1 b 9
    )
  )
set_option maxHeartbeats 4000000 in
set_option maxRecDepth 100000 in
theorem c_X0_placesFor {G : zG} {sl : Nat} (s : zs) (R : zr) {b : Nat} (hb : zB b) (x1 : Int32)  : zMv G 0 M_X0_placesFor [.ref b, .int x1] sl (zT s R) (fun r h' => r = some (.int (f_X0_placesFor s b x1)) ∧ h' = (zT s R)) := by
  generalize H : f_X0_placesFor s b x1 = r0
  unfold f_X0_placesFor at H
  refine zMv_of (L := [some (.ref b), some (.int x1)]) (by decide) rfl (Nat.le_of_ble_eq_true rfl) rfl ?_
  refine aw_iload_n (q := 1) dX0_placesFor_0 rfl rfl ?_
  refine aw_if_neP (q := 4) (t := 7) dX0_placesFor_1 rfl (by decide) (fun h1 => ?_) (fun h1 => ?_)
  · replace H := zt h1 H
    refine aw_bipush (q := 6) (v := 16) dX0_placesFor_4 rfl (by decide) ?_
    subst H
    exact aw_ret dX0_placesFor_6 rfl rfl rfl rfl ⟨rfl, rfl⟩
  · replace H := zf h1 H
    refine aw_iload_n (q := 8) dX0_placesFor_7 rfl rfl ?_
    refine aw_iconst (q := 9) (v := 4) dX0_placesFor_8 rfl (by decide) ?_
    refine aw_icmp_neP (q := 12) (t := 19) dX0_placesFor_9 rfl (by decide) (fun h2 => ?_) (fun h2 => ?_)
    · replace H := zt h2 H
      refine aw_aload_n (q := 13) dX0_placesFor_12 rfl rfl ?_
      refine aw_getr (q := 16) dX0_placesFor_13 rfl e_X0_55 (zB_lt0 hb) (o_X0 hb s R) rfl ?_
      refine aw_goto (q := 23) dX0_placesFor_16 (by decide) ?_
      subst H
      exact aw_ret dX0_placesFor_23 rfl rfl rfl rfl ⟨rfl, rfl⟩
    · replace H := zf h2 H
      refine aw_aload_n (q := 20) dX0_placesFor_19 rfl rfl ?_
      refine aw_getr (q := 23) dX0_placesFor_20 rfl e_X0_51 (zB_lt0 hb) (o_X0 hb s R) rfl ?_
      subst H
      exact aw_ret dX0_placesFor_23 rfl rfl rfl rfl ⟨rfl, rfl⟩
def f_X0_refusalOfFault_73 : Nat → zs → Nat → Int32 → Int32 → Int32 → Int32 → Option ((Unit) ⊕ (Int32))
  | 0, _, _, _, _, _, _ => none
  | k + 1, s, b, x1, x2, x3, x5 =>
    if (s.1 b 11) ≤ x5 then (
      some (Sum.inl ())
    ) else (
      if zin x5 10 = true then
      if (s.1 (b + 6) x5.toNatClampNeg) = x1 then (
        if (s.1 (b + 7) x5.toNatClampNeg) = x2 then (
          if (s.1 (b + 8) x5.toNatClampNeg) = x3 then (
            some (Sum.inr (-1000002))
          ) else (
            f_X0_refusalOfFault_73 k s b x1 x2 x3 (x5 + 1)
          )
        ) else (
          f_X0_refusalOfFault_73 k s b x1 x2 x3 (x5 + 1)
        )
      ) else (
        f_X0_refusalOfFault_73 k s b x1 x2 x3 (x5 + 1)
      )
      else none
    )
set_option maxHeartbeats 4000000 in
set_option maxRecDepth 100000 in
theorem L_X0_refusalOfFault_73 {G : zG} {sl : Nat} {P : Option Value → zH → Prop} (R : zr) {b : Nat} (hb : zB b) (x1 : Int32) (x2 : Int32) (x3 : Int32) : ∀ (k : Nat) (s : zs) (x5 : Int32) (e : (Unit) ⊕ (Int32)), f_X0_refusalOfFault_73 k s b x1 x2 x3 x5 = some e → (∀ x9, e = Sum.inl x9 → AV G M_X0_refusalOfFault 1 sl P 124 [some (.ref b), none, none, none, none, none] [] (zT s R)) → (∀ v9, e = Sum.inr v9 → P (some (.int v9)) (zT s R)) → AV G M_X0_refusalOfFault 1 sl P 73 [some (.ref b), some (.int x1), some (.int x2), some (.int x3), none, some (.int x5)] [] (zT s R) := by
  intro k
  induction k with
  | zero =>
    intro s x5 e H
    unfold f_X0_refusalOfFault_73 at H
    cases H
  | succ k ih =>
    intro s x5 e H KE KR
    unfold f_X0_refusalOfFault_73 at H
    refine aw_iload (q := 75) dX0_refusalOfFault_73 rfl rfl ?_
    refine aw_aload_n (q := 76) dX0_refusalOfFault_75 rfl rfl ?_
    refine aw_getr (q := 79) dX0_refusalOfFault_76 rfl e_X0_58 (zB_lt0 hb) (o_X0 hb s R) rfl ?_
    refine aw_icmp_ge (q := 82) (t := 124) dX0_refusalOfFault_79 rfl (by decide) (fun h1 => ?_) (fun h1 => ?_)
    · replace H := zt h1 H
      cases H
      exact aw_fewer (L' := [some (.ref b), none, none, none, none, none]) ⟨rfl, trivial⟩ (KE _ rfl)
    · replace H := zf h1 H
      refine aw_aload_n (q := 83) dX0_refusalOfFault_82 rfl rfl ?_
      refine aw_getr (q := 86) dX0_refusalOfFault_83 rfl e_X0_27 (zB_lt0 hb) (o_X0 hb s R) rfl ?_
      refine aw_iload (q := 88) dX0_refusalOfFault_86 rfl rfl ?_
      obtain ⟨h2, H⟩ := zio H
      refine aw_iald' (q := 89) (v := s.1 (b + 6) x5.toNatClampNeg) dX0_refusalOfFault_88 rfl (zB_lt (k := 6) hb (by decide)) (o_X0a5 hb s R) (zin_in h2) rfl ?_
      refine aw_iload_n (q := 90) dX0_refusalOfFault_89 rfl rfl ?_
      refine aw_icmp_neP (q := 93) (t := 118) dX0_refusalOfFault_90 rfl (by decide) (fun h3 => ?_) (fun h3 => ?_)
      · replace H := zt h3 H
        refine aw_aload_n (q := 94) dX0_refusalOfFault_93 rfl rfl ?_
        refine aw_getr (q := 97) dX0_refusalOfFault_94 rfl e_X0_30 (zB_lt0 hb) (o_X0 hb s R) rfl ?_
        refine aw_iload (q := 99) dX0_refusalOfFault_97 rfl rfl ?_
        refine aw_iald' (q := 100) (v := s.1 (b + 7) x5.toNatClampNeg) dX0_refusalOfFault_99 rfl (zB_lt (k := 7) hb (by decide)) (o_X0a6 hb s R) (zin_in h2) rfl ?_
        refine aw_iload_n (q := 101) dX0_refusalOfFault_100 rfl rfl ?_
        refine aw_icmp_neP (q := 104) (t := 118) dX0_refusalOfFault_101 rfl (by decide) (fun h4 => ?_) (fun h4 => ?_)
        · replace H := zt h4 H
          refine aw_aload_n (q := 105) dX0_refusalOfFault_104 rfl rfl ?_
          refine aw_getr (q := 108) dX0_refusalOfFault_105 rfl e_X0_33 (zB_lt0 hb) (o_X0 hb s R) rfl ?_
          refine aw_iload (q := 110) dX0_refusalOfFault_108 rfl rfl ?_
          refine aw_iald' (q := 111) (v := s.1 (b + 8) x5.toNatClampNeg) dX0_refusalOfFault_110 rfl (zB_lt (k := 8) hb (by decide)) (o_X0a7 hb s R) (zin_in h2) rfl ?_
          refine aw_iload_n (q := 112) dX0_refusalOfFault_111 rfl rfl ?_
          refine aw_icmp_neP (q := 115) (t := 118) dX0_refusalOfFault_112 rfl (by decide) (fun h5 => ?_) (fun h5 => ?_)
          · replace H := zt h5 H
            refine aw_ldc (q := 117) dX0_refusalOfFault_115 rfl q_X0_75 ?_
            cases H
            exact aw_ret dX0_refusalOfFault_117 rfl rfl rfl rfl (KR _ rfl)
          · replace H := zf h5 H
            refine aw_iinc (q := 121) (v := x5 + 1) (L' := [some (.ref b), some (.int x1), some (.int x2), some (.int x3), none, some (.int (x5 + 1))]) dX0_refusalOfFault_118 rfl rfl (by first | rfl | decide) (by decide) rfl rfl ?_
            refine aw_goto (q := 73) dX0_refusalOfFault_121 (by decide) ?_
            exact aw_fewer (L' := [some (.ref b), some (.int x1), some (.int x2), some (.int x3), none, some (.int (x5 + 1))]) ⟨rfl, ⟨rfl, ⟨rfl, ⟨rfl, ⟨rfl, trivial⟩⟩⟩⟩⟩ (ih s (x5 + 1) _ H KE KR)
        · replace H := zf h4 H
          refine aw_iinc (q := 121) (v := x5 + 1) (L' := [some (.ref b), some (.int x1), some (.int x2), some (.int x3), none, some (.int (x5 + 1))]) dX0_refusalOfFault_118 rfl rfl (by first | rfl | decide) (by decide) rfl rfl ?_
          refine aw_goto (q := 73) dX0_refusalOfFault_121 (by decide) ?_
          exact aw_fewer (L' := [some (.ref b), some (.int x1), some (.int x2), some (.int x3), none, some (.int (x5 + 1))]) ⟨rfl, ⟨rfl, ⟨rfl, ⟨rfl, ⟨rfl, trivial⟩⟩⟩⟩⟩ (ih s (x5 + 1) _ H KE KR)
      · replace H := zf h3 H
        refine aw_iinc (q := 121) (v := x5 + 1) (L' := [some (.ref b), some (.int x1), some (.int x2), some (.int x3), none, some (.int (x5 + 1))]) dX0_refusalOfFault_118 rfl rfl (by first | rfl | decide) (by decide) rfl rfl ?_
        refine aw_goto (q := 73) dX0_refusalOfFault_121 (by decide) ?_
        exact aw_fewer (L' := [some (.ref b), some (.int x1), some (.int x2), some (.int x3), none, some (.int (x5 + 1))]) ⟨rfl, ⟨rfl, ⟨rfl, ⟨rfl, ⟨rfl, trivial⟩⟩⟩⟩⟩ (ih s (x5 + 1) _ H KE KR)
def f_X0_refusalOfFault (s : zs) (b : Nat) (x1 : Int32) (x2 : Int32) (x3 : Int32) : Option Int32 :=
  if x1 < 0 then (
    some (-1000001)
  ) else (
    if (5 : Int32) ≤ x1 then (
      some (-1000001)
    ) else (
      if x2 < 0 then (
        some (-1000001)
      ) else (
        if x2 < (f_X0_placesFor s b x1) then (
          if x1 = 1 then (
            if x3 ≤ x2 then (
              some (-1000001)
            ) else (
              if (s.1 b 9) ≤ x3 then (
                some (-1000001)
              ) else (
                Option.bind (f_X0_refusalOfFault_73 zFu s b x1 x2 x3 0) fun e8 => match e8 with
                | Sum.inr r10 => some r10
                | Sum.inl e8i =>
                if (s.1 b 11) < 10 then (
                  some 0
                ) else (
                  some (-1000003)
                )
              )
            )
          ) else (
            if x3 = 0 then (
              Option.bind (f_X0_refusalOfFault_73 zFu s b x1 x2 x3 0) fun e13 => match e13 with
              | Sum.inr r15 => some r15
              | Sum.inl e13i =>
              if (s.1 b 11) < 10 then (
                some 0
              ) else (
                some (-1000003)
              )
            ) else (
              some (-1000001)
            )
          )
        ) else (
          some (-1000001)
        )
      )
    )
  )
set_option maxHeartbeats 4000000 in
set_option maxRecDepth 100000 in
theorem c_X0_refusalOfFault {G : zG} {sl : Nat} (s : zs) (R : zr) {b : Nat} (hb : zB b) (x1 : Int32) (x2 : Int32) (x3 : Int32) {v9 : Int32} (H : f_X0_refusalOfFault s b x1 x2 x3 = some v9) : zMv G 1 M_X0_refusalOfFault [.ref b, .int x1, .int x2, .int x3] sl (zT s R) (fun r h' => r = some (.int v9) ∧ h' = (zT s R)) := by
  unfold f_X0_refusalOfFault at H
  refine zMv_of (L := [some (.ref b), some (.int x1), some (.int x2), some (.int x3), none, none]) (by decide) rfl (Nat.le_of_ble_eq_true rfl) rfl ?_
  refine aw_iload_n (q := 1) dX0_refusalOfFault_0 rfl rfl ?_
  refine aw_if_lt (q := 4) (t := 22) dX0_refusalOfFault_1 rfl (by decide) (fun h1 => ?_) (fun h1 => ?_)
  · replace H := zt h1 H
    refine aw_ldc (q := 24) dX0_refusalOfFault_22 rfl q_X0_74 ?_
    cases H
    exact aw_ret dX0_refusalOfFault_24 rfl rfl rfl rfl ⟨rfl, rfl⟩
  · replace H := zf h1 H
    refine aw_iload_n (q := 5) dX0_refusalOfFault_4 rfl rfl ?_
    refine aw_iconst (q := 6) (v := 5) dX0_refusalOfFault_5 rfl (by decide) ?_
    refine aw_icmp_ge (q := 9) (t := 22) dX0_refusalOfFault_6 rfl (by decide) (fun h2 => ?_) (fun h2 => ?_)
    · replace H := zt h2 H
      refine aw_ldc (q := 24) dX0_refusalOfFault_22 rfl q_X0_74 ?_
      cases H
      exact aw_ret dX0_refusalOfFault_24 rfl rfl rfl rfl ⟨rfl, rfl⟩
    · replace H := zf h2 H
      refine aw_iload_n (q := 10) dX0_refusalOfFault_9 rfl rfl ?_
      refine aw_if_lt (q := 13) (t := 22) dX0_refusalOfFault_10 rfl (by decide) (fun h3 => ?_) (fun h3 => ?_)
      · replace H := zt h3 H
        refine aw_ldc (q := 24) dX0_refusalOfFault_22 rfl q_X0_74 ?_
        cases H
        exact aw_ret dX0_refusalOfFault_24 rfl rfl rfl rfl ⟨rfl, rfl⟩
      · replace H := zf h3 H
        refine aw_iload_n (q := 14) dX0_refusalOfFault_13 rfl rfl ?_
        refine aw_aload_n (q := 15) dX0_refusalOfFault_14 rfl rfl ?_
        refine aw_iload_n (q := 16) dX0_refusalOfFault_15 rfl rfl ?_
        refine aw_cv (M' := M_X0_placesFor) (as := [.int x1]) (q := 19) dX0_refusalOfFault_16 rfl W_X0_placesFor k_X0_85 i_X0_placesFor v_X0_placesFor (zB_lt0 hb) (o_X0 hb s R) rfl rfl rfl (by decide) (Nat.le_of_ble_eq_true rfl) (c_X0_placesFor s R hb x1) (Nat.le_refl _) (Nat.le_refl _) ?_
        rintro r9 h9 ⟨rfl, rfl⟩
        refine aw_icmp_lt (q := 22) (t := 25) dX0_refusalOfFault_19 rfl (by decide) (fun h4 => ?_) (fun h4 => ?_)
        · replace H := zt h4 H
          refine aw_iload_n (q := 26) dX0_refusalOfFault_25 rfl rfl ?_
          refine aw_iconst (q := 27) (v := 1) dX0_refusalOfFault_26 rfl (by decide) ?_
          refine aw_icmp_neP (q := 30) (t := 51) dX0_refusalOfFault_27 rfl (by decide) (fun h5 => ?_) (fun h5 => ?_)
          · replace H := zt h5 H
            refine aw_iload_n (q := 31) dX0_refusalOfFault_30 rfl rfl ?_
            refine aw_iload_n (q := 32) dX0_refusalOfFault_31 rfl rfl ?_
            refine aw_icmp_le (q := 35) (t := 47) dX0_refusalOfFault_32 rfl (by decide) (fun h6 => ?_) (fun h6 => ?_)
            · replace H := zt h6 H
              refine aw_iconst (q := 48) (v := 0) dX0_refusalOfFault_47 rfl (by decide) ?_
              refine aw_goto (q := 60) dX0_refusalOfFault_48 (by decide) ?_
              refine aw_istore (q := 62) (L' := [some (.ref b), some (.int x1), some (.int x2), some (.int x3), some (.int 0), none]) dX0_refusalOfFault_60 rfl (by decide) rfl rfl ?_
              refine aw_iload (q := 64) dX0_refusalOfFault_62 rfl rfl ?_
              refine aw_if_ne (q := 67) (t := 70) dX0_refusalOfFault_64 rfl (by decide) (fun z => absurd z (by decide)) (fun _ => ?_)
              refine aw_ldc (q := 69) dX0_refusalOfFault_67 rfl q_X0_74 ?_
              cases H
              exact aw_ret dX0_refusalOfFault_69 rfl rfl rfl rfl ⟨rfl, rfl⟩
            · replace H := zf h6 H
              refine aw_iload_n (q := 36) dX0_refusalOfFault_35 rfl rfl ?_
              refine aw_aload_n (q := 37) dX0_refusalOfFault_36 rfl rfl ?_
              refine aw_getr (q := 40) dX0_refusalOfFault_37 rfl e_X0_51 (zB_lt0 hb) (o_X0 hb s R) rfl ?_
              refine aw_icmp_ge (q := 43) (t := 47) dX0_refusalOfFault_40 rfl (by decide) (fun h7 => ?_) (fun h7 => ?_)
              · replace H := zt h7 H
                refine aw_iconst (q := 48) (v := 0) dX0_refusalOfFault_47 rfl (by decide) ?_
                refine aw_goto (q := 60) dX0_refusalOfFault_48 (by decide) ?_
                refine aw_istore (q := 62) (L' := [some (.ref b), some (.int x1), some (.int x2), some (.int x3), some (.int 0), none]) dX0_refusalOfFault_60 rfl (by decide) rfl rfl ?_
                refine aw_iload (q := 64) dX0_refusalOfFault_62 rfl rfl ?_
                refine aw_if_ne (q := 67) (t := 70) dX0_refusalOfFault_64 rfl (by decide) (fun z => absurd z (by decide)) (fun _ => ?_)
                refine aw_ldc (q := 69) dX0_refusalOfFault_67 rfl q_X0_74 ?_
                cases H
                exact aw_ret dX0_refusalOfFault_69 rfl rfl rfl rfl ⟨rfl, rfl⟩
              · replace H := zf h7 H
                refine aw_iconst (q := 44) (v := 1) dX0_refusalOfFault_43 rfl (by decide) ?_
                refine aw_goto (q := 60) dX0_refusalOfFault_44 (by decide) ?_
                refine aw_istore (q := 62) (L' := [some (.ref b), some (.int x1), some (.int x2), some (.int x3), some (.int 1), none]) dX0_refusalOfFault_60 rfl (by decide) rfl rfl ?_
                refine aw_iload (q := 64) dX0_refusalOfFault_62 rfl rfl ?_
                refine aw_if_ne (q := 67) (t := 70) dX0_refusalOfFault_64 rfl (by decide) (fun _ => ?_) (fun z => absurd (by decide) z)
                refine aw_iconst (q := 71) (v := 0) dX0_refusalOfFault_70 rfl (by decide) ?_
                refine aw_istore (q := 73) (L' := [some (.ref b), some (.int x1), some (.int x2), some (.int x3), some (.int 1), some (.int 0)]) dX0_refusalOfFault_71 rfl (by decide) rfl rfl ?_
                obtain ⟨e8, he8, H⟩ := zbd H
                refine aw_fewer (L' := [some (.ref b), some (.int x1), some (.int x2), some (.int x3), none, some (.int 0)]) ⟨rfl, ⟨rfl, ⟨rfl, ⟨rfl, ⟨rfl, trivial⟩⟩⟩⟩⟩ ?_
                refine L_X0_refusalOfFault_73 R hb x1 x2 x3 zFu s 0 e8 he8 (fun e8i h9 => ?_) (fun r10 h9 => ?_)
                · subst h9
                  replace H : _ = _ := H
                  refine aw_aload_n (q := 125) dX0_refusalOfFault_124 rfl rfl ?_
                  refine aw_getr (q := 128) dX0_refusalOfFault_125 rfl e_X0_58 (zB_lt0 hb) (o_X0 hb s R) rfl ?_
                  refine aw_bipush (q := 130) (v := 10) dX0_refusalOfFault_128 rfl (by decide) ?_
                  refine aw_icmp_lt (q := 133) (t := 138) dX0_refusalOfFault_130 rfl (by decide) (fun h11 => ?_) (fun h11 => ?_)
                  · replace H := zt h11 H
                    refine aw_iconst (q := 139) (v := 0) dX0_refusalOfFault_138 rfl (by decide) ?_
                    cases H
                    exact aw_ret dX0_refusalOfFault_139 rfl rfl rfl rfl ⟨rfl, rfl⟩
                  · replace H := zf h11 H
                    refine aw_ldc (q := 135) dX0_refusalOfFault_133 rfl q_X0_76 ?_
                    refine aw_goto (q := 139) dX0_refusalOfFault_135 (by decide) ?_
                    cases H
                    exact aw_ret dX0_refusalOfFault_139 rfl rfl rfl rfl ⟨rfl, rfl⟩
                · subst h9
                  cases H
                  exact ⟨rfl, rfl⟩
          · replace H := zf h5 H
            refine aw_iload_n (q := 52) dX0_refusalOfFault_51 rfl rfl ?_
            refine aw_if_neP (q := 55) (t := 59) dX0_refusalOfFault_52 rfl (by decide) (fun h12 => ?_) (fun h12 => ?_)
            · replace H := zt h12 H
              refine aw_iconst (q := 56) (v := 1) dX0_refusalOfFault_55 rfl (by decide) ?_
              refine aw_goto (q := 60) dX0_refusalOfFault_56 (by decide) ?_
              refine aw_istore (q := 62) (L' := [some (.ref b), some (.int x1), some (.int x2), some (.int x3), some (.int 1), none]) dX0_refusalOfFault_60 rfl (by decide) rfl rfl ?_
              refine aw_iload (q := 64) dX0_refusalOfFault_62 rfl rfl ?_
              refine aw_if_ne (q := 67) (t := 70) dX0_refusalOfFault_64 rfl (by decide) (fun _ => ?_) (fun z => absurd (by decide) z)
              refine aw_iconst (q := 71) (v := 0) dX0_refusalOfFault_70 rfl (by decide) ?_
              refine aw_istore (q := 73) (L' := [some (.ref b), some (.int x1), some (.int x2), some (.int x3), some (.int 1), some (.int 0)]) dX0_refusalOfFault_71 rfl (by decide) rfl rfl ?_
              obtain ⟨e13, he13, H⟩ := zbd H
              refine aw_fewer (L' := [some (.ref b), some (.int x1), some (.int x2), some (.int x3), none, some (.int 0)]) ⟨rfl, ⟨rfl, ⟨rfl, ⟨rfl, ⟨rfl, trivial⟩⟩⟩⟩⟩ ?_
              refine L_X0_refusalOfFault_73 R hb x1 x2 x3 zFu s 0 e13 he13 (fun e13i h9 => ?_) (fun r15 h9 => ?_)
              · subst h9
                replace H : _ = _ := H
                refine aw_aload_n (q := 125) dX0_refusalOfFault_124 rfl rfl ?_
                refine aw_getr (q := 128) dX0_refusalOfFault_125 rfl e_X0_58 (zB_lt0 hb) (o_X0 hb s R) rfl ?_
                refine aw_bipush (q := 130) (v := 10) dX0_refusalOfFault_128 rfl (by decide) ?_
                refine aw_icmp_lt (q := 133) (t := 138) dX0_refusalOfFault_130 rfl (by decide) (fun h16 => ?_) (fun h16 => ?_)
                · replace H := zt h16 H
                  refine aw_iconst (q := 139) (v := 0) dX0_refusalOfFault_138 rfl (by decide) ?_
                  cases H
                  exact aw_ret dX0_refusalOfFault_139 rfl rfl rfl rfl ⟨rfl, rfl⟩
                · replace H := zf h16 H
                  refine aw_ldc (q := 135) dX0_refusalOfFault_133 rfl q_X0_76 ?_
                  refine aw_goto (q := 139) dX0_refusalOfFault_135 (by decide) ?_
                  cases H
                  exact aw_ret dX0_refusalOfFault_139 rfl rfl rfl rfl ⟨rfl, rfl⟩
              · subst h9
                cases H
                exact ⟨rfl, rfl⟩
            · replace H := zf h12 H
              refine aw_iconst (q := 60) (v := 0) dX0_refusalOfFault_59 rfl (by decide) ?_
              refine aw_istore (q := 62) (L' := [some (.ref b), some (.int x1), some (.int x2), some (.int x3), some (.int 0), none]) dX0_refusalOfFault_60 rfl (by decide) rfl rfl ?_
              refine aw_iload (q := 64) dX0_refusalOfFault_62 rfl rfl ?_
              refine aw_if_ne (q := 67) (t := 70) dX0_refusalOfFault_64 rfl (by decide) (fun z => absurd z (by decide)) (fun _ => ?_)
              refine aw_ldc (q := 69) dX0_refusalOfFault_67 rfl q_X0_74 ?_
              cases H
              exact aw_ret dX0_refusalOfFault_69 rfl rfl rfl rfl ⟨rfl, rfl⟩
        · replace H := zf h4 H
          refine aw_ldc (q := 24) dX0_refusalOfFault_22 rfl q_X0_74 ?_
          cases H
          exact aw_ret dX0_refusalOfFault_24 rfl rfl rfl rfl ⟨rfl, rfl⟩
def f_X0_addFault (s : zs) (b : Nat) (x1 : Int32) (x2 : Int32) (x3 : Int32) : Option (Int32 × zs) :=
  if zin (s.1 b 11) 10 = true then
  zlt (zc s (b + 6) ((s.1 b 11).toNatClampNeg) x1) fun s2 =>
  if zin (s2.1 b 11) 10 = true then
  zlt (zc s2 (b + 7) ((s2.1 b 11).toNatClampNeg) x2) fun s5 =>
  if zin (s5.1 b 11) 10 = true then
  zlt (zc s5 (b + 8) ((s5.1 b 11).toNatClampNeg) x3) fun s8 =>
  zlt (zc s8 b 11 ((s8.1 b 11) + 1)) fun s10 =>
  some ((s10.1 b 11) - 1, s10)
  else none
  else none
  else none
set_option maxHeartbeats 4000000 in
set_option maxRecDepth 100000 in
theorem c_X0_addFault {G : zG} {sl : Nat} (s : zs) (R : zr) {b : Nat} (hb : zB b) (x1 : Int32) (x2 : Int32) (x3 : Int32) {v9 : (Int32 × zs)} (H : f_X0_addFault s b x1 x2 x3 = some v9) : zMv G 0 M_X0_addFault [.ref b, .int x1, .int x2, .int x3] sl (zT s R) (fun r h' => r = some (.int v9.1) ∧ h' = zT v9.2 R) := by
  unfold f_X0_addFault at H
  refine zMv_of (L := [some (.ref b), some (.int x1), some (.int x2), some (.int x3)]) (by decide) rfl (Nat.le_of_ble_eq_true rfl) rfl ?_
  refine aw_aload_n (q := 1) dX0_addFault_0 rfl rfl ?_
  refine aw_getr (q := 4) dX0_addFault_1 rfl e_X0_27 (zB_lt0 hb) (o_X0 hb s R) rfl ?_
  refine aw_aload_n (q := 5) dX0_addFault_4 rfl rfl ?_
  refine aw_getr (q := 8) dX0_addFault_5 rfl e_X0_58 (zB_lt0 hb) (o_X0 hb s R) rfl ?_
  refine aw_iload_n (q := 9) dX0_addFault_8 rfl rfl ?_
  obtain ⟨h1, H⟩ := zio H
  obtain ⟨s2, q3, H⟩ := zltd H
  refine aw_iast (q := 10) dX0_addFault_9 rfl (zB_lt (k := 6) hb (by decide)) (o_X0a5 hb s R) (zin_in h1) ((p_X0a5 hb).trans (congrArg (fun z => zT z R) q3.symm)) ?_
  refine aw_aload_n (q := 11) dX0_addFault_10 rfl rfl ?_
  refine aw_getr (q := 14) dX0_addFault_11 rfl e_X0_30 (zB_lt0 hb) (o_X0 hb s2 R) rfl ?_
  refine aw_aload_n (q := 15) dX0_addFault_14 rfl rfl ?_
  refine aw_getr (q := 18) dX0_addFault_15 rfl e_X0_58 (zB_lt0 hb) (o_X0 hb s2 R) rfl ?_
  refine aw_iload_n (q := 19) dX0_addFault_18 rfl rfl ?_
  obtain ⟨h4, H⟩ := zio H
  obtain ⟨s5, q6, H⟩ := zltd H
  refine aw_iast (q := 20) dX0_addFault_19 rfl (zB_lt (k := 7) hb (by decide)) (o_X0a6 hb s2 R) (zin_in h4) ((p_X0a6 hb).trans (congrArg (fun z => zT z R) q6.symm)) ?_
  refine aw_aload_n (q := 21) dX0_addFault_20 rfl rfl ?_
  refine aw_getr (q := 24) dX0_addFault_21 rfl e_X0_33 (zB_lt0 hb) (o_X0 hb s5 R) rfl ?_
  refine aw_aload_n (q := 25) dX0_addFault_24 rfl rfl ?_
  refine aw_getr (q := 28) dX0_addFault_25 rfl e_X0_58 (zB_lt0 hb) (o_X0 hb s5 R) rfl ?_
  refine aw_iload_n (q := 29) dX0_addFault_28 rfl rfl ?_
  obtain ⟨h7, H⟩ := zio H
  obtain ⟨s8, q9, H⟩ := zltd H
  refine aw_iast (q := 30) dX0_addFault_29 rfl (zB_lt (k := 8) hb (by decide)) (o_X0a7 hb s5 R) (zin_in h7) ((p_X0a7 hb).trans (congrArg (fun z => zT z R) q9.symm)) ?_
  refine aw_aload_n (q := 31) dX0_addFault_30 rfl rfl ?_
  refine aw_dup (q := 32) dX0_addFault_31 rfl rfl ?_
  refine aw_getr (q := 35) dX0_addFault_32 rfl e_X0_58 (zB_lt0 hb) (o_X0 hb s8 R) rfl ?_
  refine aw_iconst (q := 36) (v := 1) dX0_addFault_35 rfl (by decide) ?_
  refine aw_iadd (q := 37) dX0_addFault_36 rfl ?_
  obtain ⟨s10, q11, H⟩ := zltd H
  refine aw_put (q := 40) dX0_addFault_37 rfl f_X0_58 (zB_lt0 hb) (o_X0 hb s8 R) rfl rfl (Nat.le_of_ble_eq_true rfl) ((p_X0_11 hb).trans (congrArg (fun z => zT z R) q11.symm)) ?_
  refine aw_aload_n (q := 41) dX0_addFault_40 rfl rfl ?_
  refine aw_getr (q := 44) dX0_addFault_41 rfl e_X0_58 (zB_lt0 hb) (o_X0 hb s10 R) rfl ?_
  refine aw_iconst (q := 45) (v := 1) dX0_addFault_44 rfl (by decide) ?_
  refine aw_isub (q := 46) dX0_addFault_45 rfl ?_
  cases H
  exact aw_ret dX0_addFault_46 rfl rfl rfl rfl ⟨rfl, rfl⟩
def f_X0_setBlessing (s : zs) (b : Nat) (x1 : Int32) (x2 : Int32) : Option (Int32 × zs) :=
  if zin x1 16 = true then
  zlt (s.1 (b + 9) x1.toNatClampNeg : Int32) fun y2 =>
  zlt (zc s (b + 9) x1.toNatClampNeg x2) fun s4 =>
  some (y2, s4)
  else none
set_option maxHeartbeats 4000000 in
set_option maxRecDepth 100000 in
theorem c_X0_setBlessing {G : zG} {sl : Nat} (s : zs) (R : zr) {b : Nat} (hb : zB b) (x1 : Int32) (x2 : Int32) {v9 : (Int32 × zs)} (H : f_X0_setBlessing s b x1 x2 = some v9) : zMv G 0 M_X0_setBlessing [.ref b, .int x1, .int x2] sl (zT s R) (fun r h' => r = some (.int v9.1) ∧ h' = zT v9.2 R) := by
  unfold f_X0_setBlessing at H
  refine zMv_of (L := [some (.ref b), some (.int x1), some (.int x2), none]) (by decide) rfl (Nat.le_of_ble_eq_true rfl) rfl ?_
  refine aw_aload_n (q := 1) dX0_setBlessing_0 rfl rfl ?_
  refine aw_getr (q := 4) dX0_setBlessing_1 rfl e_X0_36 (zB_lt0 hb) (o_X0 hb s R) rfl ?_
  refine aw_iload_n (q := 5) dX0_setBlessing_4 rfl rfl ?_
  obtain ⟨h1, H⟩ := zio H
  refine aw_iald' (q := 6) (v := s.1 (b + 9) x1.toNatClampNeg) dX0_setBlessing_5 rfl (zB_lt (k := 9) hb (by decide)) (o_X0a8 hb s R) (zin_in h1) rfl ?_
  obtain ⟨y2, q3, H⟩ := zltd H
  refine aw_nm q3 ?_
  refine aw_istore_n (q := 7) (L' := [some (.ref b), some (.int x1), some (.int x2), some (.int y2)]) dX0_setBlessing_6 rfl (by decide) rfl rfl ?_
  refine aw_aload_n (q := 8) dX0_setBlessing_7 rfl rfl ?_
  refine aw_getr (q := 11) dX0_setBlessing_8 rfl e_X0_36 (zB_lt0 hb) (o_X0 hb s R) rfl ?_
  refine aw_iload_n (q := 12) dX0_setBlessing_11 rfl rfl ?_
  refine aw_iload_n (q := 13) dX0_setBlessing_12 rfl rfl ?_
  obtain ⟨s4, q5, H⟩ := zltd H
  refine aw_iast (q := 14) dX0_setBlessing_13 rfl (zB_lt (k := 9) hb (by decide)) (o_X0a8 hb s R) (zin_in h1) ((p_X0a8 hb).trans (congrArg (fun z => zT z R) q5.symm)) ?_
  refine aw_iload_n (q := 15) dX0_setBlessing_14 rfl rfl ?_
  cases H
  exact aw_ret dX0_setBlessing_15 rfl rfl rfl rfl ⟨rfl, rfl⟩
def f_X0_blessedOn_4 : Nat → zs → Nat → Int32 → Int32 → Int32 → Option (Int32)
  | 0, _, _, _, _, _ => none
  | k + 1, s, b, x1, x2, x3 =>
    if (16 : Int32) ≤ x3 then (
      some x2
    ) else (
      if zin x3 16 = true then
      if f_X6_hasBit (s.1 (b + 9) x3.toNatClampNeg) x1 = true then (
        zlt (x2 ||| ((1 : Int32) <<< (x3 &&& 31)) : Int32) fun y4 =>
        f_X0_blessedOn_4 k s b x1 y4 (x3 + 1)
      ) else (
        f_X0_blessedOn_4 k s b x1 x2 (x3 + 1)
      )
      else none
    )
set_option maxHeartbeats 4000000 in
set_option maxRecDepth 100000 in
theorem L_X0_blessedOn_4 {G : zG} {sl : Nat} {P : Option Value → zH → Prop} (R : zr) {b : Nat} (hb : zB b) (x1 : Int32) : ∀ (k : Nat) (s : zs) (x2 : Int32) (x3 : Int32) (e : Int32), f_X0_blessedOn_4 k s b x1 x2 x3 = some e → (AV G M_X0_blessedOn 1 sl P 35 [none, none, some (.int e), none] [] (zT s R)) → AV G M_X0_blessedOn 1 sl P 4 [some (.ref b), some (.int x1), some (.int x2), some (.int x3)] [] (zT s R) := by
  intro k
  induction k with
  | zero =>
    intro s x2 x3 e H
    unfold f_X0_blessedOn_4 at H
    cases H
  | succ k ih =>
    intro s x2 x3 e H KE
    unfold f_X0_blessedOn_4 at H
    refine aw_iload_n (q := 5) dX0_blessedOn_4 rfl rfl ?_
    refine aw_bipush (q := 7) (v := 16) dX0_blessedOn_5 rfl (by decide) ?_
    refine aw_icmp_ge (q := 10) (t := 35) dX0_blessedOn_7 rfl (by decide) (fun h1 => ?_) (fun h1 => ?_)
    · replace H := zt h1 H
      cases H
      exact aw_fewer (L' := [none, none, some (.int x2), none]) ⟨rfl, trivial⟩ KE
    · replace H := zf h1 H
      refine aw_aload_n (q := 11) dX0_blessedOn_10 rfl rfl ?_
      refine aw_getr (q := 14) dX0_blessedOn_11 rfl e_X0_36 (zB_lt0 hb) (o_X0 hb s R) rfl ?_
      refine aw_iload_n (q := 15) dX0_blessedOn_14 rfl rfl ?_
      obtain ⟨h2, H⟩ := zio H
      refine aw_iald' (q := 16) (v := s.1 (b + 9) x3.toNatClampNeg) dX0_blessedOn_15 rfl (zB_lt (k := 9) hb (by decide)) (o_X0a8 hb s R) (zin_in h2) rfl ?_
      refine aw_iload_n (q := 17) dX0_blessedOn_16 rfl rfl ?_
      refine aw_csN (M' := M_X6_hasBit) (as := [.int (s.1 (b + 9) x3.toNatClampNeg), .int x1]) (q := 20) dX0_blessedOn_17 rfl W_X6_hasBit (show (RX0, 77, yX6_hasBit) ∈ zNl by decide) s_X6_hasBit rfl rfl (by decide) (Nat.le_of_ble_eq_true rfl) (c_X6_hasBit (zT s R) (s.1 (b + 9) x3.toNatClampNeg) x1) (Nat.le_refl _) (Nat.le_refl _) ?_
      rintro r9 h9 ⟨rfl, rfl⟩
      refine aw_ifeqB (q := 23) (t := 29) dX0_blessedOn_20 rfl (by decide) (fun h3 => ?_) (fun h3 => ?_)
      · replace H := zt h3 H
        refine aw_iload_n (q := 24) dX0_blessedOn_23 rfl rfl ?_
        refine aw_iconst (q := 25) (v := 1) dX0_blessedOn_24 rfl (by decide) ?_
        refine aw_iload_n (q := 26) dX0_blessedOn_25 rfl rfl ?_
        refine aw_ishl (q := 27) dX0_blessedOn_26 rfl ?_
        refine aw_ior (q := 28) dX0_blessedOn_27 rfl ?_
        obtain ⟨y4, q5, H⟩ := zltd H
        refine aw_nm q5 ?_
        refine aw_istore_n (q := 29) (L' := [some (.ref b), some (.int x1), some (.int y4), some (.int x3)]) dX0_blessedOn_28 rfl (by decide) rfl rfl ?_
        refine aw_iinc (q := 32) (v := x3 + 1) (L' := [some (.ref b), some (.int x1), some (.int y4), some (.int (x3 + 1))]) dX0_blessedOn_29 rfl rfl (by first | rfl | decide) (by decide) rfl rfl ?_
        refine aw_goto (q := 4) dX0_blessedOn_32 (by decide) ?_
        exact aw_fewer (L' := [some (.ref b), some (.int x1), some (.int y4), some (.int (x3 + 1))]) ⟨rfl, ⟨rfl, ⟨rfl, ⟨rfl, trivial⟩⟩⟩⟩ (ih s y4 (x3 + 1) _ H KE)
      · replace H := zf h3 H
        refine aw_iinc (q := 32) (v := x3 + 1) (L' := [some (.ref b), some (.int x1), some (.int x2), some (.int (x3 + 1))]) dX0_blessedOn_29 rfl rfl (by first | rfl | decide) (by decide) rfl rfl ?_
        refine aw_goto (q := 4) dX0_blessedOn_32 (by decide) ?_
        exact aw_fewer (L' := [some (.ref b), some (.int x1), some (.int x2), some (.int (x3 + 1))]) ⟨rfl, ⟨rfl, ⟨rfl, ⟨rfl, trivial⟩⟩⟩⟩ (ih s x2 (x3 + 1) _ H KE)
def f_X0_blessedOn (s : zs) (b : Nat) (x1 : Int32) : Option Int32 :=
  Option.bind (f_X0_blessedOn_4 zFu s b x1 0 0) fun e1 =>
  some e1
set_option maxHeartbeats 4000000 in
set_option maxRecDepth 100000 in
theorem c_X0_blessedOn {G : zG} {sl : Nat} (s : zs) (R : zr) {b : Nat} (hb : zB b) (x1 : Int32) {v9 : Int32} (H : f_X0_blessedOn s b x1 = some v9) : zMv G 1 M_X0_blessedOn [.ref b, .int x1] sl (zT s R) (fun r h' => r = some (.int v9) ∧ h' = (zT s R)) := by
  unfold f_X0_blessedOn at H
  refine zMv_of (L := [some (.ref b), some (.int x1), none, none]) (by decide) rfl (Nat.le_of_ble_eq_true rfl) rfl ?_
  refine aw_iconst (q := 1) (v := 0) dX0_blessedOn_0 rfl (by decide) ?_
  refine aw_istore_n (q := 2) (L' := [some (.ref b), some (.int x1), some (.int 0), none]) dX0_blessedOn_1 rfl (by decide) rfl rfl ?_
  refine aw_iconst (q := 3) (v := 0) dX0_blessedOn_2 rfl (by decide) ?_
  refine aw_istore_n (q := 4) (L' := [some (.ref b), some (.int x1), some (.int 0), some (.int 0)]) dX0_blessedOn_3 rfl (by decide) rfl rfl ?_
  obtain ⟨e1, he1, H⟩ := zbd H
  refine aw_fewer (L' := [some (.ref b), some (.int x1), some (.int 0), some (.int 0)]) ⟨rfl, ⟨rfl, ⟨rfl, ⟨rfl, trivial⟩⟩⟩⟩ ?_
  refine L_X0_blessedOn_4 R hb x1 zFu s 0 0 e1 he1 ?_
  refine aw_iload_n (q := 36) dX0_blessedOn_35 rfl rfl ?_
  cases H
  exact aw_ret dX0_blessedOn_36 rfl rfl rfl rfl ⟨rfl, rfl⟩
def f_X0_chipWith_2 : Nat → zs → Nat → Int32 → Int32 → Option ((Unit) ⊕ (Int32))
  | 0, _, _, _, _ => none
  | k + 1, s, b, x1, x2 =>
    if (s.1 b 10) ≤ x2 then (
      some (Sum.inl ())
    ) else (
      if zin x2 5 = true then
      if (s.1 (b + 3) x2.toNatClampNeg) = x1 then (
        some (Sum.inr x2)
      ) else (
        if (s.1 (b + 4) x2.toNatClampNeg) = x1 then (
          some (Sum.inr x2)
        ) else (
          if f_X6_hasBit (s.1 (b + 5) x2.toNatClampNeg) x1 = true then (
            some (Sum.inr x2)
          ) else (
            f_X0_chipWith_2 k s b x1 (x2 + 1)
          )
        )
      )
      else none
    )
set_option maxHeartbeats 4000000 in
set_option maxRecDepth 100000 in
theorem L_X0_chipWith_2 {G : zG} {sl : Nat} {P : Option Value → zH → Prop} (R : zr) {b : Nat} (hb : zB b) (x1 : Int32) : ∀ (k : Nat) (s : zs) (x2 : Int32) (e : (Unit) ⊕ (Int32)), f_X0_chipWith_2 k s b x1 x2 = some e → (∀ x9, e = Sum.inl x9 → AV G M_X0_chipWith 1 sl P 51 [none, none, none] [] (zT s R)) → (∀ v9, e = Sum.inr v9 → P (some (.int v9)) (zT s R)) → AV G M_X0_chipWith 1 sl P 2 [some (.ref b), some (.int x1), some (.int x2)] [] (zT s R) := by
  intro k
  induction k with
  | zero =>
    intro s x2 e H
    unfold f_X0_chipWith_2 at H
    cases H
  | succ k ih =>
    intro s x2 e H KE KR
    unfold f_X0_chipWith_2 at H
    refine aw_iload_n (q := 3) dX0_chipWith_2 rfl rfl ?_
    refine aw_aload_n (q := 4) dX0_chipWith_3 rfl rfl ?_
    refine aw_getr (q := 7) dX0_chipWith_4 rfl e_X0_55 (zB_lt0 hb) (o_X0 hb s R) rfl ?_
    refine aw_icmp_ge (q := 10) (t := 51) dX0_chipWith_7 rfl (by decide) (fun h1 => ?_) (fun h1 => ?_)
    · replace H := zt h1 H
      cases H
      exact aw_fewer (L' := [none, none, none]) trivial (KE _ rfl)
    · replace H := zf h1 H
      refine aw_aload_n (q := 11) dX0_chipWith_10 rfl rfl ?_
      refine aw_getr (q := 14) dX0_chipWith_11 rfl e_X0_18 (zB_lt0 hb) (o_X0 hb s R) rfl ?_
      refine aw_iload_n (q := 15) dX0_chipWith_14 rfl rfl ?_
      obtain ⟨h2, H⟩ := zio H
      refine aw_iald' (q := 16) (v := s.1 (b + 3) x2.toNatClampNeg) dX0_chipWith_15 rfl (zB_lt (k := 3) hb (by decide)) (o_X0a2 hb s R) (zin_in h2) rfl ?_
      refine aw_iload_n (q := 17) dX0_chipWith_16 rfl rfl ?_
      refine aw_icmp_eq (q := 20) (t := 43) dX0_chipWith_17 rfl (by decide) (fun h3 => ?_) (fun h3 => ?_)
      · replace H := zt h3 H
        refine aw_iload_n (q := 44) dX0_chipWith_43 rfl rfl ?_
        cases H
        exact aw_ret dX0_chipWith_44 rfl rfl rfl rfl (KR _ rfl)
      · replace H := zf h3 H
        refine aw_aload_n (q := 21) dX0_chipWith_20 rfl rfl ?_
        refine aw_getr (q := 24) dX0_chipWith_21 rfl e_X0_21 (zB_lt0 hb) (o_X0 hb s R) rfl ?_
        refine aw_iload_n (q := 25) dX0_chipWith_24 rfl rfl ?_
        refine aw_iald' (q := 26) (v := s.1 (b + 4) x2.toNatClampNeg) dX0_chipWith_25 rfl (zB_lt (k := 4) hb (by decide)) (o_X0a3 hb s R) (zin_in h2) rfl ?_
        refine aw_iload_n (q := 27) dX0_chipWith_26 rfl rfl ?_
        refine aw_icmp_eq (q := 30) (t := 43) dX0_chipWith_27 rfl (by decide) (fun h4 => ?_) (fun h4 => ?_)
        · replace H := zt h4 H
          refine aw_iload_n (q := 44) dX0_chipWith_43 rfl rfl ?_
          cases H
          exact aw_ret dX0_chipWith_44 rfl rfl rfl rfl (KR _ rfl)
        · replace H := zf h4 H
          refine aw_aload_n (q := 31) dX0_chipWith_30 rfl rfl ?_
          refine aw_getr (q := 34) dX0_chipWith_31 rfl e_X0_24 (zB_lt0 hb) (o_X0 hb s R) rfl ?_
          refine aw_iload_n (q := 35) dX0_chipWith_34 rfl rfl ?_
          refine aw_iald' (q := 36) (v := s.1 (b + 5) x2.toNatClampNeg) dX0_chipWith_35 rfl (zB_lt (k := 5) hb (by decide)) (o_X0a4 hb s R) (zin_in h2) rfl ?_
          refine aw_iload_n (q := 37) dX0_chipWith_36 rfl rfl ?_
          refine aw_csN (M' := M_X6_hasBit) (as := [.int (s.1 (b + 5) x2.toNatClampNeg), .int x1]) (q := 40) dX0_chipWith_37 rfl W_X6_hasBit (show (RX0, 77, yX6_hasBit) ∈ zNl by decide) s_X6_hasBit rfl rfl (by decide) (Nat.le_of_ble_eq_true rfl) (c_X6_hasBit (zT s R) (s.1 (b + 5) x2.toNatClampNeg) x1) (Nat.le_refl _) (Nat.le_refl _) ?_
          rintro r9 h9 ⟨rfl, rfl⟩
          refine aw_ifeqB (q := 43) (t := 45) dX0_chipWith_40 rfl (by decide) (fun h5 => ?_) (fun h5 => ?_)
          · replace H := zt h5 H
            refine aw_iload_n (q := 44) dX0_chipWith_43 rfl rfl ?_
            cases H
            exact aw_ret dX0_chipWith_44 rfl rfl rfl rfl (KR _ rfl)
          · replace H := zf h5 H
            refine aw_iinc (q := 48) (v := x2 + 1) (L' := [some (.ref b), some (.int x1), some (.int (x2 + 1))]) dX0_chipWith_45 rfl rfl (by first | rfl | decide) (by decide) rfl rfl ?_
            refine aw_goto (q := 2) dX0_chipWith_48 (by decide) ?_
            exact aw_fewer (L' := [some (.ref b), some (.int x1), some (.int (x2 + 1))]) ⟨rfl, ⟨rfl, ⟨rfl, trivial⟩⟩⟩ (ih s (x2 + 1) _ H KE KR)
def f_X0_chipWith (s : zs) (b : Nat) (x1 : Int32) : Option Int32 :=
  Option.bind (f_X0_chipWith_2 zFu s b x1 0) fun e1 => match e1 with
  | Sum.inr r2 => some r2
  | Sum.inl e1i =>
  some (-1)
set_option maxHeartbeats 4000000 in
set_option maxRecDepth 100000 in
theorem c_X0_chipWith {G : zG} {sl : Nat} (s : zs) (R : zr) {b : Nat} (hb : zB b) (x1 : Int32) {v9 : Int32} (H : f_X0_chipWith s b x1 = some v9) : zMv G 1 M_X0_chipWith [.ref b, .int x1] sl (zT s R) (fun r h' => r = some (.int v9) ∧ h' = (zT s R)) := by
  unfold f_X0_chipWith at H
  refine zMv_of (L := [some (.ref b), some (.int x1), none]) (by decide) rfl (Nat.le_of_ble_eq_true rfl) rfl ?_
  refine aw_iconst (q := 1) (v := 0) dX0_chipWith_0 rfl (by decide) ?_
  refine aw_istore_n (q := 2) (L' := [some (.ref b), some (.int x1), some (.int 0)]) dX0_chipWith_1 rfl (by decide) rfl rfl ?_
  obtain ⟨e1, he1, H⟩ := zbd H
  refine aw_fewer (L' := [some (.ref b), some (.int x1), some (.int 0)]) ⟨rfl, ⟨rfl, ⟨rfl, trivial⟩⟩⟩ ?_
  refine L_X0_chipWith_2 R hb x1 zFu s 0 e1 he1 (fun e1i h9 => ?_) (fun r2 h9 => ?_)
  · subst h9
    replace H : _ = _ := H
    refine aw_iconst (q := 52) (v := (-1)) dX0_chipWith_51 rfl (by decide) ?_
    cases H
    exact aw_ret dX0_chipWith_52 rfl rfl rfl rfl ⟨rfl, rfl⟩
  · subst h9
    cases H
    exact ⟨rfl, rfl⟩
def f_X0_roleOf (s : zs) (b : Nat) (x1 : Int32) : Option Int32 :=
  Option.bind (f_X0_chipWith s b x1) fun v1 =>
  if v1 = (-1) then (
    some (-1)
  ) else (
    if zin v1 5 = true then
    if (s.1 (b + 3) v1.toNatClampNeg) = x1 then (
      some 0
    ) else (
      if (s.1 (b + 4) v1.toNatClampNeg) = x1 then (
        some 1
      ) else (
        some 2
      )
    )
    else none
  )
set_option maxHeartbeats 4000000 in
set_option maxRecDepth 100000 in
theorem c_X0_roleOf {G : zG} {sl : Nat} (s : zs) (R : zr) {b : Nat} (hb : zB b) (x1 : Int32) {v9 : Int32} (H : f_X0_roleOf s b x1 = some v9) : zMv G 2 M_X0_roleOf [.ref b, .int x1] sl (zT s R) (fun r h' => r = some (.int v9) ∧ h' = (zT s R)) := by
  unfold f_X0_roleOf at H
  refine zMv_of (L := [some (.ref b), some (.int x1), none]) (by decide) rfl (Nat.le_of_ble_eq_true rfl) rfl ?_
  refine aw_aload_n (q := 1) dX0_roleOf_0 rfl rfl ?_
  refine aw_iload_n (q := 2) dX0_roleOf_1 rfl rfl ?_
  obtain ⟨v1, hv1, H⟩ := zbd H
  refine aw_cv (M' := M_X0_chipWith) (as := [.int x1]) (q := 5) dX0_roleOf_2 rfl W_X0_chipWith k_X0_88 i_X0_chipWith v_X0_chipWith (zB_lt0 hb) (o_X0 hb s R) rfl rfl rfl (by decide) (Nat.le_of_ble_eq_true rfl) (c_X0_chipWith s R hb x1 hv1) (Nat.le_refl _) (Nat.le_refl _) ?_
  rintro r9 h9 ⟨rfl, rfl⟩
  refine aw_istore_n (q := 6) (L' := [some (.ref b), some (.int x1), some (.int v1)]) dX0_roleOf_5 rfl (by decide) rfl rfl ?_
  refine aw_iload_n (q := 7) dX0_roleOf_6 rfl rfl ?_
  refine aw_iconst (q := 8) (v := (-1)) dX0_roleOf_7 rfl (by decide) ?_
  refine aw_icmp_neP (q := 11) (t := 13) dX0_roleOf_8 rfl (by decide) (fun h2 => ?_) (fun h2 => ?_)
  · replace H := zt h2 H
    refine aw_iconst (q := 12) (v := (-1)) dX0_roleOf_11 rfl (by decide) ?_
    cases H
    exact aw_ret dX0_roleOf_12 rfl rfl rfl rfl ⟨rfl, rfl⟩
  · replace H := zf h2 H
    refine aw_aload_n (q := 14) dX0_roleOf_13 rfl rfl ?_
    refine aw_getr (q := 17) dX0_roleOf_14 rfl e_X0_18 (zB_lt0 hb) (o_X0 hb s R) rfl ?_
    refine aw_iload_n (q := 18) dX0_roleOf_17 rfl rfl ?_
    obtain ⟨h3, H⟩ := zio H
    refine aw_iald' (q := 19) (v := s.1 (b + 3) v1.toNatClampNeg) dX0_roleOf_18 rfl (zB_lt (k := 3) hb (by decide)) (o_X0a2 hb s R) (zin_in h3) rfl ?_
    refine aw_iload_n (q := 20) dX0_roleOf_19 rfl rfl ?_
    refine aw_icmp_neP (q := 23) (t := 25) dX0_roleOf_20 rfl (by decide) (fun h4 => ?_) (fun h4 => ?_)
    · replace H := zt h4 H
      refine aw_iconst (q := 24) (v := 0) dX0_roleOf_23 rfl (by decide) ?_
      cases H
      exact aw_ret dX0_roleOf_24 rfl rfl rfl rfl ⟨rfl, rfl⟩
    · replace H := zf h4 H
      refine aw_aload_n (q := 26) dX0_roleOf_25 rfl rfl ?_
      refine aw_getr (q := 29) dX0_roleOf_26 rfl e_X0_21 (zB_lt0 hb) (o_X0 hb s R) rfl ?_
      refine aw_iload_n (q := 30) dX0_roleOf_29 rfl rfl ?_
      refine aw_iald' (q := 31) (v := s.1 (b + 4) v1.toNatClampNeg) dX0_roleOf_30 rfl (zB_lt (k := 4) hb (by decide)) (o_X0a3 hb s R) (zin_in h3) rfl ?_
      refine aw_iload_n (q := 32) dX0_roleOf_31 rfl rfl ?_
      refine aw_icmp_neP (q := 35) (t := 39) dX0_roleOf_32 rfl (by decide) (fun h5 => ?_) (fun h5 => ?_)
      · replace H := zt h5 H
        refine aw_iconst (q := 36) (v := 1) dX0_roleOf_35 rfl (by decide) ?_
        refine aw_goto (q := 40) dX0_roleOf_36 (by decide) ?_
        cases H
        exact aw_ret dX0_roleOf_40 rfl rfl rfl rfl ⟨rfl, rfl⟩
      · replace H := zf h5 H
        refine aw_iconst (q := 40) (v := 2) dX0_roleOf_39 rfl (by decide) ?_
        cases H
        exact aw_ret dX0_roleOf_40 rfl rfl rfl rfl ⟨rfl, rfl⟩
def f_X0_isFault (s : zs) (b : Nat) (x1 : Int32) : Bool :=
  if x1 < 0 then (
    false
  ) else (
    if (s.1 b 11) ≤ x1 then (
      false
    ) else (
      true
    )
  )
set_option maxHeartbeats 4000000 in
set_option maxRecDepth 100000 in
theorem c_X0_isFault {G : zG} {sl : Nat} (s : zs) (R : zr) {b : Nat} (hb : zB b) (x1 : Int32)  : zMv G 0 M_X0_isFault [.ref b, .int x1] sl (zT s R) (fun r h' => r = some (.int (zb (f_X0_isFault s b x1))) ∧ h' = (zT s R)) := by
  generalize H : f_X0_isFault s b x1 = r0
  unfold f_X0_isFault at H
  refine zMv_of (L := [some (.ref b), some (.int x1)]) (by decide) rfl (Nat.le_of_ble_eq_true rfl) rfl ?_
  refine aw_iload_n (q := 1) dX0_isFault_0 rfl rfl ?_
  refine aw_if_lt (q := 4) (t := 16) dX0_isFault_1 rfl (by decide) (fun h1 => ?_) (fun h1 => ?_)
  · replace H := zt h1 H
    refine aw_iconst (q := 17) (v := 0) dX0_isFault_16 rfl (by decide) ?_
    subst H
    exact aw_ret dX0_isFault_17 rfl rfl rfl rfl ⟨rfl, rfl⟩
  · replace H := zf h1 H
    refine aw_iload_n (q := 5) dX0_isFault_4 rfl rfl ?_
    refine aw_aload_n (q := 6) dX0_isFault_5 rfl rfl ?_
    refine aw_getr (q := 9) dX0_isFault_6 rfl e_X0_58 (zB_lt0 hb) (o_X0 hb s R) rfl ?_
    refine aw_icmp_ge (q := 12) (t := 16) dX0_isFault_9 rfl (by decide) (fun h2 => ?_) (fun h2 => ?_)
    · replace H := zt h2 H
      refine aw_iconst (q := 17) (v := 0) dX0_isFault_16 rfl (by decide) ?_
      subst H
      exact aw_ret dX0_isFault_17 rfl rfl rfl rfl ⟨rfl, rfl⟩
    · replace H := zf h2 H
      refine aw_iconst (q := 13) (v := 1) dX0_isFault_12 rfl (by decide) ?_
      refine aw_goto (q := 17) dX0_isFault_13 (by decide) ?_
      subst H
      exact aw_ret dX0_isFault_17 rfl rfl rfl rfl ⟨rfl, rfl⟩
def f_X0_allSuspects (s : zs) (b : Nat) : Int32 :=
  (1024 : Int32) ||| (((1 : Int32) <<< ((s.1 b 11) &&& 31)) - 1)
set_option maxHeartbeats 4000000 in
set_option maxRecDepth 100000 in
theorem c_X0_allSuspects {G : zG} {sl : Nat} (s : zs) (R : zr) {b : Nat} (hb : zB b)   : zMv G 0 M_X0_allSuspects [.ref b] sl (zT s R) (fun r h' => r = some (.int (f_X0_allSuspects s b)) ∧ h' = (zT s R)) := by
  generalize H : f_X0_allSuspects s b = r0
  unfold f_X0_allSuspects at H
  refine zMv_of (L := [some (.ref b)]) (by decide) rfl (Nat.le_of_ble_eq_true rfl) rfl ?_
  refine aw_sipush (q := 3) (v := 1024) dX0_allSuspects_0 rfl (by decide) ?_
  refine aw_iconst (q := 4) (v := 1) dX0_allSuspects_3 rfl (by decide) ?_
  refine aw_aload_n (q := 5) dX0_allSuspects_4 rfl rfl ?_
  refine aw_getr (q := 8) dX0_allSuspects_5 rfl e_X0_58 (zB_lt0 hb) (o_X0 hb s R) rfl ?_
  refine aw_ishl (q := 9) dX0_allSuspects_8 rfl ?_
  refine aw_iconst (q := 10) (v := 1) dX0_allSuspects_9 rfl (by decide) ?_
  refine aw_isub (q := 11) dX0_allSuspects_10 rfl ?_
  refine aw_ior (q := 12) dX0_allSuspects_11 rfl ?_
  subst H
  exact aw_ret dX0_allSuspects_12 rfl rfl rfl rfl ⟨rfl, rfl⟩
def f_X0_suffers (s : zs) (b : Nat) (x1 : Int32) (x2 : Int32) (x3 : Int32) : Option Bool :=
  if f_X0_isFault s b x1 = true then (
    if zin x1 10 = true then
    if (s.1 (b + 6) x1.toNatClampNeg) = x2 then (
      if (s.1 (b + 7) x1.toNatClampNeg) = x3 then (
        some true
      ) else (
        some false
      )
    ) else (
      some false
    )
    else none
  ) else (
    some false
  )
set_option maxHeartbeats 4000000 in
set_option maxRecDepth 100000 in
theorem c_X0_suffers {G : zG} {sl : Nat} (s : zs) (R : zr) {b : Nat} (hb : zB b) (x1 : Int32) (x2 : Int32) (x3 : Int32) {v9 : Bool} (H : f_X0_suffers s b x1 x2 x3 = some v9) : zMv G 1 M_X0_suffers [.ref b, .int x1, .int x2, .int x3] sl (zT s R) (fun r h' => r = some (.int (zb v9)) ∧ h' = (zT s R)) := by
  unfold f_X0_suffers at H
  refine zMv_of (L := [some (.ref b), some (.int x1), some (.int x2), some (.int x3)]) (by decide) rfl (Nat.le_of_ble_eq_true rfl) rfl ?_
  refine aw_aload_n (q := 1) dX0_suffers_0 rfl rfl ?_
  refine aw_iload_n (q := 2) dX0_suffers_1 rfl rfl ?_
  refine aw_cv (M' := M_X0_isFault) (as := [.int x1]) (q := 5) dX0_suffers_2 rfl W_X0_isFault k_X0_91 i_X0_isFault v_X0_isFault (zB_lt0 hb) (o_X0 hb s R) rfl rfl rfl (by decide) (Nat.le_of_ble_eq_true rfl) (c_X0_isFault s R hb x1) (Nat.le_refl _) (Nat.le_refl _) ?_
  rintro r9 h9 ⟨rfl, rfl⟩
  refine aw_ifeqB (q := 8) (t := 32) dX0_suffers_5 rfl (by decide) (fun h1 => ?_) (fun h1 => ?_)
  · replace H := zt h1 H
    refine aw_aload_n (q := 9) dX0_suffers_8 rfl rfl ?_
    refine aw_getr (q := 12) dX0_suffers_9 rfl e_X0_27 (zB_lt0 hb) (o_X0 hb s R) rfl ?_
    refine aw_iload_n (q := 13) dX0_suffers_12 rfl rfl ?_
    obtain ⟨h2, H⟩ := zio H
    refine aw_iald' (q := 14) (v := s.1 (b + 6) x1.toNatClampNeg) dX0_suffers_13 rfl (zB_lt (k := 6) hb (by decide)) (o_X0a5 hb s R) (zin_in h2) rfl ?_
    refine aw_iload_n (q := 15) dX0_suffers_14 rfl rfl ?_
    refine aw_icmp_neP (q := 18) (t := 32) dX0_suffers_15 rfl (by decide) (fun h3 => ?_) (fun h3 => ?_)
    · replace H := zt h3 H
      refine aw_aload_n (q := 19) dX0_suffers_18 rfl rfl ?_
      refine aw_getr (q := 22) dX0_suffers_19 rfl e_X0_30 (zB_lt0 hb) (o_X0 hb s R) rfl ?_
      refine aw_iload_n (q := 23) dX0_suffers_22 rfl rfl ?_
      refine aw_iald' (q := 24) (v := s.1 (b + 7) x1.toNatClampNeg) dX0_suffers_23 rfl (zB_lt (k := 7) hb (by decide)) (o_X0a6 hb s R) (zin_in h2) rfl ?_
      refine aw_iload_n (q := 25) dX0_suffers_24 rfl rfl ?_
      refine aw_icmp_neP (q := 28) (t := 32) dX0_suffers_25 rfl (by decide) (fun h4 => ?_) (fun h4 => ?_)
      · replace H := zt h4 H
        refine aw_iconst (q := 29) (v := 1) dX0_suffers_28 rfl (by decide) ?_
        refine aw_goto (q := 33) dX0_suffers_29 (by decide) ?_
        cases H
        exact aw_ret dX0_suffers_33 rfl rfl rfl rfl ⟨rfl, rfl⟩
      · replace H := zf h4 H
        refine aw_iconst (q := 33) (v := 0) dX0_suffers_32 rfl (by decide) ?_
        cases H
        exact aw_ret dX0_suffers_33 rfl rfl rfl rfl ⟨rfl, rfl⟩
    · replace H := zf h3 H
      refine aw_iconst (q := 33) (v := 0) dX0_suffers_32 rfl (by decide) ?_
      cases H
      exact aw_ret dX0_suffers_33 rfl rfl rfl rfl ⟨rfl, rfl⟩
  · replace H := zf h1 H
    refine aw_iconst (q := 33) (v := 0) dX0_suffers_32 rfl (by decide) ?_
    cases H
    exact aw_ret dX0_suffers_33 rfl rfl rfl rfl ⟨rfl, rfl⟩
def f_X0_shortedWith (s : zs) (b : Nat) (x1 : Int32) (x2 : Int32) : Option Int32 :=
  if f_X0_isFault s b x1 = true then (
    if zin x1 10 = true then
    if (s.1 (b + 6) x1.toNatClampNeg) = 1 then (
      if (s.1 (b + 7) x1.toNatClampNeg) = x2 then (
        some (s.1 (b + 8) x1.toNatClampNeg)
      ) else (
        if (s.1 (b + 8) x1.toNatClampNeg) = x2 then (
          some (s.1 (b + 7) x1.toNatClampNeg)
        ) else (
          some (-1)
        )
      )
    ) else (
      some (-1)
    )
    else none
  ) else (
    some (-1)
  )
set_option maxHeartbeats 4000000 in
set_option maxRecDepth 100000 in
theorem c_X0_shortedWith {G : zG} {sl : Nat} (s : zs) (R : zr) {b : Nat} (hb : zB b) (x1 : Int32) (x2 : Int32) {v9 : Int32} (H : f_X0_shortedWith s b x1 x2 = some v9) : zMv G 1 M_X0_shortedWith [.ref b, .int x1, .int x2] sl (zT s R) (fun r h' => r = some (.int v9) ∧ h' = (zT s R)) := by
  unfold f_X0_shortedWith at H
  refine zMv_of (L := [some (.ref b), some (.int x1), some (.int x2)]) (by decide) rfl (Nat.le_of_ble_eq_true rfl) rfl ?_
  refine aw_aload_n (q := 1) dX0_shortedWith_0 rfl rfl ?_
  refine aw_iload_n (q := 2) dX0_shortedWith_1 rfl rfl ?_
  refine aw_cv (M' := M_X0_isFault) (as := [.int x1]) (q := 5) dX0_shortedWith_2 rfl W_X0_isFault k_X0_91 i_X0_isFault v_X0_isFault (zB_lt0 hb) (o_X0 hb s R) rfl rfl rfl (by decide) (Nat.le_of_ble_eq_true rfl) (c_X0_isFault s R hb x1) (Nat.le_refl _) (Nat.le_refl _) ?_
  rintro r9 h9 ⟨rfl, rfl⟩
  refine aw_ifeqB (q := 8) (t := 18) dX0_shortedWith_5 rfl (by decide) (fun h1 => ?_) (fun h1 => ?_)
  · replace H := zt h1 H
    refine aw_aload_n (q := 9) dX0_shortedWith_8 rfl rfl ?_
    refine aw_getr (q := 12) dX0_shortedWith_9 rfl e_X0_27 (zB_lt0 hb) (o_X0 hb s R) rfl ?_
    refine aw_iload_n (q := 13) dX0_shortedWith_12 rfl rfl ?_
    obtain ⟨h2, H⟩ := zio H
    refine aw_iald' (q := 14) (v := s.1 (b + 6) x1.toNatClampNeg) dX0_shortedWith_13 rfl (zB_lt (k := 6) hb (by decide)) (o_X0a5 hb s R) (zin_in h2) rfl ?_
    refine aw_iconst (q := 15) (v := 1) dX0_shortedWith_14 rfl (by decide) ?_
    refine aw_icmp_eq (q := 18) (t := 20) dX0_shortedWith_15 rfl (by decide) (fun h3 => ?_) (fun h3 => ?_)
    · replace H := zt h3 H
      refine aw_aload_n (q := 21) dX0_shortedWith_20 rfl rfl ?_
      refine aw_getr (q := 24) dX0_shortedWith_21 rfl e_X0_30 (zB_lt0 hb) (o_X0 hb s R) rfl ?_
      refine aw_iload_n (q := 25) dX0_shortedWith_24 rfl rfl ?_
      refine aw_iald' (q := 26) (v := s.1 (b + 7) x1.toNatClampNeg) dX0_shortedWith_25 rfl (zB_lt (k := 7) hb (by decide)) (o_X0a6 hb s R) (zin_in h2) rfl ?_
      refine aw_iload_n (q := 27) dX0_shortedWith_26 rfl rfl ?_
      refine aw_icmp_neP (q := 30) (t := 37) dX0_shortedWith_27 rfl (by decide) (fun h4 => ?_) (fun h4 => ?_)
      · replace H := zt h4 H
        refine aw_aload_n (q := 31) dX0_shortedWith_30 rfl rfl ?_
        refine aw_getr (q := 34) dX0_shortedWith_31 rfl e_X0_33 (zB_lt0 hb) (o_X0 hb s R) rfl ?_
        refine aw_iload_n (q := 35) dX0_shortedWith_34 rfl rfl ?_
        refine aw_iald' (q := 36) (v := s.1 (b + 8) x1.toNatClampNeg) dX0_shortedWith_35 rfl (zB_lt (k := 8) hb (by decide)) (o_X0a7 hb s R) (zin_in h2) rfl ?_
        cases H
        exact aw_ret dX0_shortedWith_36 rfl rfl rfl rfl ⟨rfl, rfl⟩
      · replace H := zf h4 H
        refine aw_aload_n (q := 38) dX0_shortedWith_37 rfl rfl ?_
        refine aw_getr (q := 41) dX0_shortedWith_38 rfl e_X0_33 (zB_lt0 hb) (o_X0 hb s R) rfl ?_
        refine aw_iload_n (q := 42) dX0_shortedWith_41 rfl rfl ?_
        refine aw_iald' (q := 43) (v := s.1 (b + 8) x1.toNatClampNeg) dX0_shortedWith_42 rfl (zB_lt (k := 8) hb (by decide)) (o_X0a7 hb s R) (zin_in h2) rfl ?_
        refine aw_iload_n (q := 44) dX0_shortedWith_43 rfl rfl ?_
        refine aw_icmp_neP (q := 47) (t := 56) dX0_shortedWith_44 rfl (by decide) (fun h5 => ?_) (fun h5 => ?_)
        · replace H := zt h5 H
          refine aw_aload_n (q := 48) dX0_shortedWith_47 rfl rfl ?_
          refine aw_getr (q := 51) dX0_shortedWith_48 rfl e_X0_30 (zB_lt0 hb) (o_X0 hb s R) rfl ?_
          refine aw_iload_n (q := 52) dX0_shortedWith_51 rfl rfl ?_
          refine aw_iald' (q := 53) (v := s.1 (b + 7) x1.toNatClampNeg) dX0_shortedWith_52 rfl (zB_lt (k := 7) hb (by decide)) (o_X0a6 hb s R) (zin_in h2) rfl ?_
          refine aw_goto (q := 57) dX0_shortedWith_53 (by decide) ?_
          cases H
          exact aw_ret dX0_shortedWith_57 rfl rfl rfl rfl ⟨rfl, rfl⟩
        · replace H := zf h5 H
          refine aw_iconst (q := 57) (v := (-1)) dX0_shortedWith_56 rfl (by decide) ?_
          cases H
          exact aw_ret dX0_shortedWith_57 rfl rfl rfl rfl ⟨rfl, rfl⟩
    · replace H := zf h3 H
      refine aw_iconst (q := 19) (v := (-1)) dX0_shortedWith_18 rfl (by decide) ?_
      cases H
      exact aw_ret dX0_shortedWith_19 rfl rfl rfl rfl ⟨rfl, rfl⟩
  · replace H := zf h1 H
    refine aw_iconst (q := 19) (v := (-1)) dX0_shortedWith_18 rfl (by decide) ?_
    cases H
    exact aw_ret dX0_shortedWith_19 rfl rfl rfl rfl ⟨rfl, rfl⟩
