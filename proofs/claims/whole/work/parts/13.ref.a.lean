def f_X7_isIn (x0 : Int32) (x1 : Int32) (x2 : Int32) : Bool :=
  if x0 < x1 then (
    false
  ) else (
    if x2 < x0 then (
      false
    ) else (
      true
    )
  )
set_option maxHeartbeats 4000000 in
set_option maxRecDepth 100000 in
theorem c_X7_isIn {G : zG} {sl : Nat} (h : zH) (x0 : Int32) (x1 : Int32) (x2 : Int32)  : zMv G 0 M_X7_isIn [.int x0, .int x1, .int x2] sl h (fun r h' => r = some (.int (zb (f_X7_isIn x0 x1 x2))) ∧ h' = h) := by
  generalize H : f_X7_isIn x0 x1 x2 = r0
  unfold f_X7_isIn at H
  refine zMv_of (L := [some (.int x0), some (.int x1), some (.int x2)]) (by decide) rfl (Nat.le_of_ble_eq_true rfl) rfl ?_
  refine aw_iload_n (q := 1) dX7_isIn_0 rfl rfl ?_
  refine aw_iload_n (q := 2) dX7_isIn_1 rfl rfl ?_
  refine aw_icmp_lt (q := 5) (t := 14) dX7_isIn_2 rfl (by decide) (fun h1 => ?_) (fun h1 => ?_)
  · replace H := zt h1 H
    refine aw_iconst (q := 15) (v := 0) dX7_isIn_14 rfl (by decide) ?_
    subst H
    exact aw_ret dX7_isIn_15 rfl rfl rfl rfl ⟨rfl, rfl⟩
  · replace H := zf h1 H
    refine aw_iload_n (q := 6) dX7_isIn_5 rfl rfl ?_
    refine aw_iload_n (q := 7) dX7_isIn_6 rfl rfl ?_
    refine aw_icmp_gt (q := 10) (t := 14) dX7_isIn_7 rfl (by decide) (fun h2 => ?_) (fun h2 => ?_)
    · replace H := zt h2 H
      refine aw_iconst (q := 15) (v := 0) dX7_isIn_14 rfl (by decide) ?_
      subst H
      exact aw_ret dX7_isIn_15 rfl rfl rfl rfl ⟨rfl, rfl⟩
    · replace H := zf h2 H
      refine aw_iconst (q := 11) (v := 1) dX7_isIn_10 rfl (by decide) ?_
      refine aw_goto (q := 15) dX7_isIn_11 (by decide) ?_
      subst H
      exact aw_ret dX7_isIn_15 rfl rfl rfl rfl ⟨rfl, rfl⟩
def f_X7_has (x0 : Int32) (x1 : Int32) : Bool :=
  if ((x0 >>> (x1 &&& 31)) &&& 1) = 1 then (
    true
  ) else (
    false
  )
set_option maxHeartbeats 4000000 in
set_option maxRecDepth 100000 in
theorem c_X7_has {G : zG} {sl : Nat} (h : zH) (x0 : Int32) (x1 : Int32)  : zMv G 0 M_X7_has [.int x0, .int x1] sl h (fun r h' => r = some (.int (zb (f_X7_has x0 x1))) ∧ h' = h) := by
  generalize H : f_X7_has x0 x1 = r0
  unfold f_X7_has at H
  refine zMv_of (L := [some (.int x0), some (.int x1)]) (by decide) rfl (Nat.le_of_ble_eq_true rfl) rfl ?_
  refine aw_iload_n (q := 1) dX7_has_0 rfl rfl ?_
  refine aw_iload_n (q := 2) dX7_has_1 rfl rfl ?_
  refine aw_ishr (q := 3) dX7_has_2 rfl ?_
  refine aw_iconst (q := 4) (v := 1) dX7_has_3 rfl (by decide) ?_
  refine aw_iand (q := 5) dX7_has_4 rfl ?_
  refine aw_iconst (q := 6) (v := 1) dX7_has_5 rfl (by decide) ?_
  refine aw_icmp_neP (q := 9) (t := 13) dX7_has_6 rfl (by decide) (fun h1 => ?_) (fun h1 => ?_)
  · replace H := zt h1 H
    refine aw_iconst (q := 10) (v := 1) dX7_has_9 rfl (by decide) ?_
    refine aw_goto (q := 14) dX7_has_10 (by decide) ?_
    subst H
    exact aw_ret dX7_has_14 rfl rfl rfl rfl ⟨rfl, rfl⟩
  · replace H := zf h1 H
    refine aw_iconst (q := 14) (v := 0) dX7_has_13 rfl (by decide) ?_
    subst H
    exact aw_ret dX7_has_14 rfl rfl rfl rfl ⟨rfl, rfl⟩
def f_X7_ones_4 : Nat → Int32 → Int32 → Int32 → Option (Int32)
  | 0, _, _, _ => none
  | k + 1, x0, x1, x2 =>
    if (16 : Int32) ≤ x2 then (
      some x1
    ) else (
      zlt (x1 + ((x0 >>> (x2 &&& 31)) &&& 1) : Int32) fun y2 =>
      f_X7_ones_4 k x0 y2 (x2 + 1)
    )
set_option maxHeartbeats 4000000 in
set_option maxRecDepth 100000 in
theorem L_X7_ones_4 {G : zG} {sl : Nat} {P : Option Value → zH → Prop} (h : zH) (x0 : Int32) : ∀ (k : Nat)  (x1 : Int32) (x2 : Int32) (e : Int32), f_X7_ones_4 k x0 x1 x2 = some e → (AV G M_X7_ones 0 sl P 24 [none, some (.int e), none] [] h) → AV G M_X7_ones 0 sl P 4 [some (.int x0), some (.int x1), some (.int x2)] [] h := by
  intro k
  induction k with
  | zero =>
    intro  x1 x2 e H
    unfold f_X7_ones_4 at H
    cases H
  | succ k ih =>
    intro  x1 x2 e H KE
    unfold f_X7_ones_4 at H
    refine aw_iload_n (q := 5) dX7_ones_4 rfl rfl ?_
    refine aw_bipush (q := 7) (v := 16) dX7_ones_5 rfl (by decide) ?_
    refine aw_icmp_ge (q := 10) (t := 24) dX7_ones_7 rfl (by decide) (fun h1 => ?_) (fun h1 => ?_)
    · replace H := zt h1 H
      cases H
      exact aw_fewer (L' := [none, some (.int x1), none]) ⟨rfl, trivial⟩ KE
    · replace H := zf h1 H
      refine aw_iload_n (q := 11) dX7_ones_10 rfl rfl ?_
      refine aw_iload_n (q := 12) dX7_ones_11 rfl rfl ?_
      refine aw_iload_n (q := 13) dX7_ones_12 rfl rfl ?_
      refine aw_ishr (q := 14) dX7_ones_13 rfl ?_
      refine aw_iconst (q := 15) (v := 1) dX7_ones_14 rfl (by decide) ?_
      refine aw_iand (q := 16) dX7_ones_15 rfl ?_
      refine aw_iadd (q := 17) dX7_ones_16 rfl ?_
      obtain ⟨y2, q3, H⟩ := zltd H
      refine aw_nm q3 ?_
      refine aw_istore_n (q := 18) (L' := [some (.int x0), some (.int y2), some (.int x2)]) dX7_ones_17 rfl (by decide) rfl rfl ?_
      refine aw_iinc (q := 21) (v := x2 + 1) (L' := [some (.int x0), some (.int y2), some (.int (x2 + 1))]) dX7_ones_18 rfl rfl (by first | rfl | decide) (by decide) rfl rfl ?_
      refine aw_goto (q := 4) dX7_ones_21 (by decide) ?_
      exact aw_fewer (L' := [some (.int x0), some (.int y2), some (.int (x2 + 1))]) ⟨rfl, ⟨rfl, ⟨rfl, trivial⟩⟩⟩ (ih  y2 (x2 + 1) _ H KE)
def f_X7_ones (x0 : Int32) : Option Int32 :=
  Option.bind (f_X7_ones_4 zFu x0 0 0) fun e1 =>
  some e1
set_option maxHeartbeats 4000000 in
set_option maxRecDepth 100000 in
theorem c_X7_ones {G : zG} {sl : Nat} (h : zH) (x0 : Int32) {v9 : Int32} (H : f_X7_ones x0 = some v9) : zMv G 0 M_X7_ones [.int x0] sl h (fun r h' => r = some (.int v9) ∧ h' = h) := by
  unfold f_X7_ones at H
  refine zMv_of (L := [some (.int x0), none, none]) (by decide) rfl (Nat.le_of_ble_eq_true rfl) rfl ?_
  refine aw_iconst (q := 1) (v := 0) dX7_ones_0 rfl (by decide) ?_
  refine aw_istore_n (q := 2) (L' := [some (.int x0), some (.int 0), none]) dX7_ones_1 rfl (by decide) rfl rfl ?_
  refine aw_iconst (q := 3) (v := 0) dX7_ones_2 rfl (by decide) ?_
  refine aw_istore_n (q := 4) (L' := [some (.int x0), some (.int 0), some (.int 0)]) dX7_ones_3 rfl (by decide) rfl rfl ?_
  obtain ⟨e1, he1, H⟩ := zbd H
  refine aw_fewer (L' := [some (.int x0), some (.int 0), some (.int 0)]) ⟨rfl, ⟨rfl, ⟨rfl, trivial⟩⟩⟩ ?_
  refine L_X7_ones_4 h x0 zFu  0 0 e1 he1 ?_
  refine aw_iload_n (q := 25) dX7_ones_24 rfl rfl ?_
  cases H
  exact aw_ret dX7_ones_25 rfl rfl rfl rfl ⟨rfl, rfl⟩
def f_X7_records_10 : Nat → zr → Int32 → Option (zr)
  | 0, _, _ => none
  | k + 1, s, x1 =>
    if (264 : Int32) ≤ x1 then (
      some s
    ) else (
      if zin (x1 + 88) 352 = true then
      if zin x1 352 = true then
      zlt (zm s 2 x1.toNatClampNeg (s 2 ((x1 + 88).toNatClampNeg))) fun s4 =>
      f_X7_records_10 k s4 (x1 + 1)
      else none
      else none
    )
set_option maxHeartbeats 4000000 in
set_option maxRecDepth 100000 in
theorem L_X7_records_10 {G : zG} {sl : Nat} {P : Option Value → zH → Prop} (sg : zs)  : ∀ (k : Nat) (s : zr) (x1 : Int32) (e : zr), f_X7_records_10 k s x1 = some e → (AV G M_X7_records 0 sl P 38 [some (.ref 120), none] [] (zT sg e)) → AV G M_X7_records 0 sl P 10 [some (.ref 120), some (.int x1)] [] (zT sg s) := by
  intro k
  induction k with
  | zero =>
    intro s x1 e H
    unfold f_X7_records_10 at H
    cases H
  | succ k ih =>
    intro s x1 e H KE
    unfold f_X7_records_10 at H
    refine aw_iload_n (q := 11) dX7_records_10 rfl rfl ?_
    refine aw_sipush (q := 14) (v := 264) dX7_records_11 rfl (by decide) ?_
    refine aw_icmp_ge (q := 17) (t := 38) dX7_records_14 rfl (by decide) (fun h1 => ?_) (fun h1 => ?_)
    · replace H := zt h1 H
      cases H
      exact aw_fewer (L' := [some (.ref 120), none]) ⟨rfl, trivial⟩ KE
    · replace H := zf h1 H
      refine aw_aload_n (q := 18) dX7_records_17 rfl rfl ?_
      refine aw_getr (q := 21) dX7_records_18 rfl e_X7_13 (by decide) (o_X7 sg s) rfl ?_
      refine aw_iload_n (q := 22) dX7_records_21 rfl rfl ?_
      refine aw_aload_n (q := 23) dX7_records_22 rfl rfl ?_
      refine aw_getr (q := 26) dX7_records_23 rfl e_X7_13 (by decide) (o_X7 sg s) rfl ?_
      refine aw_iload_n (q := 27) dX7_records_26 rfl rfl ?_
      refine aw_bipush (q := 29) (v := 88) dX7_records_27 rfl (by decide) ?_
      refine aw_iadd (q := 30) dX7_records_29 rfl ?_
      obtain ⟨h2, H⟩ := zio H
      refine aw_iald' (q := 31) (v := s 2 ((x1 + 88).toNatClampNeg)) dX7_records_30 rfl (by decide) (o_X7a1 sg s) (zin_in h2) rfl ?_
      obtain ⟨h3, H⟩ := zio H
      obtain ⟨s4, q5, H⟩ := zltd H
      refine aw_iast (q := 32) dX7_records_31 rfl (by decide) (o_X7a1 sg s) (zin_in h3) ((p_X7a1).trans (congrArg (fun z => zT sg z) q5.symm)) ?_
      refine aw_iinc (q := 35) (v := x1 + 1) (L' := [some (.ref 120), some (.int (x1 + 1))]) dX7_records_32 rfl rfl (by first | rfl | decide) (by decide) rfl rfl ?_
      refine aw_goto (q := 10) dX7_records_35 (by decide) ?_
      exact aw_fewer (L' := [some (.ref 120), some (.int (x1 + 1))]) ⟨rfl, ⟨rfl, trivial⟩⟩ (ih s4 (x1 + 1) _ H KE)
def f_X7_records_50 : Nat → zr → Int32 → Option (zr)
  | 0, _, _ => none
  | k + 1, s, x1 =>
    if (88 : Int32) ≤ x1 then (
      some s
    ) else (
      if zin x1 88 = true then
      if zin (((s 0 3) * 88) + x1) 352 = true then
      zlt (zm s 2 ((((s 0 3) * 88) + x1).toNatClampNeg) (s 1 x1.toNatClampNeg)) fun s4 =>
      f_X7_records_50 k s4 (x1 + 1)
      else none
      else none
    )
set_option maxHeartbeats 4000000 in
set_option maxRecDepth 100000 in
theorem L_X7_records_50 {G : zG} {sl : Nat} {P : Option Value → zH → Prop} (sg : zs)  : ∀ (k : Nat) (s : zr) (x1 : Int32) (e : zr), f_X7_records_50 k s x1 = some e → (AV G M_X7_records 0 sl P 82 [some (.ref 120), none] [] (zT sg e)) → AV G M_X7_records 0 sl P 50 [some (.ref 120), some (.int x1)] [] (zT sg s) := by
  intro k
  induction k with
  | zero =>
    intro s x1 e H
    unfold f_X7_records_50 at H
    cases H
  | succ k ih =>
    intro s x1 e H KE
    unfold f_X7_records_50 at H
    refine aw_iload_n (q := 51) dX7_records_50 rfl rfl ?_
    refine aw_bipush (q := 53) (v := 88) dX7_records_51 rfl (by decide) ?_
    refine aw_icmp_ge (q := 56) (t := 82) dX7_records_53 rfl (by decide) (fun h1 => ?_) (fun h1 => ?_)
    · replace H := zt h1 H
      cases H
      exact aw_fewer (L' := [some (.ref 120), none]) ⟨rfl, trivial⟩ KE
    · replace H := zf h1 H
      refine aw_aload_n (q := 57) dX7_records_56 rfl rfl ?_
      refine aw_getr (q := 60) dX7_records_57 rfl e_X7_13 (by decide) (o_X7 sg s) rfl ?_
      refine aw_aload_n (q := 61) dX7_records_60 rfl rfl ?_
      refine aw_getr (q := 64) dX7_records_61 rfl e_X7_31 (by decide) (o_X7 sg s) rfl ?_
      refine aw_bipush (q := 66) (v := 88) dX7_records_64 rfl (by decide) ?_
      refine aw_imul (q := 67) dX7_records_66 rfl ?_
      refine aw_iload_n (q := 68) dX7_records_67 rfl rfl ?_
      refine aw_iadd (q := 69) dX7_records_68 rfl ?_
      refine aw_aload_n (q := 70) dX7_records_69 rfl rfl ?_
      refine aw_getr (q := 73) dX7_records_70 rfl e_X7_7 (by decide) (o_X7 sg s) rfl ?_
      refine aw_iload_n (q := 74) dX7_records_73 rfl rfl ?_
      obtain ⟨h2, H⟩ := zio H
      refine aw_iald' (q := 75) (v := s 1 x1.toNatClampNeg) dX7_records_74 rfl (by decide) (o_X7a0 sg s) (zin_in h2) rfl ?_
      obtain ⟨h3, H⟩ := zio H
      obtain ⟨s4, q5, H⟩ := zltd H
      refine aw_iast (q := 76) dX7_records_75 rfl (by decide) (o_X7a1 sg s) (zin_in h3) ((p_X7a1).trans (congrArg (fun z => zT sg z) q5.symm)) ?_
      refine aw_iinc (q := 79) (v := x1 + 1) (L' := [some (.ref 120), some (.int (x1 + 1))]) dX7_records_76 rfl rfl (by first | rfl | decide) (by decide) rfl rfl ?_
      refine aw_goto (q := 50) dX7_records_79 (by decide) ?_
      exact aw_fewer (L' := [some (.ref 120), some (.int (x1 + 1))]) ⟨rfl, ⟨rfl, trivial⟩⟩ (ih s4 (x1 + 1) _ H KE)
def f_X7_records (s : zr) : Option zr :=
  if (s 0 3) = 4 then (
    Option.bind (f_X7_records_10 zFu s 0) fun e2 =>
    zlt (zm e2 0 3 ((e2 0 3) - 1)) fun s3 =>
    Option.bind (f_X7_records_50 zFu s3 0) fun e5 =>
    zlt (zm e5 0 3 ((e5 0 3) + 1)) fun s6 =>
    some s6
  ) else (
    Option.bind (f_X7_records_50 zFu s 0) fun e8 =>
    zlt (zm e8 0 3 ((e8 0 3) + 1)) fun s9 =>
    some s9
  )
set_option maxHeartbeats 4000000 in
set_option maxRecDepth 100000 in
theorem c_X7_records {G : zG} {sl : Nat} (sg : zs) (s : zr)  {v9 : zr} (H : f_X7_records s = some v9) : zMv G 0 M_X7_records [.ref 120] sl (zT sg s) (fun r h' => r = none ∧ h' = zT sg v9) := by
  unfold f_X7_records at H
  refine zMv_of (L := [some (.ref 120), none]) (by decide) rfl (Nat.le_of_ble_eq_true rfl) rfl ?_
  refine aw_aload_n (q := 1) dX7_records_0 rfl rfl ?_
  refine aw_getr (q := 4) dX7_records_1 rfl e_X7_31 (by decide) (o_X7 sg s) rfl ?_
  refine aw_iconst (q := 5) (v := 4) dX7_records_4 rfl (by decide) ?_
  refine aw_icmp_neP (q := 8) (t := 48) dX7_records_5 rfl (by decide) (fun h1 => ?_) (fun h1 => ?_)
  · replace H := zt h1 H
    refine aw_iconst (q := 9) (v := 0) dX7_records_8 rfl (by decide) ?_
    refine aw_istore_n (q := 10) (L' := [some (.ref 120), some (.int 0)]) dX7_records_9 rfl (by decide) rfl rfl ?_
    obtain ⟨e2, he2, H⟩ := zbd H
    refine aw_fewer (L' := [some (.ref 120), some (.int 0)]) ⟨rfl, ⟨rfl, trivial⟩⟩ ?_
    refine L_X7_records_10 sg  zFu s 0 e2 he2 ?_
    refine aw_aload_n (q := 39) dX7_records_38 rfl rfl ?_
    refine aw_dup (q := 40) dX7_records_39 rfl rfl ?_
    refine aw_getr (q := 43) dX7_records_40 rfl e_X7_31 (by decide) (o_X7 sg e2) rfl ?_
    refine aw_iconst (q := 44) (v := 1) dX7_records_43 rfl (by decide) ?_
    refine aw_isub (q := 45) dX7_records_44 rfl ?_
    obtain ⟨s3, q4, H⟩ := zltd H
    refine aw_put (q := 48) dX7_records_45 rfl f_X7_31 (by decide) (o_X7 sg e2) rfl rfl (Nat.le_of_ble_eq_true rfl) ((p_X7_3).trans (congrArg (fun z => zT sg z) q4.symm)) ?_
    refine aw_iconst (q := 49) (v := 0) dX7_records_48 rfl (by decide) ?_
    refine aw_istore_n (q := 50) (L' := [some (.ref 120), some (.int 0)]) dX7_records_49 rfl (by decide) rfl rfl ?_
    obtain ⟨e5, he5, H⟩ := zbd H
    refine aw_fewer (L' := [some (.ref 120), some (.int 0)]) ⟨rfl, ⟨rfl, trivial⟩⟩ ?_
    refine L_X7_records_50 sg  zFu s3 0 e5 he5 ?_
    refine aw_aload_n (q := 83) dX7_records_82 rfl rfl ?_
    refine aw_dup (q := 84) dX7_records_83 rfl rfl ?_
    refine aw_getr (q := 87) dX7_records_84 rfl e_X7_31 (by decide) (o_X7 sg e5) rfl ?_
    refine aw_iconst (q := 88) (v := 1) dX7_records_87 rfl (by decide) ?_
    refine aw_iadd (q := 89) dX7_records_88 rfl ?_
    obtain ⟨s6, q7, H⟩ := zltd H
    refine aw_put (q := 92) dX7_records_89 rfl f_X7_31 (by decide) (o_X7 sg e5) rfl rfl (Nat.le_of_ble_eq_true rfl) ((p_X7_3).trans (congrArg (fun z => zT sg z) q7.symm)) ?_
    cases H
    exact aw_vret dX7_records_92 rfl rfl rfl ⟨rfl, rfl⟩
  · replace H := zf h1 H
    refine aw_iconst (q := 49) (v := 0) dX7_records_48 rfl (by decide) ?_
    refine aw_istore_n (q := 50) (L' := [some (.ref 120), some (.int 0)]) dX7_records_49 rfl (by decide) rfl rfl ?_
    obtain ⟨e8, he8, H⟩ := zbd H
    refine aw_fewer (L' := [some (.ref 120), some (.int 0)]) ⟨rfl, ⟨rfl, trivial⟩⟩ ?_
    refine L_X7_records_50 sg  zFu s 0 e8 he8 ?_
    refine aw_aload_n (q := 83) dX7_records_82 rfl rfl ?_
    refine aw_dup (q := 84) dX7_records_83 rfl rfl ?_
    refine aw_getr (q := 87) dX7_records_84 rfl e_X7_31 (by decide) (o_X7 sg e8) rfl ?_
    refine aw_iconst (q := 88) (v := 1) dX7_records_87 rfl (by decide) ?_
    refine aw_iadd (q := 89) dX7_records_88 rfl ?_
    obtain ⟨s9, q10, H⟩ := zltd H
    refine aw_put (q := 92) dX7_records_89 rfl f_X7_31 (by decide) (o_X7 sg e8) rfl rfl (Nat.le_of_ble_eq_true rfl) ((p_X7_3).trans (congrArg (fun z => zT sg z) q10.symm)) ?_
    cases H
    exact aw_vret dX7_records_92 rfl rfl rfl ⟨rfl, rfl⟩
def f_X7_undo_22 : Nat → zr → Int32 → Option (zr)
  | 0, _, _ => none
  | k + 1, s, x1 =>
    if (88 : Int32) ≤ x1 then (
      some s
    ) else (
      if zin (((s 0 3) * 88) + x1) 352 = true then
      if zin x1 88 = true then
      zlt (zm s 1 x1.toNatClampNeg (s 2 ((((s 0 3) * 88) + x1).toNatClampNeg))) fun s4 =>
      f_X7_undo_22 k s4 (x1 + 1)
      else none
      else none
    )
set_option maxHeartbeats 4000000 in
set_option maxRecDepth 100000 in
theorem L_X7_undo_22 {G : zG} {sl : Nat} {P : Option Value → zH → Prop} (sg : zs)  : ∀ (k : Nat) (s : zr) (x1 : Int32) (e : zr), f_X7_undo_22 k s x1 = some e → (AV G M_X7_undo 0 sl P 54 [some (.ref 120), none] [] (zT sg e)) → AV G M_X7_undo 0 sl P 22 [some (.ref 120), some (.int x1)] [] (zT sg s) := by
  intro k
  induction k with
  | zero =>
    intro s x1 e H
    unfold f_X7_undo_22 at H
    cases H
  | succ k ih =>
    intro s x1 e H KE
    unfold f_X7_undo_22 at H
    refine aw_iload_n (q := 23) dX7_undo_22 rfl rfl ?_
    refine aw_bipush (q := 25) (v := 88) dX7_undo_23 rfl (by decide) ?_
    refine aw_icmp_ge (q := 28) (t := 54) dX7_undo_25 rfl (by decide) (fun h1 => ?_) (fun h1 => ?_)
    · replace H := zt h1 H
      cases H
      exact aw_fewer (L' := [some (.ref 120), none]) ⟨rfl, trivial⟩ KE
    · replace H := zf h1 H
      refine aw_aload_n (q := 29) dX7_undo_28 rfl rfl ?_
      refine aw_getr (q := 32) dX7_undo_29 rfl e_X7_7 (by decide) (o_X7 sg s) rfl ?_
      refine aw_iload_n (q := 33) dX7_undo_32 rfl rfl ?_
      refine aw_aload_n (q := 34) dX7_undo_33 rfl rfl ?_
      refine aw_getr (q := 37) dX7_undo_34 rfl e_X7_13 (by decide) (o_X7 sg s) rfl ?_
      refine aw_aload_n (q := 38) dX7_undo_37 rfl rfl ?_
      refine aw_getr (q := 41) dX7_undo_38 rfl e_X7_31 (by decide) (o_X7 sg s) rfl ?_
      refine aw_bipush (q := 43) (v := 88) dX7_undo_41 rfl (by decide) ?_
      refine aw_imul (q := 44) dX7_undo_43 rfl ?_
      refine aw_iload_n (q := 45) dX7_undo_44 rfl rfl ?_
      refine aw_iadd (q := 46) dX7_undo_45 rfl ?_
      obtain ⟨h2, H⟩ := zio H
      refine aw_iald' (q := 47) (v := s 2 ((((s 0 3) * 88) + x1).toNatClampNeg)) dX7_undo_46 rfl (by decide) (o_X7a1 sg s) (zin_in h2) rfl ?_
      obtain ⟨h3, H⟩ := zio H
      obtain ⟨s4, q5, H⟩ := zltd H
      refine aw_iast (q := 48) dX7_undo_47 rfl (by decide) (o_X7a0 sg s) (zin_in h3) ((p_X7a0).trans (congrArg (fun z => zT sg z) q5.symm)) ?_
      refine aw_iinc (q := 51) (v := x1 + 1) (L' := [some (.ref 120), some (.int (x1 + 1))]) dX7_undo_48 rfl rfl (by first | rfl | decide) (by decide) rfl rfl ?_
      refine aw_goto (q := 22) dX7_undo_51 (by decide) ?_
      exact aw_fewer (L' := [some (.ref 120), some (.int (x1 + 1))]) ⟨rfl, ⟨rfl, trivial⟩⟩ (ih s4 (x1 + 1) _ H KE)
def f_X7_undo (s : zr) : Option (Int32 × zr) :=
  if (s 0 3) = 0 then (
    some ((-1000002), s)
  ) else (
    zlt (zm s 0 3 ((s 0 3) - 1)) fun s2 =>
    Option.bind (f_X7_undo_22 zFu s2 0) fun e4 =>
    some (e4 0 3, e4)
  )
set_option maxHeartbeats 4000000 in
set_option maxRecDepth 100000 in
theorem c_X7_undo {G : zG} {sl : Nat} (sg : zs) (s : zr)  {v9 : (Int32 × zr)} (H : f_X7_undo s = some v9) : zMv G 0 M_X7_undo [.ref 120] sl (zT sg s) (fun r h' => r = some (.int v9.1) ∧ h' = zT sg v9.2) := by
  unfold f_X7_undo at H
  refine zMv_of (L := [some (.ref 120), none]) (by decide) rfl (Nat.le_of_ble_eq_true rfl) rfl ?_
  refine aw_aload_n (q := 1) dX7_undo_0 rfl rfl ?_
  refine aw_getr (q := 4) dX7_undo_1 rfl e_X7_31 (by decide) (o_X7 sg s) rfl ?_
  refine aw_if_neP (q := 7) (t := 10) dX7_undo_4 rfl (by decide) (fun h1 => ?_) (fun h1 => ?_)
  · replace H := zt h1 H
    refine aw_ldc (q := 9) dX7_undo_7 rfl q_X7_35 ?_
    cases H
    exact aw_ret dX7_undo_9 rfl rfl rfl rfl ⟨rfl, rfl⟩
  · replace H := zf h1 H
    refine aw_aload_n (q := 11) dX7_undo_10 rfl rfl ?_
    refine aw_dup (q := 12) dX7_undo_11 rfl rfl ?_
    refine aw_getr (q := 15) dX7_undo_12 rfl e_X7_31 (by decide) (o_X7 sg s) rfl ?_
    refine aw_iconst (q := 16) (v := 1) dX7_undo_15 rfl (by decide) ?_
    refine aw_isub (q := 17) dX7_undo_16 rfl ?_
    obtain ⟨s2, q3, H⟩ := zltd H
    refine aw_put (q := 20) dX7_undo_17 rfl f_X7_31 (by decide) (o_X7 sg s) rfl rfl (Nat.le_of_ble_eq_true rfl) ((p_X7_3).trans (congrArg (fun z => zT sg z) q3.symm)) ?_
    refine aw_iconst (q := 21) (v := 0) dX7_undo_20 rfl (by decide) ?_
    refine aw_istore_n (q := 22) (L' := [some (.ref 120), some (.int 0)]) dX7_undo_21 rfl (by decide) rfl rfl ?_
    obtain ⟨e4, he4, H⟩ := zbd H
    refine aw_fewer (L' := [some (.ref 120), some (.int 0)]) ⟨rfl, ⟨rfl, trivial⟩⟩ ?_
    refine L_X7_undo_22 sg  zFu s2 0 e4 he4 ?_
    refine aw_aload_n (q := 55) dX7_undo_54 rfl rfl ?_
    refine aw_getr (q := 58) dX7_undo_55 rfl e_X7_31 (by decide) (o_X7 sg e4) rfl ?_
    cases H
    exact aw_ret dX7_undo_58 rfl rfl rfl rfl ⟨rfl, rfl⟩
def f_X7_netOf_2 : Nat → zr → Int32 → Int32 → Option ((Unit) ⊕ (Int32))
  | 0, _, _, _ => none
  | k + 1, s, x1, x2 =>
    if (s 1 0) ≤ x2 then (
      some (Sum.inl ())
    ) else (
      if zin ((9 : Int32) + x2) 88 = true then
      if f_X7_has (s 1 (((9 : Int32) + x2).toNatClampNeg)) x1 = true then (
        some (Sum.inr x2)
      ) else (
        f_X7_netOf_2 k s x1 (x2 + 1)
      )
      else none
    )
set_option maxHeartbeats 4000000 in
set_option maxRecDepth 100000 in
theorem L_X7_netOf_2 {G : zG} {sl : Nat} {P : Option Value → zH → Prop} (sg : zs) (x1 : Int32) : ∀ (k : Nat) (s : zr) (x2 : Int32) (e : (Unit) ⊕ (Int32)), f_X7_netOf_2 k s x1 x2 = some e → (∀ x9, e = Sum.inl x9 → AV G M_X7_netOf 1 sl P 36 [none, none, none] [] (zT sg s)) → (∀ v9, e = Sum.inr v9 → P (some (.int v9)) (zT sg s)) → AV G M_X7_netOf 1 sl P 2 [some (.ref 120), some (.int x1), some (.int x2)] [] (zT sg s) := by
  intro k
  induction k with
  | zero =>
    intro s x2 e H
    unfold f_X7_netOf_2 at H
    cases H
  | succ k ih =>
    intro s x2 e H KE KR
    unfold f_X7_netOf_2 at H
    refine aw_iload_n (q := 3) dX7_netOf_2 rfl rfl ?_
    refine aw_aload_n (q := 4) dX7_netOf_3 rfl rfl ?_
    refine aw_getr (q := 7) dX7_netOf_4 rfl e_X7_7 (by decide) (o_X7 sg s) rfl ?_
    refine aw_iconst (q := 8) (v := 0) dX7_netOf_7 rfl (by decide) ?_
    refine aw_iald' (q := 9) (v := s 1 0) dX7_netOf_8 rfl (by decide) (o_X7a0 sg s) (zin_in (by decide)) rfl ?_
    refine aw_icmp_ge (q := 12) (t := 36) dX7_netOf_9 rfl (by decide) (fun h1 => ?_) (fun h1 => ?_)
    · replace H := zt h1 H
      cases H
      exact aw_fewer (L' := [none, none, none]) trivial (KE _ rfl)
    · replace H := zf h1 H
      refine aw_aload_n (q := 13) dX7_netOf_12 rfl rfl ?_
      refine aw_getr (q := 16) dX7_netOf_13 rfl e_X7_7 (by decide) (o_X7 sg s) rfl ?_
      refine aw_bipush (q := 18) (v := 9) dX7_netOf_16 rfl (by decide) ?_
      refine aw_iload_n (q := 19) dX7_netOf_18 rfl rfl ?_
      refine aw_iadd (q := 20) dX7_netOf_19 rfl ?_
      obtain ⟨h2, H⟩ := zio H
      refine aw_iald' (q := 21) (v := s 1 (((9 : Int32) + x2).toNatClampNeg)) dX7_netOf_20 rfl (by decide) (o_X7a0 sg s) (zin_in h2) rfl ?_
      refine aw_iload_n (q := 22) dX7_netOf_21 rfl rfl ?_
      refine aw_cs (M' := M_X7_has) (as := [.int (s 1 (((9 : Int32) + x2).toNatClampNeg)), .int x1]) (q := 25) dX7_netOf_22 rfl W_X7_has k_X7_36 s_X7_has rfl rfl (by decide) (Nat.le_of_ble_eq_true rfl) (c_X7_has (zT sg s) (s 1 (((9 : Int32) + x2).toNatClampNeg)) x1) (Nat.le_refl _) (Nat.le_refl _) ?_
      rintro r9 h9 ⟨rfl, rfl⟩
      refine aw_ifeqB (q := 28) (t := 30) dX7_netOf_25 rfl (by decide) (fun h3 => ?_) (fun h3 => ?_)
      · replace H := zt h3 H
        refine aw_iload_n (q := 29) dX7_netOf_28 rfl rfl ?_
        cases H
        exact aw_ret dX7_netOf_29 rfl rfl rfl rfl (KR _ rfl)
      · replace H := zf h3 H
        refine aw_iinc (q := 33) (v := x2 + 1) (L' := [some (.ref 120), some (.int x1), some (.int (x2 + 1))]) dX7_netOf_30 rfl rfl (by first | rfl | decide) (by decide) rfl rfl ?_
        refine aw_goto (q := 2) dX7_netOf_33 (by decide) ?_
        exact aw_fewer (L' := [some (.ref 120), some (.int x1), some (.int (x2 + 1))]) ⟨rfl, ⟨rfl, ⟨rfl, trivial⟩⟩⟩ (ih s (x2 + 1) _ H KE KR)
def f_X7_netOf (s : zr) (x1 : Int32) : Option Int32 :=
  Option.bind (f_X7_netOf_2 zFu s x1 0) fun e1 => match e1 with
  | Sum.inr r2 => some r2
  | Sum.inl e1i =>
  some (-1)
set_option maxHeartbeats 4000000 in
set_option maxRecDepth 100000 in
theorem c_X7_netOf {G : zG} {sl : Nat} (sg : zs) (s : zr) (x1 : Int32) {v9 : Int32} (H : f_X7_netOf s x1 = some v9) : zMv G 1 M_X7_netOf [.ref 120, .int x1] sl (zT sg s) (fun r h' => r = some (.int v9) ∧ h' = (zT sg s)) := by
  unfold f_X7_netOf at H
  refine zMv_of (L := [some (.ref 120), some (.int x1), none]) (by decide) rfl (Nat.le_of_ble_eq_true rfl) rfl ?_
  refine aw_iconst (q := 1) (v := 0) dX7_netOf_0 rfl (by decide) ?_
  refine aw_istore_n (q := 2) (L' := [some (.ref 120), some (.int x1), some (.int 0)]) dX7_netOf_1 rfl (by decide) rfl rfl ?_
  obtain ⟨e1, he1, H⟩ := zbd H
  refine aw_fewer (L' := [some (.ref 120), some (.int x1), some (.int 0)]) ⟨rfl, ⟨rfl, ⟨rfl, trivial⟩⟩⟩ ?_
  refine L_X7_netOf_2 sg x1 zFu s 0 e1 he1 (fun e1i h9 => ?_) (fun r2 h9 => ?_)
  · subst h9
    replace H : _ = _ := H
    refine aw_iconst (q := 37) (v := (-1)) dX7_netOf_36 rfl (by decide) ?_
    cases H
    exact aw_ret dX7_netOf_37 rfl rfl rfl rfl ⟨rfl, rfl⟩
  · subst h9
    cases H
    exact ⟨rfl, rfl⟩
def f_X7_roleOf (s : zr) (x1 : Int32) (x2 : Int32) : Option Int32 :=
  if zin ((17 : Int32) + x1) 88 = true then
  if (s 1 (((17 : Int32) + x1).toNatClampNeg)) = x2 then (
    some 0
  ) else (
    if zin ((22 : Int32) + x1) 88 = true then
    if (s 1 (((22 : Int32) + x1).toNatClampNeg)) = x2 then (
      some 1
    ) else (
      if zin ((27 : Int32) + x1) 88 = true then
      if f_X7_has (s 1 (((27 : Int32) + x1).toNatClampNeg)) x2 = true then (
        some 2
      ) else (
        some (-1)
      )
      else none
    )
    else none
  )
  else none
set_option maxHeartbeats 4000000 in
set_option maxRecDepth 100000 in
theorem c_X7_roleOf {G : zG} {sl : Nat} (sg : zs) (s : zr) (x1 : Int32) (x2 : Int32) {v9 : Int32} (H : f_X7_roleOf s x1 x2 = some v9) : zMv G 1 M_X7_roleOf [.ref 120, .int x1, .int x2] sl (zT sg s) (fun r h' => r = some (.int v9) ∧ h' = (zT sg s)) := by
  unfold f_X7_roleOf at H
  refine zMv_of (L := [some (.ref 120), some (.int x1), some (.int x2)]) (by decide) rfl (Nat.le_of_ble_eq_true rfl) rfl ?_
  refine aw_aload_n (q := 1) dX7_roleOf_0 rfl rfl ?_
  refine aw_getr (q := 4) dX7_roleOf_1 rfl e_X7_7 (by decide) (o_X7 sg s) rfl ?_
  refine aw_bipush (q := 6) (v := 17) dX7_roleOf_4 rfl (by decide) ?_
  refine aw_iload_n (q := 7) dX7_roleOf_6 rfl rfl ?_
  refine aw_iadd (q := 8) dX7_roleOf_7 rfl ?_
  obtain ⟨h1, H⟩ := zio H
  refine aw_iald' (q := 9) (v := s 1 (((17 : Int32) + x1).toNatClampNeg)) dX7_roleOf_8 rfl (by decide) (o_X7a0 sg s) (zin_in h1) rfl ?_
  refine aw_iload_n (q := 10) dX7_roleOf_9 rfl rfl ?_
  refine aw_icmp_neP (q := 13) (t := 15) dX7_roleOf_10 rfl (by decide) (fun h2 => ?_) (fun h2 => ?_)
  · replace H := zt h2 H
    refine aw_iconst (q := 14) (v := 0) dX7_roleOf_13 rfl (by decide) ?_
    cases H
    exact aw_ret dX7_roleOf_14 rfl rfl rfl rfl ⟨rfl, rfl⟩
  · replace H := zf h2 H
    refine aw_aload_n (q := 16) dX7_roleOf_15 rfl rfl ?_
    refine aw_getr (q := 19) dX7_roleOf_16 rfl e_X7_7 (by decide) (o_X7 sg s) rfl ?_
    refine aw_bipush (q := 21) (v := 22) dX7_roleOf_19 rfl (by decide) ?_
    refine aw_iload_n (q := 22) dX7_roleOf_21 rfl rfl ?_
    refine aw_iadd (q := 23) dX7_roleOf_22 rfl ?_
    obtain ⟨h3, H⟩ := zio H
    refine aw_iald' (q := 24) (v := s 1 (((22 : Int32) + x1).toNatClampNeg)) dX7_roleOf_23 rfl (by decide) (o_X7a0 sg s) (zin_in h3) rfl ?_
    refine aw_iload_n (q := 25) dX7_roleOf_24 rfl rfl ?_
    refine aw_icmp_neP (q := 28) (t := 30) dX7_roleOf_25 rfl (by decide) (fun h4 => ?_) (fun h4 => ?_)
    · replace H := zt h4 H
      refine aw_iconst (q := 29) (v := 1) dX7_roleOf_28 rfl (by decide) ?_
      cases H
      exact aw_ret dX7_roleOf_29 rfl rfl rfl rfl ⟨rfl, rfl⟩
    · replace H := zf h4 H
      refine aw_aload_n (q := 31) dX7_roleOf_30 rfl rfl ?_
      refine aw_getr (q := 34) dX7_roleOf_31 rfl e_X7_7 (by decide) (o_X7 sg s) rfl ?_
      refine aw_bipush (q := 36) (v := 27) dX7_roleOf_34 rfl (by decide) ?_
      refine aw_iload_n (q := 37) dX7_roleOf_36 rfl rfl ?_
      refine aw_iadd (q := 38) dX7_roleOf_37 rfl ?_
      obtain ⟨h5, H⟩ := zio H
      refine aw_iald' (q := 39) (v := s 1 (((27 : Int32) + x1).toNatClampNeg)) dX7_roleOf_38 rfl (by decide) (o_X7a0 sg s) (zin_in h5) rfl ?_
      refine aw_iload_n (q := 40) dX7_roleOf_39 rfl rfl ?_
      refine aw_cs (M' := M_X7_has) (as := [.int (s 1 (((27 : Int32) + x1).toNatClampNeg)), .int x2]) (q := 43) dX7_roleOf_40 rfl W_X7_has k_X7_36 s_X7_has rfl rfl (by decide) (Nat.le_of_ble_eq_true rfl) (c_X7_has (zT sg s) (s 1 (((27 : Int32) + x1).toNatClampNeg)) x2) (Nat.le_refl _) (Nat.le_refl _) ?_
      rintro r9 h9 ⟨rfl, rfl⟩
      refine aw_ifeqB (q := 46) (t := 50) dX7_roleOf_43 rfl (by decide) (fun h6 => ?_) (fun h6 => ?_)
      · replace H := zt h6 H
        refine aw_iconst (q := 47) (v := 2) dX7_roleOf_46 rfl (by decide) ?_
        refine aw_goto (q := 51) dX7_roleOf_47 (by decide) ?_
        cases H
        exact aw_ret dX7_roleOf_51 rfl rfl rfl rfl ⟨rfl, rfl⟩
      · replace H := zf h6 H
        refine aw_iconst (q := 51) (v := (-1)) dX7_roleOf_50 rfl (by decide) ?_
        cases H
        exact aw_ret dX7_roleOf_51 rfl rfl rfl rfl ⟨rfl, rfl⟩
def f_X7_chipOf_2 : Nat → zr → Int32 → Int32 → Option ((Unit) ⊕ (Int32))
  | 0, _, _, _ => none
  | k + 1, s, x1, x2 =>
    if (s 1 1) ≤ x2 then (
      some (Sum.inl ())
    ) else (
      Option.bind (f_X7_roleOf s x2 x1) fun v2 =>
      if v2 = (-1) then (
        f_X7_chipOf_2 k s x1 (x2 + 1)
      ) else (
        some (Sum.inr x2)
      )
    )
set_option maxHeartbeats 4000000 in
set_option maxRecDepth 100000 in
theorem L_X7_chipOf_2 {G : zG} {sl : Nat} {P : Option Value → zH → Prop} (sg : zs) (x1 : Int32) : ∀ (k : Nat) (s : zr) (x2 : Int32) (e : (Unit) ⊕ (Int32)), f_X7_chipOf_2 k s x1 x2 = some e → (∀ x9, e = Sum.inl x9 → AV G M_X7_chipOf 2 sl P 30 [none, none, none] [] (zT sg s)) → (∀ v9, e = Sum.inr v9 → P (some (.int v9)) (zT sg s)) → AV G M_X7_chipOf 2 sl P 2 [some (.ref 120), some (.int x1), some (.int x2)] [] (zT sg s) := by
  intro k
  induction k with
  | zero =>
    intro s x2 e H
    unfold f_X7_chipOf_2 at H
    cases H
  | succ k ih =>
    intro s x2 e H KE KR
    unfold f_X7_chipOf_2 at H
    refine aw_iload_n (q := 3) dX7_chipOf_2 rfl rfl ?_
    refine aw_aload_n (q := 4) dX7_chipOf_3 rfl rfl ?_
    refine aw_getr (q := 7) dX7_chipOf_4 rfl e_X7_7 (by decide) (o_X7 sg s) rfl ?_
    refine aw_iconst (q := 8) (v := 1) dX7_chipOf_7 rfl (by decide) ?_
    refine aw_iald' (q := 9) (v := s 1 1) dX7_chipOf_8 rfl (by decide) (o_X7a0 sg s) (zin_in (by decide)) rfl ?_
    refine aw_icmp_ge (q := 12) (t := 30) dX7_chipOf_9 rfl (by decide) (fun h1 => ?_) (fun h1 => ?_)
    · replace H := zt h1 H
      cases H
      exact aw_fewer (L' := [none, none, none]) trivial (KE _ rfl)
    · replace H := zf h1 H
      refine aw_aload_n (q := 13) dX7_chipOf_12 rfl rfl ?_
      refine aw_iload_n (q := 14) dX7_chipOf_13 rfl rfl ?_
      refine aw_iload_n (q := 15) dX7_chipOf_14 rfl rfl ?_
      obtain ⟨v2, hv2, H⟩ := zbd H
      refine aw_cv (M' := M_X7_roleOf) (as := [.int x2, .int x1]) (q := 18) dX7_chipOf_15 rfl W_X7_roleOf k_X7_40 i_X7_roleOf v_X7_roleOf (by decide) (o_X7 sg s) rfl rfl rfl (by decide) (Nat.le_of_ble_eq_true rfl) (c_X7_roleOf sg s x2 x1 hv2) (Nat.le_refl _) (Nat.le_refl _) ?_
      rintro r9 h9 ⟨rfl, rfl⟩
      refine aw_iconst (q := 19) (v := (-1)) dX7_chipOf_18 rfl (by decide) ?_
      refine aw_icmp_eq (q := 22) (t := 24) dX7_chipOf_19 rfl (by decide) (fun h3 => ?_) (fun h3 => ?_)
      · replace H := zt h3 H
        refine aw_iinc (q := 27) (v := x2 + 1) (L' := [some (.ref 120), some (.int x1), some (.int (x2 + 1))]) dX7_chipOf_24 rfl rfl (by first | rfl | decide) (by decide) rfl rfl ?_
        refine aw_goto (q := 2) dX7_chipOf_27 (by decide) ?_
        exact aw_fewer (L' := [some (.ref 120), some (.int x1), some (.int (x2 + 1))]) ⟨rfl, ⟨rfl, ⟨rfl, trivial⟩⟩⟩ (ih s (x2 + 1) _ H KE KR)
      · replace H := zf h3 H
        refine aw_iload_n (q := 23) dX7_chipOf_22 rfl rfl ?_
        cases H
        exact aw_ret dX7_chipOf_23 rfl rfl rfl rfl (KR _ rfl)
def f_X7_chipOf (s : zr) (x1 : Int32) : Option Int32 :=
  Option.bind (f_X7_chipOf_2 zFu s x1 0) fun e1 => match e1 with
  | Sum.inr r2 => some r2
  | Sum.inl e1i =>
  some (-1)
set_option maxHeartbeats 4000000 in
set_option maxRecDepth 100000 in
theorem c_X7_chipOf {G : zG} {sl : Nat} (sg : zs) (s : zr) (x1 : Int32) {v9 : Int32} (H : f_X7_chipOf s x1 = some v9) : zMv G 2 M_X7_chipOf [.ref 120, .int x1] sl (zT sg s) (fun r h' => r = some (.int v9) ∧ h' = (zT sg s)) := by
  unfold f_X7_chipOf at H
  refine zMv_of (L := [some (.ref 120), some (.int x1), none]) (by decide) rfl (Nat.le_of_ble_eq_true rfl) rfl ?_
  refine aw_iconst (q := 1) (v := 0) dX7_chipOf_0 rfl (by decide) ?_
  refine aw_istore_n (q := 2) (L' := [some (.ref 120), some (.int x1), some (.int 0)]) dX7_chipOf_1 rfl (by decide) rfl rfl ?_
  obtain ⟨e1, he1, H⟩ := zbd H
  refine aw_fewer (L' := [some (.ref 120), some (.int x1), some (.int 0)]) ⟨rfl, ⟨rfl, ⟨rfl, trivial⟩⟩⟩ ?_
  refine L_X7_chipOf_2 sg x1 zFu s 0 e1 he1 (fun e1i h9 => ?_) (fun r2 h9 => ?_)
  · subst h9
    replace H : _ = _ := H
    refine aw_iconst (q := 31) (v := (-1)) dX7_chipOf_30 rfl (by decide) ?_
    cases H
    exact aw_ret dX7_chipOf_31 rfl rfl rfl rfl ⟨rfl, rfl⟩
  · subst h9
    cases H
    exact ⟨rfl, rfl⟩
def f_X7_checksNet_27 : Nat → zr → Int32 → Int32 → Option ((Unit) ⊕ (Int32))
  | 0, _, _, _ => none
  | k + 1, s, x1, x2 =>
    if (16 : Int32) ≤ x2 then (
      some (Sum.inl ())
    ) else (
      if f_X7_has x1 x2 = true then (
        Option.bind (f_X7_netOf s x2) fun v3 =>
        if v3 = (-1) then (
          f_X7_checksNet_27 k s x1 (x2 + 1)
        ) else (
          some (Sum.inr (-1000002))
        )
      ) else (
        f_X7_checksNet_27 k s x1 (x2 + 1)
      )
    )
set_option maxHeartbeats 4000000 in
set_option maxRecDepth 100000 in
theorem L_X7_checksNet_27 {G : zG} {sl : Nat} {P : Option Value → zH → Prop} (sg : zs) (x1 : Int32) : ∀ (k : Nat) (s : zr) (x2 : Int32) (e : (Unit) ⊕ (Int32)), f_X7_checksNet_27 k s x1 x2 = some e → (∀ x9, e = Sum.inl x9 → AV G M_X7_checksNet 2 sl P 59 [some (.ref 120), none, none] [] (zT sg s)) → (∀ v9, e = Sum.inr v9 → P (some (.int v9)) (zT sg s)) → AV G M_X7_checksNet 2 sl P 27 [some (.ref 120), some (.int x1), some (.int x2)] [] (zT sg s) := by
  intro k
  induction k with
  | zero =>
    intro s x2 e H
    unfold f_X7_checksNet_27 at H
    cases H
  | succ k ih =>
    intro s x2 e H KE KR
    unfold f_X7_checksNet_27 at H
    refine aw_iload_n (q := 28) dX7_checksNet_27 rfl rfl ?_
    refine aw_bipush (q := 30) (v := 16) dX7_checksNet_28 rfl (by decide) ?_
    refine aw_icmp_ge (q := 33) (t := 59) dX7_checksNet_30 rfl (by decide) (fun h1 => ?_) (fun h1 => ?_)
    · replace H := zt h1 H
      cases H
      exact aw_fewer (L' := [some (.ref 120), none, none]) ⟨rfl, trivial⟩ (KE _ rfl)
    · replace H := zf h1 H
      refine aw_iload_n (q := 34) dX7_checksNet_33 rfl rfl ?_
      refine aw_iload_n (q := 35) dX7_checksNet_34 rfl rfl ?_
      refine aw_cs (M' := M_X7_has) (as := [.int x1, .int x2]) (q := 38) dX7_checksNet_35 rfl W_X7_has k_X7_36 s_X7_has rfl rfl (by decide) (Nat.le_of_ble_eq_true rfl) (c_X7_has (zT sg s) x1 x2) (Nat.le_refl _) (Nat.le_refl _) ?_
      rintro r9 h9 ⟨rfl, rfl⟩
      refine aw_ifeqB (q := 41) (t := 53) dX7_checksNet_38 rfl (by decide) (fun h2 => ?_) (fun h2 => ?_)
      · replace H := zt h2 H
        refine aw_aload_n (q := 42) dX7_checksNet_41 rfl rfl ?_
        refine aw_iload_n (q := 43) dX7_checksNet_42 rfl rfl ?_
        obtain ⟨v3, hv3, H⟩ := zbd H
        refine aw_cv (M' := M_X7_netOf) (as := [.int x2]) (q := 46) dX7_checksNet_43 rfl W_X7_netOf k_X7_54 i_X7_netOf v_X7_netOf (by decide) (o_X7 sg s) rfl rfl rfl (by decide) (Nat.le_of_ble_eq_true rfl) (c_X7_netOf sg s x2 hv3) (Nat.le_refl _) (Nat.le_refl _) ?_
        rintro r9 h9 ⟨rfl, rfl⟩
        refine aw_iconst (q := 47) (v := (-1)) dX7_checksNet_46 rfl (by decide) ?_
        refine aw_icmp_eq (q := 50) (t := 53) dX7_checksNet_47 rfl (by decide) (fun h4 => ?_) (fun h4 => ?_)
        · replace H := zt h4 H
          refine aw_iinc (q := 56) (v := x2 + 1) (L' := [some (.ref 120), some (.int x1), some (.int (x2 + 1))]) dX7_checksNet_53 rfl rfl (by first | rfl | decide) (by decide) rfl rfl ?_
          refine aw_goto (q := 27) dX7_checksNet_56 (by decide) ?_
          exact aw_fewer (L' := [some (.ref 120), some (.int x1), some (.int (x2 + 1))]) ⟨rfl, ⟨rfl, ⟨rfl, trivial⟩⟩⟩ (ih s (x2 + 1) _ H KE KR)
        · replace H := zf h4 H
          refine aw_ldc (q := 52) dX7_checksNet_50 rfl q_X7_35 ?_
          cases H
          exact aw_ret dX7_checksNet_52 rfl rfl rfl rfl (KR _ rfl)
      · replace H := zf h2 H
        refine aw_iinc (q := 56) (v := x2 + 1) (L' := [some (.ref 120), some (.int x1), some (.int (x2 + 1))]) dX7_checksNet_53 rfl rfl (by first | rfl | decide) (by decide) rfl rfl ?_
        refine aw_goto (q := 27) dX7_checksNet_56 (by decide) ?_
        exact aw_fewer (L' := [some (.ref 120), some (.int x1), some (.int (x2 + 1))]) ⟨rfl, ⟨rfl, ⟨rfl, trivial⟩⟩⟩ (ih s (x2 + 1) _ H KE KR)
def f_X7_checksNet (s : zr) (x1 : Int32) : Option Int32 :=
  if f_X7_isIn x1 0 65535 = true then (
    Option.bind (f_X7_ones x1) fun v2 =>
    if f_X7_isIn v2 2 5 = true then (
      Option.bind (f_X7_checksNet_27 zFu s x1 0) fun e4 => match e4 with
      | Sum.inr r6 => some r6
      | Sum.inl e4i =>
      if (s 1 0) = 8 then (
        some (-1000003)
      ) else (
        some 0
      )
    ) else (
      some (-1000001)
    )
  ) else (
    some (-1000001)
  )
set_option maxHeartbeats 4000000 in
set_option maxRecDepth 100000 in
theorem c_X7_checksNet {G : zG} {sl : Nat} (sg : zs) (s : zr) (x1 : Int32) {v9 : Int32} (H : f_X7_checksNet s x1 = some v9) : zMv G 2 M_X7_checksNet [.ref 120, .int x1] sl (zT sg s) (fun r h' => r = some (.int v9) ∧ h' = (zT sg s)) := by
  unfold f_X7_checksNet at H
  refine zMv_of (L := [some (.ref 120), some (.int x1), none]) (by decide) rfl (Nat.le_of_ble_eq_true rfl) rfl ?_
  refine aw_iload_n (q := 1) dX7_checksNet_0 rfl rfl ?_
  refine aw_iconst (q := 2) (v := 0) dX7_checksNet_1 rfl (by decide) ?_
  refine aw_ldc (q := 4) dX7_checksNet_2 rfl q_X7_44 ?_
  refine aw_cs (M' := M_X7_isIn) (as := [.int x1, .int 0, .int 65535]) (q := 7) dX7_checksNet_4 rfl W_X7_isIn k_X7_45 s_X7_isIn rfl rfl (by decide) (Nat.le_of_ble_eq_true rfl) (c_X7_isIn (zT sg s) x1 0 65535) (Nat.le_refl _) (Nat.le_refl _) ?_
  rintro r9 h9 ⟨rfl, rfl⟩
  refine aw_ifeqB (q := 10) (t := 22) dX7_checksNet_7 rfl (by decide) (fun h1 => ?_) (fun h1 => ?_)
  · replace H := zt h1 H
    refine aw_iload_n (q := 11) dX7_checksNet_10 rfl rfl ?_
    obtain ⟨v2, hv2, H⟩ := zbd H
    refine aw_cs (M' := M_X7_ones) (as := [.int x1]) (q := 14) dX7_checksNet_11 rfl W_X7_ones k_X7_49 s_X7_ones rfl rfl (by decide) (Nat.le_of_ble_eq_true rfl) (c_X7_ones (zT sg s) x1 hv2) (Nat.le_refl _) (Nat.le_refl _) ?_
    rintro r9 h9 ⟨rfl, rfl⟩
    refine aw_iconst (q := 15) (v := 2) dX7_checksNet_14 rfl (by decide) ?_
    refine aw_iconst (q := 16) (v := 5) dX7_checksNet_15 rfl (by decide) ?_
    refine aw_cs (M' := M_X7_isIn) (as := [.int v2, .int 2, .int 5]) (q := 19) dX7_checksNet_16 rfl W_X7_isIn k_X7_45 s_X7_isIn rfl rfl (by decide) (Nat.le_of_ble_eq_true rfl) (c_X7_isIn (zT sg s) v2 2 5) (Nat.le_refl _) (Nat.le_refl _) ?_
    rintro r9 h9 ⟨rfl, rfl⟩
    refine aw_ifneB (q := 22) (t := 25) dX7_checksNet_19 rfl (by decide) (fun h3 => ?_) (fun h3 => ?_)
    · replace H := zt h3 H
      refine aw_iconst (q := 26) (v := 0) dX7_checksNet_25 rfl (by decide) ?_
      refine aw_istore_n (q := 27) (L' := [some (.ref 120), some (.int x1), some (.int 0)]) dX7_checksNet_26 rfl (by decide) rfl rfl ?_
      obtain ⟨e4, he4, H⟩ := zbd H
      refine aw_fewer (L' := [some (.ref 120), some (.int x1), some (.int 0)]) ⟨rfl, ⟨rfl, ⟨rfl, trivial⟩⟩⟩ ?_
      refine L_X7_checksNet_27 sg x1 zFu s 0 e4 he4 (fun e4i h9 => ?_) (fun r6 h9 => ?_)
      · subst h9
        replace H : _ = _ := H
        refine aw_aload_n (q := 60) dX7_checksNet_59 rfl rfl ?_
        refine aw_getr (q := 63) dX7_checksNet_60 rfl e_X7_7 (by decide) (o_X7 sg s) rfl ?_
        refine aw_iconst (q := 64) (v := 0) dX7_checksNet_63 rfl (by decide) ?_
        refine aw_iald' (q := 65) (v := s 1 0) dX7_checksNet_64 rfl (by decide) (o_X7a0 sg s) (zin_in (by decide)) rfl ?_
        refine aw_bipush (q := 67) (v := 8) dX7_checksNet_65 rfl (by decide) ?_
        refine aw_icmp_neP (q := 70) (t := 75) dX7_checksNet_67 rfl (by decide) (fun h7 => ?_) (fun h7 => ?_)
        · replace H := zt h7 H
          refine aw_ldc (q := 72) dX7_checksNet_70 rfl q_X7_57 ?_
          refine aw_goto (q := 76) dX7_checksNet_72 (by decide) ?_
          cases H
          exact aw_ret dX7_checksNet_76 rfl rfl rfl rfl ⟨rfl, rfl⟩
        · replace H := zf h7 H
          refine aw_iconst (q := 76) (v := 0) dX7_checksNet_75 rfl (by decide) ?_
          cases H
          exact aw_ret dX7_checksNet_76 rfl rfl rfl rfl ⟨rfl, rfl⟩
      · subst h9
        cases H
        exact ⟨rfl, rfl⟩
    · replace H := zf h3 H
      refine aw_ldc (q := 24) dX7_checksNet_22 rfl q_X7_53 ?_
      cases H
      exact aw_ret dX7_checksNet_24 rfl rfl rfl rfl ⟨rfl, rfl⟩
  · replace H := zf h1 H
    refine aw_ldc (q := 24) dX7_checksNet_22 rfl q_X7_53 ?_
    cases H
    exact aw_ret dX7_checksNet_24 rfl rfl rfl rfl ⟨rfl, rfl⟩
def f_X7_addsNet (s : zr) (x1 : Int32) : Option (Int32 × zr) :=
  if zin ((9 : Int32) + (s 1 0)) 88 = true then
  zlt (zm s 1 (((9 : Int32) + (s 1 0)).toNatClampNeg) x1) fun s2 =>
  zlt (zm s2 1 0 ((s2 1 0) + 1)) fun s4 =>
  some ((s4 1 0) - 1, s4)
  else none
set_option maxHeartbeats 4000000 in
set_option maxRecDepth 100000 in
theorem c_X7_addsNet {G : zG} {sl : Nat} (sg : zs) (s : zr) (x1 : Int32) {v9 : (Int32 × zr)} (H : f_X7_addsNet s x1 = some v9) : zMv G 0 M_X7_addsNet [.ref 120, .int x1] sl (zT sg s) (fun r h' => r = some (.int v9.1) ∧ h' = zT sg v9.2) := by
  unfold f_X7_addsNet at H
  refine zMv_of (L := [some (.ref 120), some (.int x1)]) (by decide) rfl (Nat.le_of_ble_eq_true rfl) rfl ?_
  refine aw_aload_n (q := 1) dX7_addsNet_0 rfl rfl ?_
  refine aw_getr (q := 4) dX7_addsNet_1 rfl e_X7_7 (by decide) (o_X7 sg s) rfl ?_
  refine aw_bipush (q := 6) (v := 9) dX7_addsNet_4 rfl (by decide) ?_
  refine aw_aload_n (q := 7) dX7_addsNet_6 rfl rfl ?_
  refine aw_getr (q := 10) dX7_addsNet_7 rfl e_X7_7 (by decide) (o_X7 sg s) rfl ?_
  refine aw_iconst (q := 11) (v := 0) dX7_addsNet_10 rfl (by decide) ?_
  refine aw_iald' (q := 12) (v := s 1 0) dX7_addsNet_11 rfl (by decide) (o_X7a0 sg s) (zin_in (by decide)) rfl ?_
  refine aw_iadd (q := 13) dX7_addsNet_12 rfl ?_
  refine aw_iload_n (q := 14) dX7_addsNet_13 rfl rfl ?_
  obtain ⟨h1, H⟩ := zio H
  obtain ⟨s2, q3, H⟩ := zltd H
  refine aw_iast (q := 15) dX7_addsNet_14 rfl (by decide) (o_X7a0 sg s) (zin_in h1) ((p_X7a0).trans (congrArg (fun z => zT sg z) q3.symm)) ?_
  refine aw_aload_n (q := 16) dX7_addsNet_15 rfl rfl ?_
  refine aw_getr (q := 19) dX7_addsNet_16 rfl e_X7_7 (by decide) (o_X7 sg s2) rfl ?_
  refine aw_iconst (q := 20) (v := 0) dX7_addsNet_19 rfl (by decide) ?_
  refine aw_dup2 (q := 21) dX7_addsNet_20 rfl rfl rfl ?_
  refine aw_iald' (q := 22) (v := s2 1 0) dX7_addsNet_21 rfl (by decide) (o_X7a0 sg s2) (zin_in (by decide)) rfl ?_
  refine aw_iconst (q := 23) (v := 1) dX7_addsNet_22 rfl (by decide) ?_
  refine aw_iadd (q := 24) dX7_addsNet_23 rfl ?_
  obtain ⟨s4, q5, H⟩ := zltd H
  refine aw_iast (q := 25) dX7_addsNet_24 rfl (by decide) (o_X7a0 sg s2) (zin_in (by decide)) ((p_X7a0).trans (congrArg (fun z => zT sg z) q5.symm)) ?_
  refine aw_aload_n (q := 26) dX7_addsNet_25 rfl rfl ?_
  refine aw_getr (q := 29) dX7_addsNet_26 rfl e_X7_7 (by decide) (o_X7 sg s4) rfl ?_
  refine aw_iconst (q := 30) (v := 0) dX7_addsNet_29 rfl (by decide) ?_
  refine aw_iald' (q := 31) (v := s4 1 0) dX7_addsNet_30 rfl (by decide) (o_X7a0 sg s4) (zin_in (by decide)) rfl ?_
  refine aw_iconst (q := 32) (v := 1) dX7_addsNet_31 rfl (by decide) ?_
  refine aw_isub (q := 33) dX7_addsNet_32 rfl ?_
  cases H
  exact aw_ret dX7_addsNet_33 rfl rfl rfl rfl ⟨rfl, rfl⟩
def f_X7_net (s : zr) (x1 : Int32) : Option (Int32 × zr) :=
  Option.bind (f_X7_checksNet s x1) fun v1 =>
  if v1 = 0 then (
    Option.bind (f_X7_records s) fun v3 =>
    Option.bind (f_X7_addsNet v3 x1) fun v4 =>
    some (v4.1, v4.2)
  ) else (
    some (v1, s)
  )
set_option maxHeartbeats 4000000 in
set_option maxRecDepth 100000 in
theorem c_X7_net {G : zG} {sl : Nat} (sg : zs) (s : zr) (x1 : Int32) {v9 : (Int32 × zr)} (H : f_X7_net s x1 = some v9) : zMv G 3 M_X7_net [.ref 120, .int x1] sl (zT sg s) (fun r h' => r = some (.int v9.1) ∧ h' = zT sg v9.2) := by
  unfold f_X7_net at H
  refine zMv_of (L := [some (.ref 120), some (.int x1), none]) (by decide) rfl (Nat.le_of_ble_eq_true rfl) rfl ?_
  refine aw_aload_n (q := 1) dX7_net_0 rfl rfl ?_
  refine aw_iload_n (q := 2) dX7_net_1 rfl rfl ?_
  obtain ⟨v1, hv1, H⟩ := zbd H
  refine aw_cv (M' := M_X7_checksNet) (as := [.int x1]) (q := 5) dX7_net_2 rfl W_X7_checksNet k_X7_58 i_X7_checksNet v_X7_checksNet (by decide) (o_X7 sg s) rfl rfl rfl (by decide) (Nat.le_of_ble_eq_true rfl) (c_X7_checksNet sg s x1 hv1) (Nat.le_refl _) (Nat.le_refl _) ?_
  rintro r9 h9 ⟨rfl, rfl⟩
  refine aw_istore_n (q := 6) (L' := [some (.ref 120), some (.int x1), some (.int v1)]) dX7_net_5 rfl (by decide) rfl rfl ?_
  refine aw_iload_n (q := 7) dX7_net_6 rfl rfl ?_
  refine aw_if_eq (q := 10) (t := 12) dX7_net_7 rfl (by decide) (fun h2 => ?_) (fun h2 => ?_)
  · replace H := zt h2 H
    refine aw_aload_n (q := 13) dX7_net_12 rfl rfl ?_
    obtain ⟨v3, hv3, H⟩ := zbd H
    refine aw_cv (M' := M_X7_records) (as := []) (q := 16) dX7_net_13 rfl W_X7_records k_X7_61 i_X7_records v_X7_records (by decide) (o_X7 sg s) rfl rfl rfl (by decide) (Nat.le_of_ble_eq_true rfl) (c_X7_records sg s hv3) (Nat.le_refl _) (Nat.le_refl _) ?_
    rintro r9 h9 ⟨rfl, rfl⟩
    refine aw_aload_n (q := 17) dX7_net_16 rfl rfl ?_
    refine aw_iload_n (q := 18) dX7_net_17 rfl rfl ?_
    obtain ⟨v4, hv4, H⟩ := zbd H
    refine aw_cv (M' := M_X7_addsNet) (as := [.int x1]) (q := 21) dX7_net_18 rfl W_X7_addsNet k_X7_64 i_X7_addsNet v_X7_addsNet (by decide) (o_X7 sg v3) rfl rfl rfl (by decide) (Nat.le_of_ble_eq_true rfl) (c_X7_addsNet sg v3 x1 hv4) (Nat.le_refl _) (Nat.le_refl _) ?_
    rintro r9 h9 ⟨rfl, rfl⟩
    cases H
    exact aw_ret dX7_net_21 rfl rfl rfl rfl ⟨rfl, rfl⟩
  · replace H := zf h2 H
    refine aw_iload_n (q := 11) dX7_net_10 rfl rfl ?_
    cases H
    exact aw_ret dX7_net_11 rfl rfl rfl rfl ⟨rfl, rfl⟩
def f_X7_checksChip_79 : Nat → zr → Int32 → Int32 → Option ((Unit) ⊕ (Int32))
  | 0, _, _, _ => none
  | k + 1, s, x4, x5 =>
    if (16 : Int32) ≤ x5 then (
      some (Sum.inl ())
    ) else (
      if f_X7_has x4 x5 = true then (
        Option.bind (f_X7_chipOf s x5) fun v3 =>
        if v3 = (-1) then (
          f_X7_checksChip_79 k s x4 (x5 + 1)
        ) else (
          some (Sum.inr (-1000002))
        )
      ) else (
        f_X7_checksChip_79 k s x4 (x5 + 1)
      )
    )
set_option maxHeartbeats 4000000 in
set_option maxRecDepth 100000 in
theorem L_X7_checksChip_79 {G : zG} {sl : Nat} {P : Option Value → zH → Prop} (sg : zs) (x4 : Int32) : ∀ (k : Nat) (s : zr) (x5 : Int32) (e : (Unit) ⊕ (Int32)), f_X7_checksChip_79 k s x4 x5 = some e → (∀ x9, e = Sum.inl x9 → AV G M_X7_checksChip 3 sl P 115 [some (.ref 120), none, none, none, none, none] [] (zT sg s)) → (∀ v9, e = Sum.inr v9 → P (some (.int v9)) (zT sg s)) → AV G M_X7_checksChip 3 sl P 79 [some (.ref 120), none, none, none, some (.int x4), some (.int x5)] [] (zT sg s) := by
  intro k
  induction k with
  | zero =>
    intro s x5 e H
    unfold f_X7_checksChip_79 at H
    cases H
  | succ k ih =>
    intro s x5 e H KE KR
    unfold f_X7_checksChip_79 at H
    refine aw_iload (q := 81) dX7_checksChip_79 rfl rfl ?_
    refine aw_bipush (q := 83) (v := 16) dX7_checksChip_81 rfl (by decide) ?_
    refine aw_icmp_ge (q := 86) (t := 115) dX7_checksChip_83 rfl (by decide) (fun h1 => ?_) (fun h1 => ?_)
    · replace H := zt h1 H
      cases H
      exact aw_fewer (L' := [some (.ref 120), none, none, none, none, none]) ⟨rfl, trivial⟩ (KE _ rfl)
    · replace H := zf h1 H
      refine aw_iload (q := 88) dX7_checksChip_86 rfl rfl ?_
      refine aw_iload (q := 90) dX7_checksChip_88 rfl rfl ?_
      refine aw_cs (M' := M_X7_has) (as := [.int x4, .int x5]) (q := 93) dX7_checksChip_90 rfl W_X7_has k_X7_36 s_X7_has rfl rfl (by decide) (Nat.le_of_ble_eq_true rfl) (c_X7_has (zT sg s) x4 x5) (Nat.le_refl _) (Nat.le_refl _) ?_
      rintro r9 h9 ⟨rfl, rfl⟩
      refine aw_ifeqB (q := 96) (t := 109) dX7_checksChip_93 rfl (by decide) (fun h2 => ?_) (fun h2 => ?_)
      · replace H := zt h2 H
        refine aw_aload_n (q := 97) dX7_checksChip_96 rfl rfl ?_
        refine aw_iload (q := 99) dX7_checksChip_97 rfl rfl ?_
        obtain ⟨v3, hv3, H⟩ := zbd H
        refine aw_cv (M' := M_X7_chipOf) (as := [.int x5]) (q := 102) dX7_checksChip_99 rfl W_X7_chipOf k_X7_67 i_X7_chipOf v_X7_chipOf (by decide) (o_X7 sg s) rfl rfl rfl (by decide) (Nat.le_of_ble_eq_true rfl) (c_X7_chipOf sg s x5 hv3) (Nat.le_refl _) (Nat.le_refl _) ?_
        rintro r9 h9 ⟨rfl, rfl⟩
        refine aw_iconst (q := 103) (v := (-1)) dX7_checksChip_102 rfl (by decide) ?_
        refine aw_icmp_eq (q := 106) (t := 109) dX7_checksChip_103 rfl (by decide) (fun h4 => ?_) (fun h4 => ?_)
        · replace H := zt h4 H
          refine aw_iinc (q := 112) (v := x5 + 1) (L' := [some (.ref 120), none, none, none, some (.int x4), some (.int (x5 + 1))]) dX7_checksChip_109 rfl rfl (by first | rfl | decide) (by decide) rfl rfl ?_
          refine aw_goto (q := 79) dX7_checksChip_112 (by decide) ?_
          exact aw_fewer (L' := [some (.ref 120), none, none, none, some (.int x4), some (.int (x5 + 1))]) ⟨rfl, ⟨rfl, ⟨rfl, trivial⟩⟩⟩ (ih s (x5 + 1) _ H KE KR)
        · replace H := zf h4 H
          refine aw_ldc (q := 108) dX7_checksChip_106 rfl q_X7_35 ?_
          cases H
          exact aw_ret dX7_checksChip_108 rfl rfl rfl rfl (KR _ rfl)
      · replace H := zf h2 H
        refine aw_iinc (q := 112) (v := x5 + 1) (L' := [some (.ref 120), none, none, none, some (.int x4), some (.int (x5 + 1))]) dX7_checksChip_109 rfl rfl (by first | rfl | decide) (by decide) rfl rfl ?_
        refine aw_goto (q := 79) dX7_checksChip_112 (by decide) ?_
        exact aw_fewer (L' := [some (.ref 120), none, none, none, some (.int x4), some (.int (x5 + 1))]) ⟨rfl, ⟨rfl, ⟨rfl, trivial⟩⟩⟩ (ih s (x5 + 1) _ H KE KR)
def f_X7_checksChip (s : zr) (x1 : Int32) (x2 : Int32) (x3 : Int32) : Option Int32 :=
  if f_X7_isIn x1 0 15 = true then (
    if f_X7_isIn x2 0 15 = true then (
      if x1 = x2 then (
        some (-1000001)
      ) else (
        if f_X7_isIn x3 0 65535 = true then (
          Option.bind (f_X7_ones x3) fun v5 =>
          if (5 : Int32) < v5 then (
            some (-1000001)
          ) else (
            if f_X7_has x3 x1 = true then (
              some (-1000001)
            ) else (
              if f_X7_has x3 x2 = true then (
                some (-1000001)
              ) else (
                zlt ((x3 ||| ((1 : Int32) <<< (x1 &&& 31))) ||| ((1 : Int32) <<< (x2 &&& 31)) : Int32) fun y9 =>
                Option.bind (f_X7_checksChip_79 zFu s y9 0) fun e11 => match e11 with
                | Sum.inr r13 => some r13
                | Sum.inl e11i =>
                if (s 1 1) = 5 then (
                  some (-1000003)
                ) else (
                  some 0
                )
              )
            )
          )
        ) else (
          some (-1000001)
        )
      )
    ) else (
      some (-1000001)
    )
  ) else (
    some (-1000001)
  )
set_option maxHeartbeats 4000000 in
set_option maxRecDepth 100000 in
theorem c_X7_checksChip {G : zG} {sl : Nat} (sg : zs) (s : zr) (x1 : Int32) (x2 : Int32) (x3 : Int32) {v9 : Int32} (H : f_X7_checksChip s x1 x2 x3 = some v9) : zMv G 3 M_X7_checksChip [.ref 120, .int x1, .int x2, .int x3] sl (zT sg s) (fun r h' => r = some (.int v9) ∧ h' = (zT sg s)) := by
  unfold f_X7_checksChip at H
  refine zMv_of (L := [some (.ref 120), some (.int x1), some (.int x2), some (.int x3), none, none]) (by decide) rfl (Nat.le_of_ble_eq_true rfl) rfl ?_
  refine aw_iload_n (q := 1) dX7_checksChip_0 rfl rfl ?_
  refine aw_iconst (q := 2) (v := 0) dX7_checksChip_1 rfl (by decide) ?_
  refine aw_bipush (q := 4) (v := 15) dX7_checksChip_2 rfl (by decide) ?_
  refine aw_cs (M' := M_X7_isIn) (as := [.int x1, .int 0, .int 15]) (q := 7) dX7_checksChip_4 rfl W_X7_isIn k_X7_45 s_X7_isIn rfl rfl (by decide) (Nat.le_of_ble_eq_true rfl) (c_X7_isIn (zT sg s) x1 0 15) (Nat.le_refl _) (Nat.le_refl _) ?_
  rintro r9 h9 ⟨rfl, rfl⟩
  refine aw_ifeqB (q := 10) (t := 25) dX7_checksChip_7 rfl (by decide) (fun h1 => ?_) (fun h1 => ?_)
  · replace H := zt h1 H
    refine aw_iload_n (q := 11) dX7_checksChip_10 rfl rfl ?_
    refine aw_iconst (q := 12) (v := 0) dX7_checksChip_11 rfl (by decide) ?_
    refine aw_bipush (q := 14) (v := 15) dX7_checksChip_12 rfl (by decide) ?_
    refine aw_cs (M' := M_X7_isIn) (as := [.int x2, .int 0, .int 15]) (q := 17) dX7_checksChip_14 rfl W_X7_isIn k_X7_45 s_X7_isIn rfl rfl (by decide) (Nat.le_of_ble_eq_true rfl) (c_X7_isIn (zT sg s) x2 0 15) (Nat.le_refl _) (Nat.le_refl _) ?_
    rintro r9 h9 ⟨rfl, rfl⟩
    refine aw_ifeqB (q := 20) (t := 25) dX7_checksChip_17 rfl (by decide) (fun h2 => ?_) (fun h2 => ?_)
    · replace H := zt h2 H
      refine aw_iload_n (q := 21) dX7_checksChip_20 rfl rfl ?_
      refine aw_iload_n (q := 22) dX7_checksChip_21 rfl rfl ?_
      refine aw_icmp_neP (q := 25) (t := 28) dX7_checksChip_22 rfl (by decide) (fun h3 => ?_) (fun h3 => ?_)
      · replace H := zt h3 H
        refine aw_ldc (q := 27) dX7_checksChip_25 rfl q_X7_53 ?_
        cases H
        exact aw_ret dX7_checksChip_27 rfl rfl rfl rfl ⟨rfl, rfl⟩
      · replace H := zf h3 H
        refine aw_iload_n (q := 29) dX7_checksChip_28 rfl rfl ?_
        refine aw_iconst (q := 30) (v := 0) dX7_checksChip_29 rfl (by decide) ?_
        refine aw_ldc (q := 32) dX7_checksChip_30 rfl q_X7_44 ?_
        refine aw_cs (M' := M_X7_isIn) (as := [.int x3, .int 0, .int 65535]) (q := 35) dX7_checksChip_32 rfl W_X7_isIn k_X7_45 s_X7_isIn rfl rfl (by decide) (Nat.le_of_ble_eq_true rfl) (c_X7_isIn (zT sg s) x3 0 65535) (Nat.le_refl _) (Nat.le_refl _) ?_
        rintro r9 h9 ⟨rfl, rfl⟩
        refine aw_ifeqB (q := 38) (t := 62) dX7_checksChip_35 rfl (by decide) (fun h4 => ?_) (fun h4 => ?_)
        · replace H := zt h4 H
          refine aw_iload_n (q := 39) dX7_checksChip_38 rfl rfl ?_
          obtain ⟨v5, hv5, H⟩ := zbd H
          refine aw_cs (M' := M_X7_ones) (as := [.int x3]) (q := 42) dX7_checksChip_39 rfl W_X7_ones k_X7_49 s_X7_ones rfl rfl (by decide) (Nat.le_of_ble_eq_true rfl) (c_X7_ones (zT sg s) x3 hv5) (Nat.le_refl _) (Nat.le_refl _) ?_
          rintro r9 h9 ⟨rfl, rfl⟩
          refine aw_iconst (q := 43) (v := 5) dX7_checksChip_42 rfl (by decide) ?_
          refine aw_icmp_gt (q := 46) (t := 62) dX7_checksChip_43 rfl (by decide) (fun h6 => ?_) (fun h6 => ?_)
          · replace H := zt h6 H
            refine aw_ldc (q := 64) dX7_checksChip_62 rfl q_X7_53 ?_
            cases H
            exact aw_ret dX7_checksChip_64 rfl rfl rfl rfl ⟨rfl, rfl⟩
          · replace H := zf h6 H
            refine aw_iload_n (q := 47) dX7_checksChip_46 rfl rfl ?_
            refine aw_iload_n (q := 48) dX7_checksChip_47 rfl rfl ?_
            refine aw_cs (M' := M_X7_has) (as := [.int x3, .int x1]) (q := 51) dX7_checksChip_48 rfl W_X7_has k_X7_36 s_X7_has rfl rfl (by decide) (Nat.le_of_ble_eq_true rfl) (c_X7_has (zT sg s) x3 x1) (Nat.le_refl _) (Nat.le_refl _) ?_
            rintro r9 h9 ⟨rfl, rfl⟩
            refine aw_ifneB (q := 54) (t := 62) dX7_checksChip_51 rfl (by decide) (fun h7 => ?_) (fun h7 => ?_)
            · replace H := zt h7 H
              refine aw_ldc (q := 64) dX7_checksChip_62 rfl q_X7_53 ?_
              cases H
              exact aw_ret dX7_checksChip_64 rfl rfl rfl rfl ⟨rfl, rfl⟩
            · replace H := zf h7 H
              refine aw_iload_n (q := 55) dX7_checksChip_54 rfl rfl ?_
              refine aw_iload_n (q := 56) dX7_checksChip_55 rfl rfl ?_
              refine aw_cs (M' := M_X7_has) (as := [.int x3, .int x2]) (q := 59) dX7_checksChip_56 rfl W_X7_has k_X7_36 s_X7_has rfl rfl (by decide) (Nat.le_of_ble_eq_true rfl) (c_X7_has (zT sg s) x3 x2) (Nat.le_refl _) (Nat.le_refl _) ?_
              rintro r9 h9 ⟨rfl, rfl⟩
              refine aw_ifeqB (q := 62) (t := 65) dX7_checksChip_59 rfl (by decide) (fun h8 => ?_) (fun h8 => ?_)
              · replace H := zt h8 H
                refine aw_ldc (q := 64) dX7_checksChip_62 rfl q_X7_53 ?_
                cases H
                exact aw_ret dX7_checksChip_64 rfl rfl rfl rfl ⟨rfl, rfl⟩
              · replace H := zf h8 H
                refine aw_iload_n (q := 66) dX7_checksChip_65 rfl rfl ?_
                refine aw_iconst (q := 67) (v := 1) dX7_checksChip_66 rfl (by decide) ?_
                refine aw_iload_n (q := 68) dX7_checksChip_67 rfl rfl ?_
                refine aw_ishl (q := 69) dX7_checksChip_68 rfl ?_
                refine aw_ior (q := 70) dX7_checksChip_69 rfl ?_
                refine aw_iconst (q := 71) (v := 1) dX7_checksChip_70 rfl (by decide) ?_
                refine aw_iload_n (q := 72) dX7_checksChip_71 rfl rfl ?_
                refine aw_ishl (q := 73) dX7_checksChip_72 rfl ?_
                refine aw_ior (q := 74) dX7_checksChip_73 rfl ?_
                obtain ⟨y9, q10, H⟩ := zltd H
                refine aw_nm q10 ?_
                refine aw_istore (q := 76) (L' := [some (.ref 120), some (.int x1), some (.int x2), some (.int x3), some (.int y9), none]) dX7_checksChip_74 rfl (by decide) rfl rfl ?_
                refine aw_iconst (q := 77) (v := 0) dX7_checksChip_76 rfl (by decide) ?_
                refine aw_istore (q := 79) (L' := [some (.ref 120), some (.int x1), some (.int x2), some (.int x3), some (.int y9), some (.int 0)]) dX7_checksChip_77 rfl (by decide) rfl rfl ?_
                obtain ⟨e11, he11, H⟩ := zbd H
                refine aw_fewer (L' := [some (.ref 120), none, none, none, some (.int y9), some (.int 0)]) ⟨rfl, ⟨rfl, ⟨rfl, trivial⟩⟩⟩ ?_
                refine L_X7_checksChip_79 sg y9 zFu s 0 e11 he11 (fun e11i h9 => ?_) (fun r13 h9 => ?_)
                · subst h9
                  replace H : _ = _ := H
                  refine aw_aload_n (q := 116) dX7_checksChip_115 rfl rfl ?_
                  refine aw_getr (q := 119) dX7_checksChip_116 rfl e_X7_7 (by decide) (o_X7 sg s) rfl ?_
                  refine aw_iconst (q := 120) (v := 1) dX7_checksChip_119 rfl (by decide) ?_
                  refine aw_iald' (q := 121) (v := s 1 1) dX7_checksChip_120 rfl (by decide) (o_X7a0 sg s) (zin_in (by decide)) rfl ?_
                  refine aw_iconst (q := 122) (v := 5) dX7_checksChip_121 rfl (by decide) ?_
                  refine aw_icmp_neP (q := 125) (t := 130) dX7_checksChip_122 rfl (by decide) (fun h14 => ?_) (fun h14 => ?_)
                  · replace H := zt h14 H
                    refine aw_ldc (q := 127) dX7_checksChip_125 rfl q_X7_57 ?_
                    refine aw_goto (q := 131) dX7_checksChip_127 (by decide) ?_
                    cases H
                    exact aw_ret dX7_checksChip_131 rfl rfl rfl rfl ⟨rfl, rfl⟩
                  · replace H := zf h14 H
                    refine aw_iconst (q := 131) (v := 0) dX7_checksChip_130 rfl (by decide) ?_
                    cases H
                    exact aw_ret dX7_checksChip_131 rfl rfl rfl rfl ⟨rfl, rfl⟩
                · subst h9
                  cases H
                  exact ⟨rfl, rfl⟩
        · replace H := zf h4 H
          refine aw_ldc (q := 64) dX7_checksChip_62 rfl q_X7_53 ?_
          cases H
          exact aw_ret dX7_checksChip_64 rfl rfl rfl rfl ⟨rfl, rfl⟩
    · replace H := zf h2 H
      refine aw_ldc (q := 27) dX7_checksChip_25 rfl q_X7_53 ?_
      cases H
      exact aw_ret dX7_checksChip_27 rfl rfl rfl rfl ⟨rfl, rfl⟩
  · replace H := zf h1 H
    refine aw_ldc (q := 27) dX7_checksChip_25 rfl q_X7_53 ?_
    cases H
    exact aw_ret dX7_checksChip_27 rfl rfl rfl rfl ⟨rfl, rfl⟩
def f_X7_addsChip (s : zr) (x1 : Int32) (x2 : Int32) (x3 : Int32) : Option (Int32 × zr) :=
  zlt (s 1 1 : Int32) fun y1 =>
  if zin ((17 : Int32) + y1) 88 = true then
  zlt (zm s 1 (((17 : Int32) + y1).toNatClampNeg) x1) fun s4 =>
  if zin ((22 : Int32) + y1) 88 = true then
  zlt (zm s4 1 (((22 : Int32) + y1).toNatClampNeg) x2) fun s7 =>
  if zin ((27 : Int32) + y1) 88 = true then
  zlt (zm s7 1 (((27 : Int32) + y1).toNatClampNeg) x3) fun s10 =>
  zlt (zm s10 1 1 ((s10 1 1) + 1)) fun s12 =>
  some (y1, s12)
  else none
  else none
  else none
set_option maxHeartbeats 4000000 in
set_option maxRecDepth 100000 in
theorem c_X7_addsChip {G : zG} {sl : Nat} (sg : zs) (s : zr) (x1 : Int32) (x2 : Int32) (x3 : Int32) {v9 : (Int32 × zr)} (H : f_X7_addsChip s x1 x2 x3 = some v9) : zMv G 0 M_X7_addsChip [.ref 120, .int x1, .int x2, .int x3] sl (zT sg s) (fun r h' => r = some (.int v9.1) ∧ h' = zT sg v9.2) := by
  unfold f_X7_addsChip at H
  refine zMv_of (L := [some (.ref 120), some (.int x1), some (.int x2), some (.int x3), none]) (by decide) rfl (Nat.le_of_ble_eq_true rfl) rfl ?_
  refine aw_aload_n (q := 1) dX7_addsChip_0 rfl rfl ?_
  refine aw_getr (q := 4) dX7_addsChip_1 rfl e_X7_7 (by decide) (o_X7 sg s) rfl ?_
  refine aw_iconst (q := 5) (v := 1) dX7_addsChip_4 rfl (by decide) ?_
  refine aw_iald' (q := 6) (v := s 1 1) dX7_addsChip_5 rfl (by decide) (o_X7a0 sg s) (zin_in (by decide)) rfl ?_
  obtain ⟨y1, q2, H⟩ := zltd H
  refine aw_nm q2 ?_
  refine aw_istore (q := 8) (L' := [some (.ref 120), some (.int x1), some (.int x2), some (.int x3), some (.int y1)]) dX7_addsChip_6 rfl (by decide) rfl rfl ?_
  refine aw_aload_n (q := 9) dX7_addsChip_8 rfl rfl ?_
  refine aw_getr (q := 12) dX7_addsChip_9 rfl e_X7_7 (by decide) (o_X7 sg s) rfl ?_
  refine aw_bipush (q := 14) (v := 17) dX7_addsChip_12 rfl (by decide) ?_
  refine aw_iload (q := 16) dX7_addsChip_14 rfl rfl ?_
  refine aw_iadd (q := 17) dX7_addsChip_16 rfl ?_
  refine aw_iload_n (q := 18) dX7_addsChip_17 rfl rfl ?_
  obtain ⟨h3, H⟩ := zio H
  obtain ⟨s4, q5, H⟩ := zltd H
  refine aw_iast (q := 19) dX7_addsChip_18 rfl (by decide) (o_X7a0 sg s) (zin_in h3) ((p_X7a0).trans (congrArg (fun z => zT sg z) q5.symm)) ?_
  refine aw_aload_n (q := 20) dX7_addsChip_19 rfl rfl ?_
  refine aw_getr (q := 23) dX7_addsChip_20 rfl e_X7_7 (by decide) (o_X7 sg s4) rfl ?_
  refine aw_bipush (q := 25) (v := 22) dX7_addsChip_23 rfl (by decide) ?_
  refine aw_iload (q := 27) dX7_addsChip_25 rfl rfl ?_
  refine aw_iadd (q := 28) dX7_addsChip_27 rfl ?_
  refine aw_iload_n (q := 29) dX7_addsChip_28 rfl rfl ?_
  obtain ⟨h6, H⟩ := zio H
  obtain ⟨s7, q8, H⟩ := zltd H
  refine aw_iast (q := 30) dX7_addsChip_29 rfl (by decide) (o_X7a0 sg s4) (zin_in h6) ((p_X7a0).trans (congrArg (fun z => zT sg z) q8.symm)) ?_
  refine aw_aload_n (q := 31) dX7_addsChip_30 rfl rfl ?_
  refine aw_getr (q := 34) dX7_addsChip_31 rfl e_X7_7 (by decide) (o_X7 sg s7) rfl ?_
  refine aw_bipush (q := 36) (v := 27) dX7_addsChip_34 rfl (by decide) ?_
  refine aw_iload (q := 38) dX7_addsChip_36 rfl rfl ?_
  refine aw_iadd (q := 39) dX7_addsChip_38 rfl ?_
  refine aw_iload_n (q := 40) dX7_addsChip_39 rfl rfl ?_
  obtain ⟨h9, H⟩ := zio H
  obtain ⟨s10, q11, H⟩ := zltd H
  refine aw_iast (q := 41) dX7_addsChip_40 rfl (by decide) (o_X7a0 sg s7) (zin_in h9) ((p_X7a0).trans (congrArg (fun z => zT sg z) q11.symm)) ?_
  refine aw_aload_n (q := 42) dX7_addsChip_41 rfl rfl ?_
  refine aw_getr (q := 45) dX7_addsChip_42 rfl e_X7_7 (by decide) (o_X7 sg s10) rfl ?_
  refine aw_iconst (q := 46) (v := 1) dX7_addsChip_45 rfl (by decide) ?_
  refine aw_dup2 (q := 47) dX7_addsChip_46 rfl rfl rfl ?_
  refine aw_iald' (q := 48) (v := s10 1 1) dX7_addsChip_47 rfl (by decide) (o_X7a0 sg s10) (zin_in (by decide)) rfl ?_
  refine aw_iconst (q := 49) (v := 1) dX7_addsChip_48 rfl (by decide) ?_
  refine aw_iadd (q := 50) dX7_addsChip_49 rfl ?_
  obtain ⟨s12, q13, H⟩ := zltd H
  refine aw_iast (q := 51) dX7_addsChip_50 rfl (by decide) (o_X7a0 sg s10) (zin_in (by decide)) ((p_X7a0).trans (congrArg (fun z => zT sg z) q13.symm)) ?_
  refine aw_iload (q := 53) dX7_addsChip_51 rfl rfl ?_
  cases H
  exact aw_ret dX7_addsChip_53 rfl rfl rfl rfl ⟨rfl, rfl⟩
def f_X7_chip (s : zr) (x1 : Int32) (x2 : Int32) (x3 : Int32) : Option (Int32 × zr) :=
  Option.bind (f_X7_checksChip s x1 x2 x3) fun v1 =>
  if v1 = 0 then (
    Option.bind (f_X7_records s) fun v3 =>
    Option.bind (f_X7_addsChip v3 x1 x2 x3) fun v4 =>
    some (v4.1, v4.2)
  ) else (
    some (v1, s)
  )
set_option maxHeartbeats 4000000 in
set_option maxRecDepth 100000 in
theorem c_X7_chip {G : zG} {sl : Nat} (sg : zs) (s : zr) (x1 : Int32) (x2 : Int32) (x3 : Int32) {v9 : (Int32 × zr)} (H : f_X7_chip s x1 x2 x3 = some v9) : zMv G 4 M_X7_chip [.ref 120, .int x1, .int x2, .int x3] sl (zT sg s) (fun r h' => r = some (.int v9.1) ∧ h' = zT sg v9.2) := by
  unfold f_X7_chip at H
  refine zMv_of (L := [some (.ref 120), some (.int x1), some (.int x2), some (.int x3), none]) (by decide) rfl (Nat.le_of_ble_eq_true rfl) rfl ?_
  refine aw_aload_n (q := 1) dX7_chip_0 rfl rfl ?_
  refine aw_iload_n (q := 2) dX7_chip_1 rfl rfl ?_
  refine aw_iload_n (q := 3) dX7_chip_2 rfl rfl ?_
  refine aw_iload_n (q := 4) dX7_chip_3 rfl rfl ?_
  obtain ⟨v1, hv1, H⟩ := zbd H
  refine aw_cv (M' := M_X7_checksChip) (as := [.int x1, .int x2, .int x3]) (q := 7) dX7_chip_4 rfl W_X7_checksChip k_X7_70 i_X7_checksChip v_X7_checksChip (by decide) (o_X7 sg s) rfl rfl rfl (by decide) (Nat.le_of_ble_eq_true rfl) (c_X7_checksChip sg s x1 x2 x3 hv1) (Nat.le_refl _) (Nat.le_refl _) ?_
  rintro r9 h9 ⟨rfl, rfl⟩
  refine aw_istore (q := 9) (L' := [some (.ref 120), some (.int x1), some (.int x2), some (.int x3), some (.int v1)]) dX7_chip_7 rfl (by decide) rfl rfl ?_
  refine aw_iload (q := 11) dX7_chip_9 rfl rfl ?_
  refine aw_if_eq (q := 14) (t := 17) dX7_chip_11 rfl (by decide) (fun h2 => ?_) (fun h2 => ?_)
  · replace H := zt h2 H
    refine aw_aload_n (q := 18) dX7_chip_17 rfl rfl ?_
    obtain ⟨v3, hv3, H⟩ := zbd H
    refine aw_cv (M' := M_X7_records) (as := []) (q := 21) dX7_chip_18 rfl W_X7_records k_X7_61 i_X7_records v_X7_records (by decide) (o_X7 sg s) rfl rfl rfl (by decide) (Nat.le_of_ble_eq_true rfl) (c_X7_records sg s hv3) (Nat.le_refl _) (Nat.le_refl _) ?_
    rintro r9 h9 ⟨rfl, rfl⟩
    refine aw_aload_n (q := 22) dX7_chip_21 rfl rfl ?_
    refine aw_iload_n (q := 23) dX7_chip_22 rfl rfl ?_
    refine aw_iload_n (q := 24) dX7_chip_23 rfl rfl ?_
    refine aw_iload_n (q := 25) dX7_chip_24 rfl rfl ?_
    obtain ⟨v4, hv4, H⟩ := zbd H
    refine aw_cv (M' := M_X7_addsChip) (as := [.int x1, .int x2, .int x3]) (q := 28) dX7_chip_25 rfl W_X7_addsChip k_X7_74 i_X7_addsChip v_X7_addsChip (by decide) (o_X7 sg v3) rfl rfl rfl (by decide) (Nat.le_of_ble_eq_true rfl) (c_X7_addsChip sg v3 x1 x2 x3 hv4) (Nat.le_refl _) (Nat.le_refl _) ?_
    rintro r9 h9 ⟨rfl, rfl⟩
    cases H
    exact aw_ret dX7_chip_28 rfl rfl rfl rfl ⟨rfl, rfl⟩
  · replace H := zf h2 H
    refine aw_iload (q := 16) dX7_chip_14 rfl rfl ?_
    cases H
    exact aw_ret dX7_chip_16 rfl rfl rfl rfl ⟨rfl, rfl⟩
def f_X7_manyOf (s : zr) (x1 : Int32) : Int32 :=
  if x1 = 0 then (
    16
  ) else (
    if x1 = 4 then (
      s 1 1
    ) else (
      s 1 0
    )
  )
set_option maxHeartbeats 4000000 in
set_option maxRecDepth 100000 in
theorem c_X7_manyOf {G : zG} {sl : Nat} (sg : zs) (s : zr) (x1 : Int32)  : zMv G 0 M_X7_manyOf [.ref 120, .int x1] sl (zT sg s) (fun r h' => r = some (.int (f_X7_manyOf s x1)) ∧ h' = (zT sg s)) := by
  generalize H : f_X7_manyOf s x1 = r0
  unfold f_X7_manyOf at H
  refine zMv_of (L := [some (.ref 120), some (.int x1)]) (by decide) rfl (Nat.le_of_ble_eq_true rfl) rfl ?_
  refine aw_iload_n (q := 1) dX7_manyOf_0 rfl rfl ?_
  refine aw_if_neP (q := 4) (t := 7) dX7_manyOf_1 rfl (by decide) (fun h1 => ?_) (fun h1 => ?_)
  · replace H := zt h1 H
    refine aw_bipush (q := 6) (v := 16) dX7_manyOf_4 rfl (by decide) ?_
    subst H
    exact aw_ret dX7_manyOf_6 rfl rfl rfl rfl ⟨rfl, rfl⟩
  · replace H := zf h1 H
    refine aw_iload_n (q := 8) dX7_manyOf_7 rfl rfl ?_
    refine aw_iconst (q := 9) (v := 4) dX7_manyOf_8 rfl (by decide) ?_
    refine aw_icmp_neP (q := 12) (t := 21) dX7_manyOf_9 rfl (by decide) (fun h2 => ?_) (fun h2 => ?_)
    · replace H := zt h2 H
      refine aw_aload_n (q := 13) dX7_manyOf_12 rfl rfl ?_
      refine aw_getr (q := 16) dX7_manyOf_13 rfl e_X7_7 (by decide) (o_X7 sg s) rfl ?_
      refine aw_iconst (q := 17) (v := 1) dX7_manyOf_16 rfl (by decide) ?_
      refine aw_iald' (q := 18) (v := s 1 1) dX7_manyOf_17 rfl (by decide) (o_X7a0 sg s) (zin_in (by decide)) rfl ?_
      refine aw_goto (q := 27) dX7_manyOf_18 (by decide) ?_
      subst H
      exact aw_ret dX7_manyOf_27 rfl rfl rfl rfl ⟨rfl, rfl⟩
    · replace H := zf h2 H
      refine aw_aload_n (q := 22) dX7_manyOf_21 rfl rfl ?_
      refine aw_getr (q := 25) dX7_manyOf_22 rfl e_X7_7 (by decide) (o_X7 sg s) rfl ?_
      refine aw_iconst (q := 26) (v := 0) dX7_manyOf_25 rfl (by decide) ?_
      refine aw_iald' (q := 27) (v := s 1 0) dX7_manyOf_26 rfl (by decide) (o_X7a0 sg s) (zin_in (by decide)) rfl ?_
      subst H
      exact aw_ret dX7_manyOf_27 rfl rfl rfl rfl ⟨rfl, rfl⟩
def f_X7_checksFault_63 : Nat → zr → Int32 → Int32 → Int32 → Int32 → Option ((Unit) ⊕ (Int32))
  | 0, _, _, _, _, _ => none
  | k + 1, s, x1, x2, x3, x4 =>
    if (s 1 2) ≤ x4 then (
      some (Sum.inl ())
    ) else (
      if zin ((32 : Int32) + x4) 88 = true then
      if (s 1 (((32 : Int32) + x4).toNatClampNeg)) = x1 then (
        if zin ((42 : Int32) + x4) 88 = true then
        if (s 1 (((42 : Int32) + x4).toNatClampNeg)) = x2 then (
          if zin ((52 : Int32) + x4) 88 = true then
          if (s 1 (((52 : Int32) + x4).toNatClampNeg)) = x3 then (
            some (Sum.inr (-1000002))
          ) else (
            f_X7_checksFault_63 k s x1 x2 x3 (x4 + 1)
          )
          else none
        ) else (
          f_X7_checksFault_63 k s x1 x2 x3 (x4 + 1)
        )
        else none
      ) else (
        f_X7_checksFault_63 k s x1 x2 x3 (x4 + 1)
      )
      else none
    )
set_option maxHeartbeats 4000000 in
set_option maxRecDepth 100000 in
theorem L_X7_checksFault_63 {G : zG} {sl : Nat} {P : Option Value → zH → Prop} (sg : zs) (x1 : Int32) (x2 : Int32) (x3 : Int32) : ∀ (k : Nat) (s : zr) (x4 : Int32) (e : (Unit) ⊕ (Int32)), f_X7_checksFault_63 k s x1 x2 x3 x4 = some e → (∀ x9, e = Sum.inl x9 → AV G M_X7_checksFault 1 sl P 125 [some (.ref 120), none, none, none, none] [] (zT sg s)) → (∀ v9, e = Sum.inr v9 → P (some (.int v9)) (zT sg s)) → AV G M_X7_checksFault 1 sl P 63 [some (.ref 120), some (.int x1), some (.int x2), some (.int x3), some (.int x4)] [] (zT sg s) := by
  intro k
  induction k with
  | zero =>
    intro s x4 e H
    unfold f_X7_checksFault_63 at H
    cases H
  | succ k ih =>
    intro s x4 e H KE KR
    unfold f_X7_checksFault_63 at H
    refine aw_iload (q := 65) dX7_checksFault_63 rfl rfl ?_
    refine aw_aload_n (q := 66) dX7_checksFault_65 rfl rfl ?_
    refine aw_getr (q := 69) dX7_checksFault_66 rfl e_X7_7 (by decide) (o_X7 sg s) rfl ?_
    refine aw_iconst (q := 70) (v := 2) dX7_checksFault_69 rfl (by decide) ?_
    refine aw_iald' (q := 71) (v := s 1 2) dX7_checksFault_70 rfl (by decide) (o_X7a0 sg s) (zin_in (by decide)) rfl ?_
    refine aw_icmp_ge (q := 74) (t := 125) dX7_checksFault_71 rfl (by decide) (fun h1 => ?_) (fun h1 => ?_)
    · replace H := zt h1 H
      cases H
      exact aw_fewer (L' := [some (.ref 120), none, none, none, none]) ⟨rfl, trivial⟩ (KE _ rfl)
    · replace H := zf h1 H
      refine aw_aload_n (q := 75) dX7_checksFault_74 rfl rfl ?_
      refine aw_getr (q := 78) dX7_checksFault_75 rfl e_X7_7 (by decide) (o_X7 sg s) rfl ?_
      refine aw_bipush (q := 80) (v := 32) dX7_checksFault_78 rfl (by decide) ?_
      refine aw_iload (q := 82) dX7_checksFault_80 rfl rfl ?_
      refine aw_iadd (q := 83) dX7_checksFault_82 rfl ?_
      obtain ⟨h2, H⟩ := zio H
      refine aw_iald' (q := 84) (v := s 1 (((32 : Int32) + x4).toNatClampNeg)) dX7_checksFault_83 rfl (by decide) (o_X7a0 sg s) (zin_in h2) rfl ?_
      refine aw_iload_n (q := 85) dX7_checksFault_84 rfl rfl ?_
      refine aw_icmp_neP (q := 88) (t := 119) dX7_checksFault_85 rfl (by decide) (fun h3 => ?_) (fun h3 => ?_)
      · replace H := zt h3 H
        refine aw_aload_n (q := 89) dX7_checksFault_88 rfl rfl ?_
        refine aw_getr (q := 92) dX7_checksFault_89 rfl e_X7_7 (by decide) (o_X7 sg s) rfl ?_
        refine aw_bipush (q := 94) (v := 42) dX7_checksFault_92 rfl (by decide) ?_
        refine aw_iload (q := 96) dX7_checksFault_94 rfl rfl ?_
        refine aw_iadd (q := 97) dX7_checksFault_96 rfl ?_
        obtain ⟨h4, H⟩ := zio H
        refine aw_iald' (q := 98) (v := s 1 (((42 : Int32) + x4).toNatClampNeg)) dX7_checksFault_97 rfl (by decide) (o_X7a0 sg s) (zin_in h4) rfl ?_
        refine aw_iload_n (q := 99) dX7_checksFault_98 rfl rfl ?_
        refine aw_icmp_neP (q := 102) (t := 119) dX7_checksFault_99 rfl (by decide) (fun h5 => ?_) (fun h5 => ?_)
        · replace H := zt h5 H
          refine aw_aload_n (q := 103) dX7_checksFault_102 rfl rfl ?_
          refine aw_getr (q := 106) dX7_checksFault_103 rfl e_X7_7 (by decide) (o_X7 sg s) rfl ?_
          refine aw_bipush (q := 108) (v := 52) dX7_checksFault_106 rfl (by decide) ?_
          refine aw_iload (q := 110) dX7_checksFault_108 rfl rfl ?_
          refine aw_iadd (q := 111) dX7_checksFault_110 rfl ?_
          obtain ⟨h6, H⟩ := zio H
          refine aw_iald' (q := 112) (v := s 1 (((52 : Int32) + x4).toNatClampNeg)) dX7_checksFault_111 rfl (by decide) (o_X7a0 sg s) (zin_in h6) rfl ?_
          refine aw_iload_n (q := 113) dX7_checksFault_112 rfl rfl ?_
          refine aw_icmp_neP (q := 116) (t := 119) dX7_checksFault_113 rfl (by decide) (fun h7 => ?_) (fun h7 => ?_)
          · replace H := zt h7 H
            refine aw_ldc (q := 118) dX7_checksFault_116 rfl q_X7_35 ?_
            cases H
            exact aw_ret dX7_checksFault_118 rfl rfl rfl rfl (KR _ rfl)
          · replace H := zf h7 H
            refine aw_iinc (q := 122) (v := x4 + 1) (L' := [some (.ref 120), some (.int x1), some (.int x2), some (.int x3), some (.int (x4 + 1))]) dX7_checksFault_119 rfl rfl (by first | rfl | decide) (by decide) rfl rfl ?_
            refine aw_goto (q := 63) dX7_checksFault_122 (by decide) ?_
            exact aw_fewer (L' := [some (.ref 120), some (.int x1), some (.int x2), some (.int x3), some (.int (x4 + 1))]) ⟨rfl, ⟨rfl, ⟨rfl, ⟨rfl, ⟨rfl, trivial⟩⟩⟩⟩⟩ (ih s (x4 + 1) _ H KE KR)
        · replace H := zf h5 H
          refine aw_iinc (q := 122) (v := x4 + 1) (L' := [some (.ref 120), some (.int x1), some (.int x2), some (.int x3), some (.int (x4 + 1))]) dX7_checksFault_119 rfl rfl (by first | rfl | decide) (by decide) rfl rfl ?_
          refine aw_goto (q := 63) dX7_checksFault_122 (by decide) ?_
          exact aw_fewer (L' := [some (.ref 120), some (.int x1), some (.int x2), some (.int x3), some (.int (x4 + 1))]) ⟨rfl, ⟨rfl, ⟨rfl, ⟨rfl, ⟨rfl, trivial⟩⟩⟩⟩⟩ (ih s (x4 + 1) _ H KE KR)
      · replace H := zf h3 H
        refine aw_iinc (q := 122) (v := x4 + 1) (L' := [some (.ref 120), some (.int x1), some (.int x2), some (.int x3), some (.int (x4 + 1))]) dX7_checksFault_119 rfl rfl (by first | rfl | decide) (by decide) rfl rfl ?_
        refine aw_goto (q := 63) dX7_checksFault_122 (by decide) ?_
        exact aw_fewer (L' := [some (.ref 120), some (.int x1), some (.int x2), some (.int x3), some (.int (x4 + 1))]) ⟨rfl, ⟨rfl, ⟨rfl, ⟨rfl, ⟨rfl, trivial⟩⟩⟩⟩⟩ (ih s (x4 + 1) _ H KE KR)
def f_X7_checksFault (s : zr) (x1 : Int32) (x2 : Int32) (x3 : Int32) : Option Int32 :=
  if f_X7_isIn x1 0 4 = true then (
    if f_X7_isIn x2 0 ((f_X7_manyOf s x1) - 1) = true then (
      if x1 = 1 then (
        if f_X7_isIn x3 (x2 + 1) ((s 1 0) - 1) = true then (
          Option.bind (f_X7_checksFault_63 zFu s x1 x2 x3 0) fun e5 => match e5 with
          | Sum.inr r7 => some r7
          | Sum.inl e5i =>
          if (s 1 2) = 10 then (
            some (-1000003)
          ) else (
            some 0
          )
        ) else (
          some (-1000001)
        )
      ) else (
        if x3 = 0 then (
          Option.bind (f_X7_checksFault_63 zFu s x1 x2 x3 0) fun e10 => match e10 with
          | Sum.inr r12 => some r12
          | Sum.inl e10i =>
          if (s 1 2) = 10 then (
            some (-1000003)
          ) else (
            some 0
          )
        ) else (
          some (-1000001)
        )
      )
    ) else (
      some (-1000001)
    )
  ) else (
    some (-1000001)
  )
set_option maxHeartbeats 4000000 in
set_option maxRecDepth 100000 in
theorem c_X7_checksFault {G : zG} {sl : Nat} (sg : zs) (s : zr) (x1 : Int32) (x2 : Int32) (x3 : Int32) {v9 : Int32} (H : f_X7_checksFault s x1 x2 x3 = some v9) : zMv G 1 M_X7_checksFault [.ref 120, .int x1, .int x2, .int x3] sl (zT sg s) (fun r h' => r = some (.int v9) ∧ h' = (zT sg s)) := by
  unfold f_X7_checksFault at H
  refine zMv_of (L := [some (.ref 120), some (.int x1), some (.int x2), some (.int x3), none]) (by decide) rfl (Nat.le_of_ble_eq_true rfl) rfl ?_
  refine aw_iload_n (q := 1) dX7_checksFault_0 rfl rfl ?_
  refine aw_iconst (q := 2) (v := 0) dX7_checksFault_1 rfl (by decide) ?_
  refine aw_iconst (q := 3) (v := 4) dX7_checksFault_2 rfl (by decide) ?_
  refine aw_cs (M' := M_X7_isIn) (as := [.int x1, .int 0, .int 4]) (q := 6) dX7_checksFault_3 rfl W_X7_isIn k_X7_45 s_X7_isIn rfl rfl (by decide) (Nat.le_of_ble_eq_true rfl) (c_X7_isIn (zT sg s) x1 0 4) (Nat.le_refl _) (Nat.le_refl _) ?_
  rintro r9 h9 ⟨rfl, rfl⟩
  refine aw_ifeqB (q := 9) (t := 24) dX7_checksFault_6 rfl (by decide) (fun h1 => ?_) (fun h1 => ?_)
  · replace H := zt h1 H
    refine aw_iload_n (q := 10) dX7_checksFault_9 rfl rfl ?_
    refine aw_iconst (q := 11) (v := 0) dX7_checksFault_10 rfl (by decide) ?_
    refine aw_aload_n (q := 12) dX7_checksFault_11 rfl rfl ?_
    refine aw_iload_n (q := 13) dX7_checksFault_12 rfl rfl ?_
    refine aw_cv (M' := M_X7_manyOf) (as := [.int x1]) (q := 16) dX7_checksFault_13 rfl W_X7_manyOf k_X7_77 i_X7_manyOf v_X7_manyOf (by decide) (o_X7 sg s) rfl rfl rfl (by decide) (Nat.le_of_ble_eq_true rfl) (c_X7_manyOf sg s x1) (Nat.le_refl _) (Nat.le_refl _) ?_
    rintro r9 h9 ⟨rfl, rfl⟩
    refine aw_iconst (q := 17) (v := 1) dX7_checksFault_16 rfl (by decide) ?_
    refine aw_isub (q := 18) dX7_checksFault_17 rfl ?_
    refine aw_cs (M' := M_X7_isIn) (as := [.int x2, .int 0, .int ((f_X7_manyOf s x1) - 1)]) (q := 21) dX7_checksFault_18 rfl W_X7_isIn k_X7_45 s_X7_isIn rfl rfl (by decide) (Nat.le_of_ble_eq_true rfl) (c_X7_isIn (zT sg s) x2 0 ((f_X7_manyOf s x1) - 1)) (Nat.le_refl _) (Nat.le_refl _) ?_
    rintro r9 h9 ⟨rfl, rfl⟩
    refine aw_ifneB (q := 24) (t := 27) dX7_checksFault_21 rfl (by decide) (fun h2 => ?_) (fun h2 => ?_)
    · replace H := zt h2 H
      refine aw_iload_n (q := 28) dX7_checksFault_27 rfl rfl ?_
      refine aw_iconst (q := 29) (v := 1) dX7_checksFault_28 rfl (by decide) ?_
      refine aw_icmp_neP (q := 32) (t := 53) dX7_checksFault_29 rfl (by decide) (fun h3 => ?_) (fun h3 => ?_)
      · replace H := zt h3 H
        refine aw_iload_n (q := 33) dX7_checksFault_32 rfl rfl ?_
        refine aw_iload_n (q := 34) dX7_checksFault_33 rfl rfl ?_
        refine aw_iconst (q := 35) (v := 1) dX7_checksFault_34 rfl (by decide) ?_
        refine aw_iadd (q := 36) dX7_checksFault_35 rfl ?_
        refine aw_aload_n (q := 37) dX7_checksFault_36 rfl rfl ?_
        refine aw_getr (q := 40) dX7_checksFault_37 rfl e_X7_7 (by decide) (o_X7 sg s) rfl ?_
        refine aw_iconst (q := 41) (v := 0) dX7_checksFault_40 rfl (by decide) ?_
        refine aw_iald' (q := 42) (v := s 1 0) dX7_checksFault_41 rfl (by decide) (o_X7a0 sg s) (zin_in (by decide)) rfl ?_
        refine aw_iconst (q := 43) (v := 1) dX7_checksFault_42 rfl (by decide) ?_
        refine aw_isub (q := 44) dX7_checksFault_43 rfl ?_
        refine aw_cs (M' := M_X7_isIn) (as := [.int x3, .int (x2 + 1), .int ((s 1 0) - 1)]) (q := 47) dX7_checksFault_44 rfl W_X7_isIn k_X7_45 s_X7_isIn rfl rfl (by decide) (Nat.le_of_ble_eq_true rfl) (c_X7_isIn (zT sg s) x3 (x2 + 1) ((s 1 0) - 1)) (Nat.le_refl _) (Nat.le_refl _) ?_
        rintro r9 h9 ⟨rfl, rfl⟩
        refine aw_ifneB (q := 50) (t := 60) dX7_checksFault_47 rfl (by decide) (fun h4 => ?_) (fun h4 => ?_)
        · replace H := zt h4 H
          refine aw_iconst (q := 61) (v := 0) dX7_checksFault_60 rfl (by decide) ?_
          refine aw_istore (q := 63) (L' := [some (.ref 120), some (.int x1), some (.int x2), some (.int x3), some (.int 0)]) dX7_checksFault_61 rfl (by decide) rfl rfl ?_
          obtain ⟨e5, he5, H⟩ := zbd H
          refine aw_fewer (L' := [some (.ref 120), some (.int x1), some (.int x2), some (.int x3), some (.int 0)]) ⟨rfl, ⟨rfl, ⟨rfl, ⟨rfl, ⟨rfl, trivial⟩⟩⟩⟩⟩ ?_
          refine L_X7_checksFault_63 sg x1 x2 x3 zFu s 0 e5 he5 (fun e5i h9 => ?_) (fun r7 h9 => ?_)
          · subst h9
            replace H : _ = _ := H
            refine aw_aload_n (q := 126) dX7_checksFault_125 rfl rfl ?_
            refine aw_getr (q := 129) dX7_checksFault_126 rfl e_X7_7 (by decide) (o_X7 sg s) rfl ?_
            refine aw_iconst (q := 130) (v := 2) dX7_checksFault_129 rfl (by decide) ?_
            refine aw_iald' (q := 131) (v := s 1 2) dX7_checksFault_130 rfl (by decide) (o_X7a0 sg s) (zin_in (by decide)) rfl ?_
            refine aw_bipush (q := 133) (v := 10) dX7_checksFault_131 rfl (by decide) ?_
            refine aw_icmp_neP (q := 136) (t := 141) dX7_checksFault_133 rfl (by decide) (fun h8 => ?_) (fun h8 => ?_)
            · replace H := zt h8 H
              refine aw_ldc (q := 138) dX7_checksFault_136 rfl q_X7_57 ?_
              refine aw_goto (q := 142) dX7_checksFault_138 (by decide) ?_
              cases H
              exact aw_ret dX7_checksFault_142 rfl rfl rfl rfl ⟨rfl, rfl⟩
            · replace H := zf h8 H
              refine aw_iconst (q := 142) (v := 0) dX7_checksFault_141 rfl (by decide) ?_
              cases H
              exact aw_ret dX7_checksFault_142 rfl rfl rfl rfl ⟨rfl, rfl⟩
          · subst h9
            cases H
            exact ⟨rfl, rfl⟩
        · replace H := zf h4 H
          refine aw_goto (q := 57) dX7_checksFault_50 (by decide) ?_
          refine aw_ldc (q := 59) dX7_checksFault_57 rfl q_X7_53 ?_
          cases H
          exact aw_ret dX7_checksFault_59 rfl rfl rfl rfl ⟨rfl, rfl⟩
      · replace H := zf h3 H
        refine aw_iload_n (q := 54) dX7_checksFault_53 rfl rfl ?_
        refine aw_if_eq (q := 57) (t := 60) dX7_checksFault_54 rfl (by decide) (fun h9 => ?_) (fun h9 => ?_)
        · replace H := zt h9 H
          refine aw_iconst (q := 61) (v := 0) dX7_checksFault_60 rfl (by decide) ?_
          refine aw_istore (q := 63) (L' := [some (.ref 120), some (.int x1), some (.int x2), some (.int x3), some (.int 0)]) dX7_checksFault_61 rfl (by decide) rfl rfl ?_
          obtain ⟨e10, he10, H⟩ := zbd H
          refine aw_fewer (L' := [some (.ref 120), some (.int x1), some (.int x2), some (.int x3), some (.int 0)]) ⟨rfl, ⟨rfl, ⟨rfl, ⟨rfl, ⟨rfl, trivial⟩⟩⟩⟩⟩ ?_
          refine L_X7_checksFault_63 sg x1 x2 x3 zFu s 0 e10 he10 (fun e10i h9 => ?_) (fun r12 h9 => ?_)
          · subst h9
            replace H : _ = _ := H
            refine aw_aload_n (q := 126) dX7_checksFault_125 rfl rfl ?_
            refine aw_getr (q := 129) dX7_checksFault_126 rfl e_X7_7 (by decide) (o_X7 sg s) rfl ?_
            refine aw_iconst (q := 130) (v := 2) dX7_checksFault_129 rfl (by decide) ?_
            refine aw_iald' (q := 131) (v := s 1 2) dX7_checksFault_130 rfl (by decide) (o_X7a0 sg s) (zin_in (by decide)) rfl ?_
            refine aw_bipush (q := 133) (v := 10) dX7_checksFault_131 rfl (by decide) ?_
            refine aw_icmp_neP (q := 136) (t := 141) dX7_checksFault_133 rfl (by decide) (fun h13 => ?_) (fun h13 => ?_)
            · replace H := zt h13 H
              refine aw_ldc (q := 138) dX7_checksFault_136 rfl q_X7_57 ?_
              refine aw_goto (q := 142) dX7_checksFault_138 (by decide) ?_
              cases H
              exact aw_ret dX7_checksFault_142 rfl rfl rfl rfl ⟨rfl, rfl⟩
            · replace H := zf h13 H
              refine aw_iconst (q := 142) (v := 0) dX7_checksFault_141 rfl (by decide) ?_
              cases H
              exact aw_ret dX7_checksFault_142 rfl rfl rfl rfl ⟨rfl, rfl⟩
          · subst h9
            cases H
            exact ⟨rfl, rfl⟩
        · replace H := zf h9 H
          refine aw_ldc (q := 59) dX7_checksFault_57 rfl q_X7_53 ?_
          cases H
          exact aw_ret dX7_checksFault_59 rfl rfl rfl rfl ⟨rfl, rfl⟩
    · replace H := zf h2 H
      refine aw_ldc (q := 26) dX7_checksFault_24 rfl q_X7_53 ?_
      cases H
      exact aw_ret dX7_checksFault_26 rfl rfl rfl rfl ⟨rfl, rfl⟩
  · replace H := zf h1 H
    refine aw_ldc (q := 26) dX7_checksFault_24 rfl q_X7_53 ?_
    cases H
    exact aw_ret dX7_checksFault_26 rfl rfl rfl rfl ⟨rfl, rfl⟩
def f_X7_addsFault (s : zr) (x1 : Int32) (x2 : Int32) (x3 : Int32) : Option (Int32 × zr) :=
  zlt (s 1 2 : Int32) fun y1 =>
  if zin ((32 : Int32) + y1) 88 = true then
  zlt (zm s 1 (((32 : Int32) + y1).toNatClampNeg) x1) fun s4 =>
  if zin ((42 : Int32) + y1) 88 = true then
  zlt (zm s4 1 (((42 : Int32) + y1).toNatClampNeg) x2) fun s7 =>
  if zin ((52 : Int32) + y1) 88 = true then
  zlt (zm s7 1 (((52 : Int32) + y1).toNatClampNeg) x3) fun s10 =>
  if zin ((62 : Int32) + y1) 88 = true then
  zlt (zm s10 1 (((62 : Int32) + y1).toNatClampNeg) (-1)) fun s13 =>
  zlt (zm s13 1 2 ((s13 1 2) + 1)) fun s15 =>
  some (y1, s15)
  else none
  else none
  else none
  else none
set_option maxHeartbeats 4000000 in
set_option maxRecDepth 100000 in
theorem c_X7_addsFault {G : zG} {sl : Nat} (sg : zs) (s : zr) (x1 : Int32) (x2 : Int32) (x3 : Int32) {v9 : (Int32 × zr)} (H : f_X7_addsFault s x1 x2 x3 = some v9) : zMv G 0 M_X7_addsFault [.ref 120, .int x1, .int x2, .int x3] sl (zT sg s) (fun r h' => r = some (.int v9.1) ∧ h' = zT sg v9.2) := by
  unfold f_X7_addsFault at H
  refine zMv_of (L := [some (.ref 120), some (.int x1), some (.int x2), some (.int x3), none]) (by decide) rfl (Nat.le_of_ble_eq_true rfl) rfl ?_
  refine aw_aload_n (q := 1) dX7_addsFault_0 rfl rfl ?_
  refine aw_getr (q := 4) dX7_addsFault_1 rfl e_X7_7 (by decide) (o_X7 sg s) rfl ?_
  refine aw_iconst (q := 5) (v := 2) dX7_addsFault_4 rfl (by decide) ?_
  refine aw_iald' (q := 6) (v := s 1 2) dX7_addsFault_5 rfl (by decide) (o_X7a0 sg s) (zin_in (by decide)) rfl ?_
  obtain ⟨y1, q2, H⟩ := zltd H
  refine aw_nm q2 ?_
  refine aw_istore (q := 8) (L' := [some (.ref 120), some (.int x1), some (.int x2), some (.int x3), some (.int y1)]) dX7_addsFault_6 rfl (by decide) rfl rfl ?_
  refine aw_aload_n (q := 9) dX7_addsFault_8 rfl rfl ?_
  refine aw_getr (q := 12) dX7_addsFault_9 rfl e_X7_7 (by decide) (o_X7 sg s) rfl ?_
  refine aw_bipush (q := 14) (v := 32) dX7_addsFault_12 rfl (by decide) ?_
  refine aw_iload (q := 16) dX7_addsFault_14 rfl rfl ?_
  refine aw_iadd (q := 17) dX7_addsFault_16 rfl ?_
  refine aw_iload_n (q := 18) dX7_addsFault_17 rfl rfl ?_
  obtain ⟨h3, H⟩ := zio H
  obtain ⟨s4, q5, H⟩ := zltd H
  refine aw_iast (q := 19) dX7_addsFault_18 rfl (by decide) (o_X7a0 sg s) (zin_in h3) ((p_X7a0).trans (congrArg (fun z => zT sg z) q5.symm)) ?_
  refine aw_aload_n (q := 20) dX7_addsFault_19 rfl rfl ?_
  refine aw_getr (q := 23) dX7_addsFault_20 rfl e_X7_7 (by decide) (o_X7 sg s4) rfl ?_
  refine aw_bipush (q := 25) (v := 42) dX7_addsFault_23 rfl (by decide) ?_
  refine aw_iload (q := 27) dX7_addsFault_25 rfl rfl ?_
  refine aw_iadd (q := 28) dX7_addsFault_27 rfl ?_
  refine aw_iload_n (q := 29) dX7_addsFault_28 rfl rfl ?_
  obtain ⟨h6, H⟩ := zio H
  obtain ⟨s7, q8, H⟩ := zltd H
  refine aw_iast (q := 30) dX7_addsFault_29 rfl (by decide) (o_X7a0 sg s4) (zin_in h6) ((p_X7a0).trans (congrArg (fun z => zT sg z) q8.symm)) ?_
  refine aw_aload_n (q := 31) dX7_addsFault_30 rfl rfl ?_
  refine aw_getr (q := 34) dX7_addsFault_31 rfl e_X7_7 (by decide) (o_X7 sg s7) rfl ?_
  refine aw_bipush (q := 36) (v := 52) dX7_addsFault_34 rfl (by decide) ?_
  refine aw_iload (q := 38) dX7_addsFault_36 rfl rfl ?_
  refine aw_iadd (q := 39) dX7_addsFault_38 rfl ?_
  refine aw_iload_n (q := 40) dX7_addsFault_39 rfl rfl ?_
  obtain ⟨h9, H⟩ := zio H
  obtain ⟨s10, q11, H⟩ := zltd H
  refine aw_iast (q := 41) dX7_addsFault_40 rfl (by decide) (o_X7a0 sg s7) (zin_in h9) ((p_X7a0).trans (congrArg (fun z => zT sg z) q11.symm)) ?_
  refine aw_aload_n (q := 42) dX7_addsFault_41 rfl rfl ?_
  refine aw_getr (q := 45) dX7_addsFault_42 rfl e_X7_7 (by decide) (o_X7 sg s10) rfl ?_
  refine aw_bipush (q := 47) (v := 62) dX7_addsFault_45 rfl (by decide) ?_
  refine aw_iload (q := 49) dX7_addsFault_47 rfl rfl ?_
  refine aw_iadd (q := 50) dX7_addsFault_49 rfl ?_
  refine aw_iconst (q := 51) (v := (-1)) dX7_addsFault_50 rfl (by decide) ?_
  obtain ⟨h12, H⟩ := zio H
  obtain ⟨s13, q14, H⟩ := zltd H
  refine aw_iast (q := 52) dX7_addsFault_51 rfl (by decide) (o_X7a0 sg s10) (zin_in h12) ((p_X7a0).trans (congrArg (fun z => zT sg z) q14.symm)) ?_
  refine aw_aload_n (q := 53) dX7_addsFault_52 rfl rfl ?_
  refine aw_getr (q := 56) dX7_addsFault_53 rfl e_X7_7 (by decide) (o_X7 sg s13) rfl ?_
  refine aw_iconst (q := 57) (v := 2) dX7_addsFault_56 rfl (by decide) ?_
  refine aw_dup2 (q := 58) dX7_addsFault_57 rfl rfl rfl ?_
  refine aw_iald' (q := 59) (v := s13 1 2) dX7_addsFault_58 rfl (by decide) (o_X7a0 sg s13) (zin_in (by decide)) rfl ?_
  refine aw_iconst (q := 60) (v := 1) dX7_addsFault_59 rfl (by decide) ?_
  refine aw_iadd (q := 61) dX7_addsFault_60 rfl ?_
  obtain ⟨s15, q16, H⟩ := zltd H
  refine aw_iast (q := 62) dX7_addsFault_61 rfl (by decide) (o_X7a0 sg s13) (zin_in (by decide)) ((p_X7a0).trans (congrArg (fun z => zT sg z) q16.symm)) ?_
  refine aw_iload (q := 64) dX7_addsFault_62 rfl rfl ?_
  cases H
  exact aw_ret dX7_addsFault_64 rfl rfl rfl rfl ⟨rfl, rfl⟩
