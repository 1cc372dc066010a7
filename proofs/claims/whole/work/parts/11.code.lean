def f_X6_hasBit (x0 : Int32) (x1 : Int32) : Bool :=
  if ((x0 >>> (x1 &&& 31)) &&& 1) = 1 then (
    true
  ) else (
    false
  )
set_option maxHeartbeats 4000000 in
set_option maxRecDepth 100000 in
theorem c_X6_hasBit {G : zG} {sl : Nat} (h : zH) (x0 : Int32) (x1 : Int32)  : zMv G 0 M_X6_hasBit [.int x0, .int x1] sl h (fun r h' => r = some (.int (zb (f_X6_hasBit x0 x1))) ∧ h' = h) := by
  generalize H : f_X6_hasBit x0 x1 = r0
  unfold f_X6_hasBit at H
  refine zMv_of (L := [some (.int x0), some (.int x1)]) (by decide) rfl (Nat.le_of_ble_eq_true rfl) rfl ?_
  refine aw_iload_n (q := 1) dX6_hasBit_0 rfl rfl ?_
  refine aw_iload_n (q := 2) dX6_hasBit_1 rfl rfl ?_
  refine aw_ishr (q := 3) dX6_hasBit_2 rfl ?_
  refine aw_iconst (q := 4) (v := 1) dX6_hasBit_3 rfl (by decide) ?_
  refine aw_iand (q := 5) dX6_hasBit_4 rfl ?_
  refine aw_iconst (q := 6) (v := 1) dX6_hasBit_5 rfl (by decide) ?_
  refine aw_icmp_neP (q := 9) (t := 13) dX6_hasBit_6 rfl (by decide) (fun h1 => ?_) (fun h1 => ?_)
  · replace H := zt h1 H
    refine aw_iconst (q := 10) (v := 1) dX6_hasBit_9 rfl (by decide) ?_
    refine aw_goto (q := 14) dX6_hasBit_10 (by decide) ?_
    subst H
    exact aw_ret dX6_hasBit_14 rfl rfl rfl rfl ⟨rfl, rfl⟩
  · replace H := zf h1 H
    refine aw_iconst (q := 14) (v := 0) dX6_hasBit_13 rfl (by decide) ?_
    subst H
    exact aw_ret dX6_hasBit_14 rfl rfl rfl rfl ⟨rfl, rfl⟩
def f_X0_blessedOn_4 : Nat → zs → Nat → Int32 → Int32 → Int32 → Option (Int32)
  | 0, _, _, _, _, _ => none
  | k + 1, s, b, x1, x2, x3 =>
    if (16 : Int32) ≤ x3 then (
      some x2
    ) else (
      if zin x3 16 = true then
      if f_X6_hasBit (s.1 (b + 9) x3.toNatClampNeg) x1 = true then (
        zlt (x2 ||| (1 <<< (x3 &&& 31)) : Int32) fun y4 =>
        f_X0_blessedOn_4 k s b x1 y4 (x3 + 1)
      ) else (
        f_X0_blessedOn_4 k s b x1 x2 (x3 + 1)
      )
      else none
    )
set_option maxHeartbeats 4000000 in
set_option maxRecDepth 100000 in
theorem L_X0_blessedOn_4 {G : zG} {sl : Nat} {P : Option Value → zH → Prop} (R : zr) {b : Nat} (hb : zB b) (x1 : Int32) : ∀ (k : Nat) (s : zs) (x2 : Int32) (x3 : Int32) (e : Int32), f_X0_blessedOn_4 k s b x1 x2 x3 = some e → (AV G M_X0_blessedOn 1 sl P 35 [none, none, some (.int e), none] [] (zT s R)) → AV G M_X0_blessedOn 1 sl P 4 [some (.ref b), some (.int x1), some (.int x2), some (.int x3)] [] (zT s R) := by
  intro k
  induction k with
  | zero =>
    intro s x2 x3 e H
    unfold f_X0_blessedOn_4 at H
    cases H
  | succ k ih =>
    intro s x2 x3 e H KE
    unfold f_X0_blessedOn_4 at H
    refine aw_iload_n (q := 5) dX0_blessedOn_4 rfl rfl ?_
    refine aw_bipush (q := 7) (v := 16) dX0_blessedOn_5 rfl (by decide) ?_
    refine aw_icmp_ge (q := 10) (t := 35) dX0_blessedOn_7 rfl (by decide) (fun h1 => ?_) (fun h1 => ?_)
    · replace H := zt h1 H
      cases H
      exact aw_fewer (L' := [none, none, some (.int x2), none]) ⟨rfl, trivial⟩ KE
    · replace H := zf h1 H
      refine aw_aload_n (q := 11) dX0_blessedOn_10 rfl rfl ?_
      refine aw_getr (q := 14) dX0_blessedOn_11 rfl e_X0_36 (zB_lt0 hb) (o_X0 hb s R) rfl ?_
      refine aw_iload_n (q := 15) dX0_blessedOn_14 rfl rfl ?_
      obtain ⟨h2, H⟩ := zio H
      refine aw_iald' (q := 16) (v := s.1 (b + 9) x3.toNatClampNeg) dX0_blessedOn_15 rfl (zB_lt (k := 9) hb (by decide)) (o_X0a8 hb s R) (zin_in h2) rfl ?_
      refine aw_iload_n (q := 17) dX0_blessedOn_16 rfl rfl ?_
      refine aw_csN (M' := M_X6_hasBit) (as := [.int (s.1 (b + 9) x3.toNatClampNeg), .int x1]) (q := 20) dX0_blessedOn_17 rfl W_X6_hasBit (show (RX0, 77, yX6_hasBit) ∈ zNl by decide) s_X6_hasBit rfl rfl (by decide) (Nat.le_of_ble_eq_true rfl) (c_X6_hasBit (zT s R) (s.1 (b + 9) x3.toNatClampNeg) x1) (Nat.le_refl _) (Nat.le_refl _) ?_
      rintro r9 h9 ⟨rfl, rfl⟩
      refine aw_ifeqB (q := 23) (t := 29) dX0_blessedOn_20 rfl (by decide) (fun h3 => ?_) (fun h3 => ?_)
      · replace H := zt h3 H
        refine aw_iload_n (q := 24) dX0_blessedOn_23 rfl rfl ?_
        refine aw_iconst (q := 25) (v := 1) dX0_blessedOn_24 rfl (by decide) ?_
        refine aw_iload_n (q := 26) dX0_blessedOn_25 rfl rfl ?_
        refine aw_ishl (q := 27) dX0_blessedOn_26 rfl ?_
        refine aw_ior (q := 28) dX0_blessedOn_27 rfl ?_
        obtain ⟨y4, q5, H⟩ := zltd H
        refine aw_nm q5 ?_
        refine aw_istore_n (q := 29) (L' := [some (.ref b), some (.int x1), some (.int y4), some (.int x3)]) dX0_blessedOn_28 rfl (by decide) rfl rfl ?_
        refine aw_iinc (q := 32) (v := x3 + 1) (L' := [some (.ref b), some (.int x1), some (.int y4), some (.int (x3 + 1))]) dX0_blessedOn_29 rfl rfl (by first | rfl | decide) (by decide) rfl rfl ?_
        refine aw_goto (q := 4) dX0_blessedOn_32 (by decide) ?_
        exact aw_fewer (L' := [some (.ref b), some (.int x1), some (.int y4), some (.int (x3 + 1))]) ⟨rfl, ⟨rfl, ⟨rfl, ⟨rfl, trivial⟩⟩⟩⟩ (ih s y4 (x3 + 1) _ H KE)
      · replace H := zf h3 H
        refine aw_iinc (q := 32) (v := x3 + 1) (L' := [some (.ref b), some (.int x1), some (.int x2), some (.int (x3 + 1))]) dX0_blessedOn_29 rfl rfl (by first | rfl | decide) (by decide) rfl rfl ?_
        refine aw_goto (q := 4) dX0_blessedOn_32 (by decide) ?_
        exact aw_fewer (L' := [some (.ref b), some (.int x1), some (.int x2), some (.int (x3 + 1))]) ⟨rfl, ⟨rfl, ⟨rfl, ⟨rfl, trivial⟩⟩⟩⟩ (ih s x2 (x3 + 1) _ H KE)
def f_X0_blessedOn (s : zs) (b : Nat) (x1 : Int32) : Option Int32 :=
  Option.bind (f_X0_blessedOn_4 zFu s b x1 0 0) fun e1 =>
  some e1
set_option maxHeartbeats 4000000 in
set_option maxRecDepth 100000 in
theorem c_X0_blessedOn {G : zG} {sl : Nat} (s : zs) (R : zr) {b : Nat} (hb : zB b) (x1 : Int32) {v9 : Int32} (H : f_X0_blessedOn s b x1 = some v9) : zMv G 1 M_X0_blessedOn [.ref b, .int x1] sl (zT s R) (fun r h' => r = some (.int v9) ∧ h' = (zT s R)) := by
  unfold f_X0_blessedOn at H
  refine zMv_of (L := [some (.ref b), some (.int x1), none, none]) (by decide) rfl (Nat.le_of_ble_eq_true rfl) rfl ?_
  refine aw_iconst (q := 1) (v := 0) dX0_blessedOn_0 rfl (by decide) ?_
  refine aw_istore_n (q := 2) (L' := [some (.ref b), some (.int x1), some (.int 0), none]) dX0_blessedOn_1 rfl (by decide) rfl rfl ?_
  refine aw_iconst (q := 3) (v := 0) dX0_blessedOn_2 rfl (by decide) ?_
  refine aw_istore_n (q := 4) (L' := [some (.ref b), some (.int x1), some (.int 0), some (.int 0)]) dX0_blessedOn_3 rfl (by decide) rfl rfl ?_
  obtain ⟨e1, he1, H⟩ := zbd H
  refine aw_fewer (L' := [some (.ref b), some (.int x1), some (.int 0), some (.int 0)]) ⟨rfl, ⟨rfl, ⟨rfl, ⟨rfl, trivial⟩⟩⟩⟩ ?_
  refine L_X0_blessedOn_4 R hb x1 zFu s 0 0 e1 he1 ?_
  refine aw_iload_n (q := 36) dX0_blessedOn_35 rfl rfl ?_
  cases H
  exact aw_ret dX0_blessedOn_36 rfl rfl rfl rfl ⟨rfl, rfl⟩
def f_X0_isFault (s : zs) (b : Nat) (x1 : Int32) : Bool :=
  if x1 < 0 then (
    false
  ) else (
    if (s.1 b 11) ≤ x1 then (
      false
    ) else (
      true
    )
  )
set_option maxHeartbeats 4000000 in
set_option maxRecDepth 100000 in
theorem c_X0_isFault {G : zG} {sl : Nat} (s : zs) (R : zr) {b : Nat} (hb : zB b) (x1 : Int32)  : zMv G 0 M_X0_isFault [.ref b, .int x1] sl (zT s R) (fun r h' => r = some (.int (zb (f_X0_isFault s b x1))) ∧ h' = (zT s R)) := by
  generalize H : f_X0_isFault s b x1 = r0
  unfold f_X0_isFault at H
  refine zMv_of (L := [some (.ref b), some (.int x1)]) (by decide) rfl (Nat.le_of_ble_eq_true rfl) rfl ?_
  refine aw_iload_n (q := 1) dX0_isFault_0 rfl rfl ?_
  refine aw_if_lt (q := 4) (t := 16) dX0_isFault_1 rfl (by decide) (fun h1 => ?_) (fun h1 => ?_)
  · replace H := zt h1 H
    refine aw_iconst (q := 17) (v := 0) dX0_isFault_16 rfl (by decide) ?_
    subst H
    exact aw_ret dX0_isFault_17 rfl rfl rfl rfl ⟨rfl, rfl⟩
  · replace H := zf h1 H
    refine aw_iload_n (q := 5) dX0_isFault_4 rfl rfl ?_
    refine aw_aload_n (q := 6) dX0_isFault_5 rfl rfl ?_
    refine aw_getr (q := 9) dX0_isFault_6 rfl e_X0_58 (zB_lt0 hb) (o_X0 hb s R) rfl ?_
    refine aw_icmp_ge (q := 12) (t := 16) dX0_isFault_9 rfl (by decide) (fun h2 => ?_) (fun h2 => ?_)
    · replace H := zt h2 H
      refine aw_iconst (q := 17) (v := 0) dX0_isFault_16 rfl (by decide) ?_
      subst H
      exact aw_ret dX0_isFault_17 rfl rfl rfl rfl ⟨rfl, rfl⟩
    · replace H := zf h2 H
      refine aw_iconst (q := 13) (v := 1) dX0_isFault_12 rfl (by decide) ?_
      refine aw_goto (q := 17) dX0_isFault_13 (by decide) ?_
      subst H
      exact aw_ret dX0_isFault_17 rfl rfl rfl rfl ⟨rfl, rfl⟩
def f_X6_isPin (x0 : Int32) : Bool :=
  if x0 < 0 then (
    false
  ) else (
    if (16 : Int32) ≤ x0 then (
      false
    ) else (
      true
    )
  )
set_option maxHeartbeats 4000000 in
set_option maxRecDepth 100000 in
theorem c_X6_isPin {G : zG} {sl : Nat} (h : zH) (x0 : Int32)  : zMv G 0 M_X6_isPin [.int x0] sl h (fun r h' => r = some (.int (zb (f_X6_isPin x0))) ∧ h' = h) := by
  generalize H : f_X6_isPin x0 = r0
  unfold f_X6_isPin at H
  refine zMv_of (L := [some (.int x0)]) (by decide) rfl (Nat.le_of_ble_eq_true rfl) rfl ?_
  refine aw_iload_n (q := 1) dX6_isPin_0 rfl rfl ?_
  refine aw_if_lt (q := 4) (t := 14) dX6_isPin_1 rfl (by decide) (fun h1 => ?_) (fun h1 => ?_)
  · replace H := zt h1 H
    refine aw_iconst (q := 15) (v := 0) dX6_isPin_14 rfl (by decide) ?_
    subst H
    exact aw_ret dX6_isPin_15 rfl rfl rfl rfl ⟨rfl, rfl⟩
  · replace H := zf h1 H
    refine aw_iload_n (q := 5) dX6_isPin_4 rfl rfl ?_
    refine aw_bipush (q := 7) (v := 16) dX6_isPin_5 rfl (by decide) ?_
    refine aw_icmp_ge (q := 10) (t := 14) dX6_isPin_7 rfl (by decide) (fun h2 => ?_) (fun h2 => ?_)
    · replace H := zt h2 H
      refine aw_iconst (q := 15) (v := 0) dX6_isPin_14 rfl (by decide) ?_
      subst H
      exact aw_ret dX6_isPin_15 rfl rfl rfl rfl ⟨rfl, rfl⟩
    · replace H := zf h2 H
      refine aw_iconst (q := 11) (v := 1) dX6_isPin_10 rfl (by decide) ?_
      refine aw_goto (q := 15) dX6_isPin_11 (by decide) ?_
      subst H
      exact aw_ret dX6_isPin_15 rfl rfl rfl rfl ⟨rfl, rfl⟩
def f_J6_bitCount_0f7a4 (x0 : Int32) : Int32 :=
  zlt (x0 - (((x0.toUInt32 >>> ((1 : Int32).toUInt32 &&& Int32.toUInt32 31)).toInt32) &&& 1431655765) : Int32) fun y1 =>
  zlt ((y1 &&& 858993459) + (((y1.toUInt32 >>> ((2 : Int32).toUInt32 &&& Int32.toUInt32 31)).toInt32) &&& 858993459) : Int32) fun y3 =>
  zlt ((y3 + ((y3.toUInt32 >>> ((4 : Int32).toUInt32 &&& Int32.toUInt32 31)).toInt32)) &&& 252645135 : Int32) fun y5 =>
  zlt (y5 + ((y5.toUInt32 >>> ((8 : Int32).toUInt32 &&& Int32.toUInt32 31)).toInt32) : Int32) fun y7 =>
  zlt (y7 + ((y7.toUInt32 >>> ((16 : Int32).toUInt32 &&& Int32.toUInt32 31)).toInt32) : Int32) fun y9 =>
  y9 &&& 63
set_option maxHeartbeats 4000000 in
set_option maxRecDepth 100000 in
theorem c_J6_bitCount_0f7a4 {G : zG} {sl : Nat} (h : zH) (x0 : Int32)  : zMv G 0 M_J6_bitCount_0f7a4 [.int x0] sl h (fun r h' => r = some (.int (f_J6_bitCount_0f7a4 x0)) ∧ h' = h) := by
  generalize H : f_J6_bitCount_0f7a4 x0 = r0
  unfold f_J6_bitCount_0f7a4 at H
  refine zMv_of (L := [some (.int x0)]) (by decide) rfl (Nat.le_of_ble_eq_true rfl) rfl ?_
  refine aw_iload_n (q := 1) dJ6_bitCount_0f7a4_0 rfl rfl ?_
  refine aw_iload_n (q := 2) dJ6_bitCount_0f7a4_1 rfl rfl ?_
  refine aw_iconst (q := 3) (v := 1) dJ6_bitCount_0f7a4_2 rfl (by decide) ?_
  refine aw_iushr (q := 4) dJ6_bitCount_0f7a4_3 rfl ?_
  refine aw_ldcw (q := 7) dJ6_bitCount_0f7a4_4 rfl q_J6_265 ?_
  refine aw_iand (q := 8) dJ6_bitCount_0f7a4_7 rfl ?_
  refine aw_isub (q := 9) dJ6_bitCount_0f7a4_8 rfl ?_
  obtain ⟨y1, q2, H⟩ := zltd H
  refine aw_nm q2 ?_
  refine aw_istore_n (q := 10) (L' := [some (.int y1)]) dJ6_bitCount_0f7a4_9 rfl (by decide) rfl rfl ?_
  refine aw_iload_n (q := 11) dJ6_bitCount_0f7a4_10 rfl rfl ?_
  refine aw_ldcw (q := 14) dJ6_bitCount_0f7a4_11 rfl q_J6_266 ?_
  refine aw_iand (q := 15) dJ6_bitCount_0f7a4_14 rfl ?_
  refine aw_iload_n (q := 16) dJ6_bitCount_0f7a4_15 rfl rfl ?_
  refine aw_iconst (q := 17) (v := 2) dJ6_bitCount_0f7a4_16 rfl (by decide) ?_
  refine aw_iushr (q := 18) dJ6_bitCount_0f7a4_17 rfl ?_
  refine aw_ldcw (q := 21) dJ6_bitCount_0f7a4_18 rfl q_J6_266 ?_
  refine aw_iand (q := 22) dJ6_bitCount_0f7a4_21 rfl ?_
  refine aw_iadd (q := 23) dJ6_bitCount_0f7a4_22 rfl ?_
  obtain ⟨y3, q4, H⟩ := zltd H
  refine aw_nm q4 ?_
  refine aw_istore_n (q := 24) (L' := [some (.int y3)]) dJ6_bitCount_0f7a4_23 rfl (by decide) rfl rfl ?_
  refine aw_iload_n (q := 25) dJ6_bitCount_0f7a4_24 rfl rfl ?_
  refine aw_iload_n (q := 26) dJ6_bitCount_0f7a4_25 rfl rfl ?_
  refine aw_iconst (q := 27) (v := 4) dJ6_bitCount_0f7a4_26 rfl (by decide) ?_
  refine aw_iushr (q := 28) dJ6_bitCount_0f7a4_27 rfl ?_
  refine aw_iadd (q := 29) dJ6_bitCount_0f7a4_28 rfl ?_
  refine aw_ldcw (q := 32) dJ6_bitCount_0f7a4_29 rfl q_J6_267 ?_
  refine aw_iand (q := 33) dJ6_bitCount_0f7a4_32 rfl ?_
  obtain ⟨y5, q6, H⟩ := zltd H
  refine aw_nm q6 ?_
  refine aw_istore_n (q := 34) (L' := [some (.int y5)]) dJ6_bitCount_0f7a4_33 rfl (by decide) rfl rfl ?_
  refine aw_iload_n (q := 35) dJ6_bitCount_0f7a4_34 rfl rfl ?_
  refine aw_iload_n (q := 36) dJ6_bitCount_0f7a4_35 rfl rfl ?_
  refine aw_bipush (q := 38) (v := 8) dJ6_bitCount_0f7a4_36 rfl (by decide) ?_
  refine aw_iushr (q := 39) dJ6_bitCount_0f7a4_38 rfl ?_
  refine aw_iadd (q := 40) dJ6_bitCount_0f7a4_39 rfl ?_
  obtain ⟨y7, q8, H⟩ := zltd H
  refine aw_nm q8 ?_
  refine aw_istore_n (q := 41) (L' := [some (.int y7)]) dJ6_bitCount_0f7a4_40 rfl (by decide) rfl rfl ?_
  refine aw_iload_n (q := 42) dJ6_bitCount_0f7a4_41 rfl rfl ?_
  refine aw_iload_n (q := 43) dJ6_bitCount_0f7a4_42 rfl rfl ?_
  refine aw_bipush (q := 45) (v := 16) dJ6_bitCount_0f7a4_43 rfl (by decide) ?_
  refine aw_iushr (q := 46) dJ6_bitCount_0f7a4_45 rfl ?_
  refine aw_iadd (q := 47) dJ6_bitCount_0f7a4_46 rfl ?_
  obtain ⟨y9, q10, H⟩ := zltd H
  refine aw_nm q10 ?_
  refine aw_istore_n (q := 48) (L' := [some (.int y9)]) dJ6_bitCount_0f7a4_47 rfl (by decide) rfl rfl ?_
  refine aw_iload_n (q := 49) dJ6_bitCount_0f7a4_48 rfl rfl ?_
  refine aw_bipush (q := 51) (v := 63) dJ6_bitCount_0f7a4_49 rfl (by decide) ?_
  refine aw_iand (q := 52) dJ6_bitCount_0f7a4_51 rfl ?_
  subst H
  exact aw_ret dJ6_bitCount_0f7a4_52 rfl rfl rfl rfl ⟨rfl, rfl⟩
def f_X0_refusalOfNet (s : zs) (b : Nat) (x1 : Int32) : Int32 :=
  zlt (f_J6_bitCount_0f7a4 x1 : Int32) fun y1 =>
  if (x1 &&& (-65536)) = 0 then (
    if y1 < 2 then (
      (-1000001)
    ) else (
      if y1 ≤ 5 then (
        if (x1 &&& (s.1 b 12)) = 0 then (
          if (s.1 b 9) < 8 then (
            0
          ) else (
            (-1000003)
          )
        ) else (
          (-1000002)
        )
      ) else (
        (-1000001)
      )
    )
  ) else (
    (-1000001)
  )
set_option maxHeartbeats 4000000 in
set_option maxRecDepth 100000 in
theorem c_X0_refusalOfNet {G : zG} {sl : Nat} (s : zs) (R : zr) {b : Nat} (hb : zB b) (x1 : Int32)  : zMv G 1 M_X0_refusalOfNet [.ref b, .int x1] sl (zT s R) (fun r h' => r = some (.int (f_X0_refusalOfNet s b x1)) ∧ h' = (zT s R)) := by
  generalize H : f_X0_refusalOfNet s b x1 = r0
  unfold f_X0_refusalOfNet at H
  refine zMv_of (L := [some (.ref b), some (.int x1), none]) (by decide) rfl (Nat.le_of_ble_eq_true rfl) rfl ?_
  refine aw_iload_n (q := 1) dX0_refusalOfNet_0 rfl rfl ?_
  refine aw_cs (M' := M_J6_bitCount_0f7a4) (as := [.int x1]) (q := 4) dX0_refusalOfNet_1 rfl W_J6_bitCount_0f7a4 k_X0_67 s_J6_bitCount_0f7a4 rfl rfl (by decide) (Nat.le_of_ble_eq_true rfl) (c_J6_bitCount_0f7a4 (zT s R) x1) (Nat.le_refl _) (Nat.le_refl _) ?_
  rintro r9 h9 ⟨rfl, rfl⟩
  obtain ⟨y1, q2, H⟩ := zltd H
  refine aw_nm q2 ?_
  refine aw_istore_n (q := 5) (L' := [some (.ref b), some (.int x1), some (.int y1)]) dX0_refusalOfNet_4 rfl (by decide) rfl rfl ?_
  refine aw_iload_n (q := 6) dX0_refusalOfNet_5 rfl rfl ?_
  refine aw_ldc (q := 8) dX0_refusalOfNet_6 rfl q_X0_73 ?_
  refine aw_iand (q := 9) dX0_refusalOfNet_8 rfl ?_
  refine aw_if_neP (q := 12) (t := 22) dX0_refusalOfNet_9 rfl (by decide) (fun h3 => ?_) (fun h3 => ?_)
  · replace H := zt h3 H
    refine aw_iload_n (q := 13) dX0_refusalOfNet_12 rfl rfl ?_
    refine aw_iconst (q := 14) (v := 2) dX0_refusalOfNet_13 rfl (by decide) ?_
    refine aw_icmp_lt (q := 17) (t := 22) dX0_refusalOfNet_14 rfl (by decide) (fun h4 => ?_) (fun h4 => ?_)
    · replace H := zt h4 H
      refine aw_ldc (q := 24) dX0_refusalOfNet_22 rfl q_X0_74 ?_
      subst H
      exact aw_ret dX0_refusalOfNet_24 rfl rfl rfl rfl ⟨rfl, rfl⟩
    · replace H := zf h4 H
      refine aw_iload_n (q := 18) dX0_refusalOfNet_17 rfl rfl ?_
      refine aw_iconst (q := 19) (v := 5) dX0_refusalOfNet_18 rfl (by decide) ?_
      refine aw_icmp_le (q := 22) (t := 25) dX0_refusalOfNet_19 rfl (by decide) (fun h5 => ?_) (fun h5 => ?_)
      · replace H := zt h5 H
        refine aw_iload_n (q := 26) dX0_refusalOfNet_25 rfl rfl ?_
        refine aw_aload_n (q := 27) dX0_refusalOfNet_26 rfl rfl ?_
        refine aw_getr (q := 30) dX0_refusalOfNet_27 rfl e_X0_61 (zB_lt0 hb) (o_X0 hb s R) rfl ?_
        refine aw_iand (q := 31) dX0_refusalOfNet_30 rfl ?_
        refine aw_if_eq (q := 34) (t := 37) dX0_refusalOfNet_31 rfl (by decide) (fun h6 => ?_) (fun h6 => ?_)
        · replace H := zt h6 H
          refine aw_aload_n (q := 38) dX0_refusalOfNet_37 rfl rfl ?_
          refine aw_getr (q := 41) dX0_refusalOfNet_38 rfl e_X0_51 (zB_lt0 hb) (o_X0 hb s R) rfl ?_
          refine aw_bipush (q := 43) (v := 8) dX0_refusalOfNet_41 rfl (by decide) ?_
          refine aw_icmp_lt (q := 46) (t := 51) dX0_refusalOfNet_43 rfl (by decide) (fun h7 => ?_) (fun h7 => ?_)
          · replace H := zt h7 H
            refine aw_iconst (q := 52) (v := 0) dX0_refusalOfNet_51 rfl (by decide) ?_
            subst H
            exact aw_ret dX0_refusalOfNet_52 rfl rfl rfl rfl ⟨rfl, rfl⟩
          · replace H := zf h7 H
            refine aw_ldc (q := 48) dX0_refusalOfNet_46 rfl q_X0_76 ?_
            refine aw_goto (q := 52) dX0_refusalOfNet_48 (by decide) ?_
            subst H
            exact aw_ret dX0_refusalOfNet_52 rfl rfl rfl rfl ⟨rfl, rfl⟩
        · replace H := zf h6 H
          refine aw_ldc (q := 36) dX0_refusalOfNet_34 rfl q_X0_75 ?_
          subst H
          exact aw_ret dX0_refusalOfNet_36 rfl rfl rfl rfl ⟨rfl, rfl⟩
      · replace H := zf h5 H
        refine aw_ldc (q := 24) dX0_refusalOfNet_22 rfl q_X0_74 ?_
        subst H
        exact aw_ret dX0_refusalOfNet_24 rfl rfl rfl rfl ⟨rfl, rfl⟩
  · replace H := zf h3 H
    refine aw_ldc (q := 24) dX0_refusalOfNet_22 rfl q_X0_74 ?_
    subst H
    exact aw_ret dX0_refusalOfNet_24 rfl rfl rfl rfl ⟨rfl, rfl⟩
