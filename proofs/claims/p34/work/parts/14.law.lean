def f_L_up (x0 : Int32) (x1 : Int32) : Option Int32 :=
  if ¬ x1 = 0 then
  some ((x0 &&& 2147483647) - (x0 &&& 2147483647) / x1 * x1)
  else none
set_option maxHeartbeats 4000000 in
set_option maxRecDepth 100000 in
theorem c_L_up {G : zG} {sl : Nat} (h : zH) (x0 : Int32) (x1 : Int32) {v9 : Int32} (H : f_L_up x0 x1 = some v9) : zMv G 0 M_L_up [.int x0, .int x1] sl h (fun r h' => r = some (.int v9) ∧ h' = h) := by
  unfold f_L_up at H
  refine zMv_of (L := [some (.int x0), some (.int x1)]) (by decide) rfl (Nat.le_of_ble_eq_true rfl) rfl ?_
  refine aw_iload_n (q := 1) dL_up_0 rfl rfl ?_
  refine aw_ldc (q := 3) dL_up_1 rfl q_L_8 ?_
  refine aw_iand (q := 4) dL_up_3 rfl ?_
  refine aw_iload_n (q := 5) dL_up_4 rfl rfl ?_
  obtain ⟨h1, H⟩ := zio H
  refine aw_irem (q := 6) dL_up_5 rfl h1 ?_
  cases H
  exact aw_ret dL_up_6 rfl rfl rfl rfl ⟨rfl, rfl⟩
def f_L_ones_4 : Nat → Int32 → Int32 → Int32 → Option (Int32)
  | 0, _, _, _ => none
  | k + 1, x0, x1, x2 =>
    if (11 : Int32) ≤ x2 then (
      some x1
    ) else (
      zlt (x1 + ((x0 >>> (x2 &&& 31)) &&& 1) : Int32) fun y2 =>
      f_L_ones_4 k x0 y2 (x2 + 1)
    )
set_option maxHeartbeats 4000000 in
set_option maxRecDepth 100000 in
theorem L_L_ones_4 {G : zG} {sl : Nat} {P : Option Value → zH → Prop} (h : zH) (x0 : Int32) : ∀ (k : Nat)  (x1 : Int32) (x2 : Int32) (e : Int32), f_L_ones_4 k x0 x1 x2 = some e → (AV G M_L_ones 0 sl P 24 [none, some (.int e), none] [] h) → AV G M_L_ones 0 sl P 4 [some (.int x0), some (.int x1), some (.int x2)] [] h := by
  intro k
  induction k with
  | zero =>
    intro  x1 x2 e H
    unfold f_L_ones_4 at H
    cases H
  | succ k ih =>
    intro  x1 x2 e H KE
    unfold f_L_ones_4 at H
    refine aw_iload_n (q := 5) dL_ones_4 rfl rfl ?_
    refine aw_bipush (q := 7) (v := 11) dL_ones_5 rfl (by decide) ?_
    refine aw_icmp_ge (q := 10) (t := 24) dL_ones_7 rfl (by decide) (fun h1 => ?_) (fun h1 => ?_)
    · replace H := zt h1 H
      cases H
      exact aw_fewer (L' := [none, some (.int x1), none]) ⟨rfl, trivial⟩ KE
    · replace H := zf h1 H
      refine aw_iload_n (q := 11) dL_ones_10 rfl rfl ?_
      refine aw_iload_n (q := 12) dL_ones_11 rfl rfl ?_
      refine aw_iload_n (q := 13) dL_ones_12 rfl rfl ?_
      refine aw_ishr (q := 14) dL_ones_13 rfl ?_
      refine aw_iconst (q := 15) (v := 1) dL_ones_14 rfl (by decide) ?_
      refine aw_iand (q := 16) dL_ones_15 rfl ?_
      refine aw_iadd (q := 17) dL_ones_16 rfl ?_
      obtain ⟨y2, q3, H⟩ := zltd H
      refine aw_nm q3 ?_
      refine aw_istore_n (q := 18) (L' := [some (.int x0), some (.int y2), some (.int x2)]) dL_ones_17 rfl (by decide) rfl rfl ?_
      refine aw_iinc (q := 21) (v := x2 + 1) (L' := [some (.int x0), some (.int y2), some (.int (x2 + 1))]) dL_ones_18 rfl rfl (by first | rfl | decide) (by decide) rfl rfl ?_
      refine aw_goto (q := 4) dL_ones_21 (by decide) ?_
      exact aw_fewer (L' := [some (.int x0), some (.int y2), some (.int (x2 + 1))]) ⟨rfl, ⟨rfl, ⟨rfl, trivial⟩⟩⟩ (ih  y2 (x2 + 1) _ H KE)
def f_L_ones (x0 : Int32) : Option Int32 :=
  Option.bind (f_L_ones_4 zFu x0 0 0) fun e1 =>
  some e1
set_option maxHeartbeats 4000000 in
set_option maxRecDepth 100000 in
theorem c_L_ones {G : zG} {sl : Nat} (h : zH) (x0 : Int32) {v9 : Int32} (H : f_L_ones x0 = some v9) : zMv G 0 M_L_ones [.int x0] sl h (fun r h' => r = some (.int v9) ∧ h' = h) := by
  unfold f_L_ones at H
  refine zMv_of (L := [some (.int x0), none, none]) (by decide) rfl (Nat.le_of_ble_eq_true rfl) rfl ?_
  refine aw_iconst (q := 1) (v := 0) dL_ones_0 rfl (by decide) ?_
  refine aw_istore_n (q := 2) (L' := [some (.int x0), some (.int 0), none]) dL_ones_1 rfl (by decide) rfl rfl ?_
  refine aw_iconst (q := 3) (v := 0) dL_ones_2 rfl (by decide) ?_
  refine aw_istore_n (q := 4) (L' := [some (.int x0), some (.int 0), some (.int 0)]) dL_ones_3 rfl (by decide) rfl rfl ?_
  obtain ⟨e1, he1, H⟩ := zbd H
  refine aw_fewer (L' := [some (.int x0), some (.int 0), some (.int 0)]) ⟨rfl, ⟨rfl, ⟨rfl, trivial⟩⟩⟩ ?_
  refine L_L_ones_4 h x0 zFu  0 0 e1 he1 ?_
  refine aw_iload_n (q := 25) dL_ones_24 rfl rfl ?_
  cases H
  exact aw_ret dL_ones_25 rfl rfl rfl rfl ⟨rfl, rfl⟩
def f_L_view_60 : Nat → zs → Int32 → Int64 → Int32 → Option (Int64)
  | 0, _, _, _, _ => none
  | k + 1, s, x3, x1, x4 =>
    if (5 : Int32) ≤ x4 then (
      some x1
    ) else (
      Option.bind (f_X6_pinOf s x3 x4) fun v2 =>
      f_L_view_60 k s x3 ((31 * x1) + v2.toInt64) (x4 + 1)
    )
set_option maxHeartbeats 4000000 in
set_option maxRecDepth 100000 in
theorem L_L_view_60 {G : zG} {sl : Nat} {P : Option Value → zH → Prop} (R : zr) (x3 : Int32) : ∀ (k : Nat) (s : zs) (x1 : Int64) (x4 : Int32) (e : Int64), f_L_view_60 k s x3 x1 x4 = some e → (AV G M_L_view 7 sl P 87 [some (.ref 0), some (.long e), none, some (.int x3), none] [] (zT s R)) → AV G M_L_view 7 sl P 60 [some (.ref 0), some (.long x1), none, some (.int x3), some (.int x4)] [] (zT s R) := by
  intro k
  induction k with
  | zero =>
    intro s x1 x4 e H
    unfold f_L_view_60 at H
    cases H
  | succ k ih =>
    intro s x1 x4 e H KE
    unfold f_L_view_60 at H
    refine aw_iload (q := 62) dL_view_60 rfl rfl ?_
    refine aw_iconst (q := 63) (v := 5) dL_view_62 rfl (by decide) ?_
    refine aw_icmp_ge (q := 66) (t := 87) dL_view_63 rfl (by decide) (fun h1 => ?_) (fun h1 => ?_)
    · replace H := zt h1 H
      cases H
      exact aw_fewer (L' := [some (.ref 0), some (.long x1), none, some (.int x3), none]) ⟨rfl, ⟨rfl, ⟨rfl, trivial⟩⟩⟩ KE
    · replace H := zf h1 H
      refine aw_ldc2 (q := 69) dL_view_66 rfl q_L_15 ?_
      refine aw_lload_n (q := 70) dL_view_69 rfl rfl ?_
      refine aw_lmul (q := 71) dL_view_70 rfl ?_
      refine aw_aload_n (q := 72) dL_view_71 rfl rfl ?_
      refine aw_iload_n (q := 73) dL_view_72 rfl rfl ?_
      refine aw_iload (q := 75) dL_view_73 rfl rfl ?_
      obtain ⟨v2, hv2, H⟩ := zbd H
      refine aw_cv (M' := M_X6_pinOf) (as := [.int x3, .int x4]) (q := 78) dL_view_75 rfl W_X6_pinOf k_L_21 i_X6_pinOf v_X6_pinOf (by decide) (o_X6 s R) rfl rfl rfl (by decide) (Nat.le_of_ble_eq_true rfl) (c_X6_pinOf s R x3 x4 hv2) (Nat.le_refl _) (Nat.le_refl _) ?_
      rintro r9 h9 ⟨rfl, rfl⟩
      refine aw_i2l (q := 79) dL_view_78 rfl ?_
      refine aw_ladd (q := 80) dL_view_79 rfl ?_
      refine aw_lstore_n (q := 81) (L' := [some (.ref 0), some (.long ((31 * x1) + v2.toInt64)), none, some (.int x3), some (.int x4)]) dL_view_80 rfl (by decide) rfl rfl ?_
      refine aw_iinc (q := 84) (v := x4 + 1) (L' := [some (.ref 0), some (.long ((31 * x1) + v2.toInt64)), none, some (.int x3), some (.int (x4 + 1))]) dL_view_81 rfl rfl (by first | rfl | decide) (by decide) rfl rfl ?_
      refine aw_goto (q := 60) dL_view_84 (by decide) ?_
      exact aw_fewer (L' := [some (.ref 0), some (.long ((31 * x1) + v2.toInt64)), none, some (.int x3), some (.int (x4 + 1))]) ⟨rfl, ⟨rfl, ⟨rfl, ⟨rfl, trivial⟩⟩⟩⟩ (ih s ((31 * x1) + v2.toInt64) (x4 + 1) _ H KE)
def f_L_view_104 : Nat → zs → Int32 → Int64 → Int32 → Option (Int64)
  | 0, _, _, _, _ => none
  | k + 1, s, x3, x1, x4 =>
    if (4 : Int32) ≤ x4 then (
      some x1
    ) else (
      Option.bind (f_X6_faultOf s x3 x4) fun v2 =>
      f_L_view_104 k s x3 ((31 * x1) + v2.toInt64) (x4 + 1)
    )
set_option maxHeartbeats 4000000 in
set_option maxRecDepth 100000 in
theorem L_L_view_104 {G : zG} {sl : Nat} {P : Option Value → zH → Prop} (R : zr) (x3 : Int32) : ∀ (k : Nat) (s : zs) (x1 : Int64) (x4 : Int32) (e : Int64), f_L_view_104 k s x3 x1 x4 = some e → (AV G M_L_view 7 sl P 131 [some (.ref 0), some (.long e), none, some (.int x3), none] [] (zT s R)) → AV G M_L_view 7 sl P 104 [some (.ref 0), some (.long x1), none, some (.int x3), some (.int x4)] [] (zT s R) := by
  intro k
  induction k with
  | zero =>
    intro s x1 x4 e H
    unfold f_L_view_104 at H
    cases H
  | succ k ih =>
    intro s x1 x4 e H KE
    unfold f_L_view_104 at H
    refine aw_iload (q := 106) dL_view_104 rfl rfl ?_
    refine aw_iconst (q := 107) (v := 4) dL_view_106 rfl (by decide) ?_
    refine aw_icmp_ge (q := 110) (t := 131) dL_view_107 rfl (by decide) (fun h1 => ?_) (fun h1 => ?_)
    · replace H := zt h1 H
      cases H
      exact aw_fewer (L' := [some (.ref 0), some (.long x1), none, some (.int x3), none]) ⟨rfl, ⟨rfl, ⟨rfl, trivial⟩⟩⟩ KE
    · replace H := zf h1 H
      refine aw_ldc2 (q := 113) dL_view_110 rfl q_L_15 ?_
      refine aw_lload_n (q := 114) dL_view_113 rfl rfl ?_
      refine aw_lmul (q := 115) dL_view_114 rfl ?_
      refine aw_aload_n (q := 116) dL_view_115 rfl rfl ?_
      refine aw_iload_n (q := 117) dL_view_116 rfl rfl ?_
      refine aw_iload (q := 119) dL_view_117 rfl rfl ?_
      obtain ⟨v2, hv2, H⟩ := zbd H
      refine aw_cv (M' := M_X6_faultOf) (as := [.int x3, .int x4]) (q := 122) dL_view_119 rfl W_X6_faultOf k_L_25 i_X6_faultOf v_X6_faultOf (by decide) (o_X6 s R) rfl rfl rfl (by decide) (Nat.le_of_ble_eq_true rfl) (c_X6_faultOf s R x3 x4 hv2) (Nat.le_refl _) (Nat.le_refl _) ?_
      rintro r9 h9 ⟨rfl, rfl⟩
      refine aw_i2l (q := 123) dL_view_122 rfl ?_
      refine aw_ladd (q := 124) dL_view_123 rfl ?_
      refine aw_lstore_n (q := 125) (L' := [some (.ref 0), some (.long ((31 * x1) + v2.toInt64)), none, some (.int x3), some (.int x4)]) dL_view_124 rfl (by decide) rfl rfl ?_
      refine aw_iinc (q := 128) (v := x4 + 1) (L' := [some (.ref 0), some (.long ((31 * x1) + v2.toInt64)), none, some (.int x3), some (.int (x4 + 1))]) dL_view_125 rfl rfl (by first | rfl | decide) (by decide) rfl rfl ?_
      refine aw_goto (q := 104) dL_view_128 (by decide) ?_
      exact aw_fewer (L' := [some (.ref 0), some (.long ((31 * x1) + v2.toInt64)), none, some (.int x3), some (.int (x4 + 1))]) ⟨rfl, ⟨rfl, ⟨rfl, ⟨rfl, trivial⟩⟩⟩⟩ (ih s ((31 * x1) + v2.toInt64) (x4 + 1) _ H KE)
def f_L_view_8 : Nat → zs → Int64 → Int32 → Option (zs × Int64)
  | 0, _, _, _ => none
  | k + 1, s, x1, x3 =>
    if (16 : Int32) ≤ x3 then (
      some (s, x1)
    ) else (
      if x3 = 9 then (
        f_L_view_8 k s x1 (x3 + 1)
      ) else (
        if x3 = 10 then (
          f_L_view_8 k s x1 (x3 + 1)
        ) else (
          Option.bind (f_X6_count s x3) fun v4 =>
          f_L_view_8 k v4.2 ((31 * x1) + v4.1.toInt64) (x3 + 1)
        )
      )
    )
set_option maxHeartbeats 4000000 in
set_option maxRecDepth 100000 in
theorem L_L_view_8 {G : zG} {sl : Nat} {P : Option Value → zH → Prop} (R : zr)  : ∀ (k : Nat) (s : zs) (x1 : Int64) (x3 : Int32) (e : zs × Int64), f_L_view_8 k s x1 x3 = some e → (AV G M_L_view 7 sl P 49 [some (.ref 0), some (.long e.2), none, none, none] [] (zT e.1 R)) → AV G M_L_view 7 sl P 8 [some (.ref 0), some (.long x1), none, some (.int x3), none] [] (zT s R) := by
  intro k
  induction k with
  | zero =>
    intro s x1 x3 e H
    unfold f_L_view_8 at H
    cases H
  | succ k ih =>
    intro s x1 x3 e H KE
    unfold f_L_view_8 at H
    refine aw_iload_n (q := 9) dL_view_8 rfl rfl ?_
    refine aw_bipush (q := 11) (v := 16) dL_view_9 rfl (by decide) ?_
    refine aw_icmp_ge (q := 14) (t := 49) dL_view_11 rfl (by decide) (fun h1 => ?_) (fun h1 => ?_)
    · replace H := zt h1 H
      cases H
      exact aw_fewer (L' := [some (.ref 0), some (.long x1), none, none, none]) ⟨rfl, ⟨rfl, trivial⟩⟩ KE
    · replace H := zf h1 H
      refine aw_iload_n (q := 15) dL_view_14 rfl rfl ?_
      refine aw_bipush (q := 17) (v := 9) dL_view_15 rfl (by decide) ?_
      refine aw_icmp_eq (q := 20) (t := 26) dL_view_17 rfl (by decide) (fun h2 => ?_) (fun h2 => ?_)
      · replace H := zt h2 H
        refine aw_lload_n (q := 27) dL_view_26 rfl rfl ?_
        refine aw_goto (q := 42) dL_view_27 (by decide) ?_
        refine aw_lstore_n (q := 43) (L' := [some (.ref 0), some (.long x1), none, some (.int x3), none]) dL_view_42 rfl (by decide) rfl rfl ?_
        refine aw_iinc (q := 46) (v := x3 + 1) (L' := [some (.ref 0), some (.long x1), none, some (.int (x3 + 1)), none]) dL_view_43 rfl rfl (by first | rfl | decide) (by decide) rfl rfl ?_
        refine aw_goto (q := 8) dL_view_46 (by decide) ?_
        exact aw_fewer (L' := [some (.ref 0), some (.long x1), none, some (.int (x3 + 1)), none]) ⟨rfl, ⟨rfl, ⟨rfl, trivial⟩⟩⟩ (ih s x1 (x3 + 1) _ H KE)
      · replace H := zf h2 H
        refine aw_iload_n (q := 21) dL_view_20 rfl rfl ?_
        refine aw_bipush (q := 23) (v := 10) dL_view_21 rfl (by decide) ?_
        refine aw_icmp_neP (q := 26) (t := 30) dL_view_23 rfl (by decide) (fun h3 => ?_) (fun h3 => ?_)
        · replace H := zt h3 H
          refine aw_lload_n (q := 27) dL_view_26 rfl rfl ?_
          refine aw_goto (q := 42) dL_view_27 (by decide) ?_
          refine aw_lstore_n (q := 43) (L' := [some (.ref 0), some (.long x1), none, some (.int x3), none]) dL_view_42 rfl (by decide) rfl rfl ?_
          refine aw_iinc (q := 46) (v := x3 + 1) (L' := [some (.ref 0), some (.long x1), none, some (.int (x3 + 1)), none]) dL_view_43 rfl rfl (by first | rfl | decide) (by decide) rfl rfl ?_
          refine aw_goto (q := 8) dL_view_46 (by decide) ?_
          exact aw_fewer (L' := [some (.ref 0), some (.long x1), none, some (.int (x3 + 1)), none]) ⟨rfl, ⟨rfl, ⟨rfl, trivial⟩⟩⟩ (ih s x1 (x3 + 1) _ H KE)
        · replace H := zf h3 H
          refine aw_ldc2 (q := 33) dL_view_30 rfl q_L_15 ?_
          refine aw_lload_n (q := 34) dL_view_33 rfl rfl ?_
          refine aw_lmul (q := 35) dL_view_34 rfl ?_
          refine aw_aload_n (q := 36) dL_view_35 rfl rfl ?_
          refine aw_iload_n (q := 37) dL_view_36 rfl rfl ?_
          obtain ⟨v4, hv4, H⟩ := zbd H
          refine aw_cv (M' := M_X6_count) (as := [.int x3]) (q := 40) dL_view_37 rfl W_X6_count k_L_17 i_X6_count v_X6_count (by decide) (o_X6 s R) rfl rfl rfl (by decide) (Nat.le_of_ble_eq_true rfl) (c_X6_count s R x3 hv4) (Nat.le_refl _) (Nat.le_refl _) ?_
          rintro r9 h9 ⟨rfl, rfl⟩
          refine aw_i2l (q := 41) dL_view_40 rfl ?_
          refine aw_ladd (q := 42) dL_view_41 rfl ?_
          refine aw_lstore_n (q := 43) (L' := [some (.ref 0), some (.long ((31 * x1) + v4.1.toInt64)), none, some (.int x3), none]) dL_view_42 rfl (by decide) rfl rfl ?_
          refine aw_iinc (q := 46) (v := x3 + 1) (L' := [some (.ref 0), some (.long ((31 * x1) + v4.1.toInt64)), none, some (.int (x3 + 1)), none]) dL_view_43 rfl rfl (by first | rfl | decide) (by decide) rfl rfl ?_
          refine aw_goto (q := 8) dL_view_46 (by decide) ?_
          exact aw_fewer (L' := [some (.ref 0), some (.long ((31 * x1) + v4.1.toInt64)), none, some (.int (x3 + 1)), none]) ⟨rfl, ⟨rfl, ⟨rfl, trivial⟩⟩⟩ (ih v4.2 ((31 * x1) + v4.1.toInt64) (x3 + 1) _ H KE)
def f_L_view_51 : Nat → zs → Int64 → Int32 → Option (Int64)
  | 0, _, _, _ => none
  | k + 1, s, x1, x3 =>
    if (16 : Int32) ≤ x3 then (
      some x1
    ) else (
      Option.bind (f_L_view_60 zFu s x3 x1 0) fun e2 =>
      f_L_view_51 k s e2 (x3 + 1)
    )
set_option maxHeartbeats 4000000 in
set_option maxRecDepth 100000 in
theorem L_L_view_51 {G : zG} {sl : Nat} {P : Option Value → zH → Prop} (R : zr)  : ∀ (k : Nat) (s : zs) (x1 : Int64) (x3 : Int32) (e : Int64), f_L_view_51 k s x1 x3 = some e → (AV G M_L_view 7 sl P 93 [some (.ref 0), some (.long e), none, none, none] [] (zT s R)) → AV G M_L_view 7 sl P 51 [some (.ref 0), some (.long x1), none, some (.int x3), none] [] (zT s R) := by
  intro k
  induction k with
  | zero =>
    intro s x1 x3 e H
    unfold f_L_view_51 at H
    cases H
  | succ k ih =>
    intro s x1 x3 e H KE
    unfold f_L_view_51 at H
    refine aw_iload_n (q := 52) dL_view_51 rfl rfl ?_
    refine aw_bipush (q := 54) (v := 16) dL_view_52 rfl (by decide) ?_
    refine aw_icmp_ge (q := 57) (t := 93) dL_view_54 rfl (by decide) (fun h1 => ?_) (fun h1 => ?_)
    · replace H := zt h1 H
      cases H
      exact aw_fewer (L' := [some (.ref 0), some (.long x1), none, none, none]) ⟨rfl, ⟨rfl, trivial⟩⟩ KE
    · replace H := zf h1 H
      refine aw_iconst (q := 58) (v := 0) dL_view_57 rfl (by decide) ?_
      refine aw_istore (q := 60) (L' := [some (.ref 0), some (.long x1), none, some (.int x3), some (.int 0)]) dL_view_58 rfl (by decide) rfl rfl ?_
      obtain ⟨e2, he2, H⟩ := zbd H
      refine aw_fewer (L' := [some (.ref 0), some (.long x1), none, some (.int x3), some (.int 0)]) ⟨rfl, ⟨rfl, ⟨rfl, ⟨rfl, trivial⟩⟩⟩⟩ ?_
      refine L_L_view_60 R x3 zFu s x1 0 e2 he2 ?_
      refine aw_iinc (q := 90) (v := x3 + 1) (L' := [some (.ref 0), some (.long e2), none, some (.int (x3 + 1)), none]) dL_view_87 rfl rfl (by first | rfl | decide) (by decide) rfl rfl ?_
      refine aw_goto (q := 51) dL_view_90 (by decide) ?_
      exact aw_fewer (L' := [some (.ref 0), some (.long e2), none, some (.int (x3 + 1)), none]) ⟨rfl, ⟨rfl, ⟨rfl, trivial⟩⟩⟩ (ih s e2 (x3 + 1) _ H KE)
def f_L_view_95 : Nat → zs → Int64 → Int32 → Option (Int64)
  | 0, _, _, _ => none
  | k + 1, s, x1, x3 =>
    if (10 : Int32) ≤ x3 then (
      some x1
    ) else (
      Option.bind (f_L_view_104 zFu s x3 x1 0) fun e2 =>
      f_L_view_95 k s e2 (x3 + 1)
    )
set_option maxHeartbeats 4000000 in
set_option maxRecDepth 100000 in
theorem L_L_view_95 {G : zG} {sl : Nat} {P : Option Value → zH → Prop} (R : zr)  : ∀ (k : Nat) (s : zs) (x1 : Int64) (x3 : Int32) (e : Int64), f_L_view_95 k s x1 x3 = some e → (AV G M_L_view 7 sl P 137 [none, some (.long e), none, none, none] [] (zT s R)) → AV G M_L_view 7 sl P 95 [some (.ref 0), some (.long x1), none, some (.int x3), none] [] (zT s R) := by
  intro k
  induction k with
  | zero =>
    intro s x1 x3 e H
    unfold f_L_view_95 at H
    cases H
  | succ k ih =>
    intro s x1 x3 e H KE
    unfold f_L_view_95 at H
    refine aw_iload_n (q := 96) dL_view_95 rfl rfl ?_
    refine aw_bipush (q := 98) (v := 10) dL_view_96 rfl (by decide) ?_
    refine aw_icmp_ge (q := 101) (t := 137) dL_view_98 rfl (by decide) (fun h1 => ?_) (fun h1 => ?_)
    · replace H := zt h1 H
      cases H
      exact aw_fewer (L' := [none, some (.long x1), none, none, none]) ⟨rfl, trivial⟩ KE
    · replace H := zf h1 H
      refine aw_iconst (q := 102) (v := 0) dL_view_101 rfl (by decide) ?_
      refine aw_istore (q := 104) (L' := [some (.ref 0), some (.long x1), none, some (.int x3), some (.int 0)]) dL_view_102 rfl (by decide) rfl rfl ?_
      obtain ⟨e2, he2, H⟩ := zbd H
      refine aw_fewer (L' := [some (.ref 0), some (.long x1), none, some (.int x3), some (.int 0)]) ⟨rfl, ⟨rfl, ⟨rfl, ⟨rfl, trivial⟩⟩⟩⟩ ?_
      refine L_L_view_104 R x3 zFu s x1 0 e2 he2 ?_
      refine aw_iinc (q := 134) (v := x3 + 1) (L' := [some (.ref 0), some (.long e2), none, some (.int (x3 + 1)), none]) dL_view_131 rfl rfl (by first | rfl | decide) (by decide) rfl rfl ?_
      refine aw_goto (q := 95) dL_view_134 (by decide) ?_
      exact aw_fewer (L' := [some (.ref 0), some (.long e2), none, some (.int (x3 + 1)), none]) ⟨rfl, ⟨rfl, ⟨rfl, trivial⟩⟩⟩ (ih s e2 (x3 + 1) _ H KE)
def f_L_view (s : zs) : Option (Int64 × zs) :=
  Option.bind (f_L_view_8 zFu s ((f_X6_suspects s).toInt64) 0) fun e1 =>
  Option.bind (f_L_view_51 zFu e1.1 e1.2 0) fun e2 =>
  Option.bind (f_L_view_95 zFu e1.1 e2 0) fun e3 =>
  some (e3, e1.1)
set_option maxHeartbeats 4000000 in
set_option maxRecDepth 100000 in
theorem c_L_view {G : zG} {sl : Nat} (s : zs) (R : zr)  {v9 : (Int64 × zs)} (H : f_L_view s = some v9) : zMv G 7 M_L_view [.ref 0] sl (zT s R) (fun r h' => r = some (.long v9.1) ∧ h' = zT v9.2 R) := by
  unfold f_L_view at H
  refine zMv_of (L := [some (.ref 0), none, none, none, none]) (by decide) rfl (Nat.le_of_ble_eq_true rfl) rfl ?_
  refine aw_aload_n (q := 1) dL_view_0 rfl rfl ?_
  refine aw_cv (M' := M_X6_suspects) (as := []) (q := 4) dL_view_1 rfl W_X6_suspects k_L_9 i_X6_suspects v_X6_suspects (by decide) (o_X6 s R) rfl rfl rfl (by decide) (Nat.le_of_ble_eq_true rfl) (c_X6_suspects s R) (Nat.le_refl _) (Nat.le_refl _) ?_
  rintro r9 h9 ⟨rfl, rfl⟩
  refine aw_i2l (q := 5) dL_view_4 rfl ?_
  refine aw_lstore_n (q := 6) (L' := [some (.ref 0), some (.long ((f_X6_suspects s).toInt64)), none, none, none]) dL_view_5 rfl (by decide) rfl rfl ?_
  refine aw_iconst (q := 7) (v := 0) dL_view_6 rfl (by decide) ?_
  refine aw_istore_n (q := 8) (L' := [some (.ref 0), some (.long ((f_X6_suspects s).toInt64)), none, some (.int 0), none]) dL_view_7 rfl (by decide) rfl rfl ?_
  obtain ⟨e1, he1, H⟩ := zbd H
  refine aw_fewer (L' := [some (.ref 0), some (.long ((f_X6_suspects s).toInt64)), none, some (.int 0), none]) ⟨rfl, ⟨rfl, ⟨rfl, trivial⟩⟩⟩ ?_
  refine L_L_view_8 R  zFu s ((f_X6_suspects s).toInt64) 0 e1 he1 ?_
  refine aw_iconst (q := 50) (v := 0) dL_view_49 rfl (by decide) ?_
  refine aw_istore_n (q := 51) (L' := [some (.ref 0), some (.long e1.2), none, some (.int 0), none]) dL_view_50 rfl (by decide) rfl rfl ?_
  obtain ⟨e2, he2, H⟩ := zbd H
  refine aw_fewer (L' := [some (.ref 0), some (.long e1.2), none, some (.int 0), none]) ⟨rfl, ⟨rfl, ⟨rfl, trivial⟩⟩⟩ ?_
  refine L_L_view_51 R  zFu e1.1 e1.2 0 e2 he2 ?_
  refine aw_iconst (q := 94) (v := 0) dL_view_93 rfl (by decide) ?_
  refine aw_istore_n (q := 95) (L' := [some (.ref 0), some (.long e2), none, some (.int 0), none]) dL_view_94 rfl (by decide) rfl rfl ?_
  obtain ⟨e3, he3, H⟩ := zbd H
  refine aw_fewer (L' := [some (.ref 0), some (.long e2), none, some (.int 0), none]) ⟨rfl, ⟨rfl, ⟨rfl, trivial⟩⟩⟩ ?_
  refine L_L_view_95 R  zFu e1.1 e2 0 e3 he3 ?_
  refine aw_lload_n (q := 138) dL_view_137 rfl rfl ?_
  cases H
  exact aw_lret dL_view_138 rfl rfl rfl ⟨rfl, rfl⟩
def f_L_some (x0 : Int32) : Int32 :=
  (((1 : Int32) <<< ((x0 &&& 15) &&& 31)) ||| ((1 : Int32) <<< (((x0 >>> (4 &&& 31)) &&& 15) &&& 31))) ||| ((1 : Int32) <<< (((x0 >>> (8 &&& 31)) &&& 15) &&& 31))
set_option maxHeartbeats 4000000 in
set_option maxRecDepth 100000 in
theorem c_L_some {G : zG} {sl : Nat} (h : zH) (x0 : Int32)  : zMv G 0 M_L_some [.int x0] sl h (fun r h' => r = some (.int (f_L_some x0)) ∧ h' = h) := by
  generalize H : f_L_some x0 = r0
  unfold f_L_some at H
  refine zMv_of (L := [some (.int x0)]) (by decide) rfl (Nat.le_of_ble_eq_true rfl) rfl ?_
  refine aw_iconst (q := 1) (v := 1) dL_some_0 rfl (by decide) ?_
  refine aw_iload_n (q := 2) dL_some_1 rfl rfl ?_
  refine aw_bipush (q := 4) (v := 15) dL_some_2 rfl (by decide) ?_
  refine aw_iand (q := 5) dL_some_4 rfl ?_
  refine aw_ishl (q := 6) dL_some_5 rfl ?_
  refine aw_iconst (q := 7) (v := 1) dL_some_6 rfl (by decide) ?_
  refine aw_iload_n (q := 8) dL_some_7 rfl rfl ?_
  refine aw_iconst (q := 9) (v := 4) dL_some_8 rfl (by decide) ?_
  refine aw_ishr (q := 10) dL_some_9 rfl ?_
  refine aw_bipush (q := 12) (v := 15) dL_some_10 rfl (by decide) ?_
  refine aw_iand (q := 13) dL_some_12 rfl ?_
  refine aw_ishl (q := 14) dL_some_13 rfl ?_
  refine aw_ior (q := 15) dL_some_14 rfl ?_
  refine aw_iconst (q := 16) (v := 1) dL_some_15 rfl (by decide) ?_
  refine aw_iload_n (q := 17) dL_some_16 rfl rfl ?_
  refine aw_bipush (q := 19) (v := 8) dL_some_17 rfl (by decide) ?_
  refine aw_ishr (q := 20) dL_some_19 rfl ?_
  refine aw_bipush (q := 22) (v := 15) dL_some_20 rfl (by decide) ?_
  refine aw_iand (q := 23) dL_some_22 rfl ?_
  refine aw_ishl (q := 24) dL_some_23 rfl ?_
  refine aw_ior (q := 25) dL_some_24 rfl ?_
  subst H
  exact aw_ret dL_some_25 rfl rfl rfl rfl ⟨rfl, rfl⟩
def f_L_any (s : zs) (x1 : Int32) (x2 : Int32) : Option (Int32 × zs) :=
  if (x2 &&& 7) = 0 then (
    Option.bind (f_X6_net s x1) fun v8 =>
    some (v8.1, v8.2)
  ) else (
    if (x2 &&& 7) = 1 then (
      Option.bind (f_X6_chip s x1 x2 (x2 >>> (3 &&& 31))) fun v9 =>
      some (v9.1, v9.2)
    ) else (
      if (x2 &&& 7) = 2 then (
        Option.bind (f_X6_fault s x1 x2 (x2 >>> (3 &&& 31))) fun v10 =>
        some (v10.1, v10.2)
      ) else (
        if (x2 &&& 7) = 3 then (
          Option.bind (f_X6_bless s x1 x2) fun v11 =>
          some (v11.1, v11.2)
        ) else (
          if (x2 &&& 7) = 4 then (
            Option.bind (f_X6_vouchers s x1) fun v12 =>
            some (v12.1, v12.2)
          ) else (
            if (x2 &&& 7) = 5 then (
              Option.bind (f_X6_vouch s x1) fun v13 =>
              some (v13.1, v13.2)
            ) else (
              if (x2 &&& 7) = 6 then (
                Option.bind (f_X6_pass s x1) fun v14 =>
                some (v14.1, v14.2)
              ) else (
                Option.bind (f_X6_file s x1 (x2 >>> (3 &&& 31))) fun v15 =>
                some (v15.1, v15.2)
              )
            )
          )
        )
      )
    )
  )
set_option maxHeartbeats 4000000 in
set_option maxRecDepth 100000 in
theorem c_L_any {G : zG} {sl : Nat} (s : zs) (R : zr) (x1 : Int32) (x2 : Int32) {v9 : (Int32 × zs)} (H : f_L_any s x1 x2 = some v9) : zMv G 6 M_L_any [.ref 0, .int x1, .int x2] sl (zT s R) (fun r h' => r = some (.int v9.1) ∧ h' = zT v9.2 R) := by
  unfold f_L_any at H
  refine zMv_of (L := [some (.ref 0), some (.int x1), some (.int x2)]) (by decide) rfl (Nat.le_of_ble_eq_true rfl) rfl ?_
  refine aw_iload_n (q := 1) dL_any_0 rfl rfl ?_
  refine aw_bipush (q := 3) (v := 7) dL_any_1 rfl (by decide) ?_
  refine aw_iand (q := 4) dL_any_3 rfl ?_
  by_cases h1 : (x2 &&& 7) = 0
  · replace H := zt h1 H
    refine aw_tabIn (q := 48) (off := 44) dL_any_4 (by rw [h1]; decide) (by rw [h1]; decide) (by rw [h1]; rfl) (by decide) ?_
    refine aw_aload_n (q := 49) dL_any_48 rfl rfl ?_
    refine aw_iload_n (q := 50) dL_any_49 rfl rfl ?_
    obtain ⟨v8, hv8, H⟩ := zbd H
    refine aw_cv (M' := M_X6_net) (as := [.int x1]) (q := 53) dL_any_50 rfl W_X6_net k_L_28 i_X6_net v_X6_net (by decide) (o_X6 s R) rfl rfl rfl (by decide) (Nat.le_of_ble_eq_true rfl) (c_X6_net s R x1 hv8) (Nat.le_refl _) (Nat.le_refl _) ?_
    rintro r9 h9 ⟨rfl, rfl⟩
    cases H
    exact aw_ret dL_any_53 rfl rfl rfl rfl ⟨rfl, rfl⟩
  · replace H := zf h1 H
    by_cases h2 : (x2 &&& 7) = 1
    · replace H := zt h2 H
      refine aw_tabIn (q := 54) (off := 50) dL_any_4 (by rw [h2]; decide) (by rw [h2]; decide) (by rw [h2]; rfl) (by decide) ?_
      refine aw_aload_n (q := 55) dL_any_54 rfl rfl ?_
      refine aw_iload_n (q := 56) dL_any_55 rfl rfl ?_
      refine aw_iload_n (q := 57) dL_any_56 rfl rfl ?_
      refine aw_iload_n (q := 58) dL_any_57 rfl rfl ?_
      refine aw_iconst (q := 59) (v := 3) dL_any_58 rfl (by decide) ?_
      refine aw_ishr (q := 60) dL_any_59 rfl ?_
      obtain ⟨v9, hv9, H⟩ := zbd H
      refine aw_cv (M' := M_X6_chip) (as := [.int x1, .int x2, .int (x2 >>> (3 &&& 31))]) (q := 63) dL_any_60 rfl W_X6_chip k_L_31 i_X6_chip v_X6_chip (by decide) (o_X6 s R) rfl rfl rfl (by decide) (Nat.le_of_ble_eq_true rfl) (c_X6_chip s R x1 x2 (x2 >>> (3 &&& 31)) hv9) (Nat.le_refl _) (Nat.le_refl _) ?_
      rintro r9 h9 ⟨rfl, rfl⟩
      cases H
      exact aw_ret dL_any_63 rfl rfl rfl rfl ⟨rfl, rfl⟩
    · replace H := zf h2 H
      by_cases h3 : (x2 &&& 7) = 2
      · replace H := zt h3 H
        refine aw_tabIn (q := 64) (off := 60) dL_any_4 (by rw [h3]; decide) (by rw [h3]; decide) (by rw [h3]; rfl) (by decide) ?_
        refine aw_aload_n (q := 65) dL_any_64 rfl rfl ?_
        refine aw_iload_n (q := 66) dL_any_65 rfl rfl ?_
        refine aw_iload_n (q := 67) dL_any_66 rfl rfl ?_
        refine aw_iload_n (q := 68) dL_any_67 rfl rfl ?_
        refine aw_iconst (q := 69) (v := 3) dL_any_68 rfl (by decide) ?_
        refine aw_ishr (q := 70) dL_any_69 rfl ?_
        obtain ⟨v10, hv10, H⟩ := zbd H
        refine aw_cv (M' := M_X6_fault) (as := [.int x1, .int x2, .int (x2 >>> (3 &&& 31))]) (q := 73) dL_any_70 rfl W_X6_fault k_L_35 i_X6_fault v_X6_fault (by decide) (o_X6 s R) rfl rfl rfl (by decide) (Nat.le_of_ble_eq_true rfl) (c_X6_fault s R x1 x2 (x2 >>> (3 &&& 31)) hv10) (Nat.le_refl _) (Nat.le_refl _) ?_
        rintro r9 h9 ⟨rfl, rfl⟩
        cases H
        exact aw_ret dL_any_73 rfl rfl rfl rfl ⟨rfl, rfl⟩
      · replace H := zf h3 H
        by_cases h4 : (x2 &&& 7) = 3
        · replace H := zt h4 H
          refine aw_tabIn (q := 74) (off := 70) dL_any_4 (by rw [h4]; decide) (by rw [h4]; decide) (by rw [h4]; rfl) (by decide) ?_
          refine aw_aload_n (q := 75) dL_any_74 rfl rfl ?_
          refine aw_iload_n (q := 76) dL_any_75 rfl rfl ?_
          refine aw_iload_n (q := 77) dL_any_76 rfl rfl ?_
          obtain ⟨v11, hv11, H⟩ := zbd H
          refine aw_cv (M' := M_X6_bless) (as := [.int x1, .int x2]) (q := 80) dL_any_77 rfl W_X6_bless k_L_38 i_X6_bless v_X6_bless (by decide) (o_X6 s R) rfl rfl rfl (by decide) (Nat.le_of_ble_eq_true rfl) (c_X6_bless s R x1 x2 hv11) (Nat.le_refl _) (Nat.le_refl _) ?_
          rintro r9 h9 ⟨rfl, rfl⟩
          cases H
          exact aw_ret dL_any_80 rfl rfl rfl rfl ⟨rfl, rfl⟩
        · replace H := zf h4 H
          by_cases h5 : (x2 &&& 7) = 4
          · replace H := zt h5 H
            refine aw_tabIn (q := 81) (off := 77) dL_any_4 (by rw [h5]; decide) (by rw [h5]; decide) (by rw [h5]; rfl) (by decide) ?_
            refine aw_aload_n (q := 82) dL_any_81 rfl rfl ?_
            refine aw_iload_n (q := 83) dL_any_82 rfl rfl ?_
            obtain ⟨v12, hv12, H⟩ := zbd H
            refine aw_cv (M' := M_X6_vouchers) (as := [.int x1]) (q := 86) dL_any_83 rfl W_X6_vouchers k_L_41 i_X6_vouchers v_X6_vouchers (by decide) (o_X6 s R) rfl rfl rfl (by decide) (Nat.le_of_ble_eq_true rfl) (c_X6_vouchers s R x1 hv12) (Nat.le_refl _) (Nat.le_refl _) ?_
            rintro r9 h9 ⟨rfl, rfl⟩
            cases H
            exact aw_ret dL_any_86 rfl rfl rfl rfl ⟨rfl, rfl⟩
          · replace H := zf h5 H
            by_cases h6 : (x2 &&& 7) = 5
            · replace H := zt h6 H
              refine aw_tabIn (q := 87) (off := 83) dL_any_4 (by rw [h6]; decide) (by rw [h6]; decide) (by rw [h6]; rfl) (by decide) ?_
              refine aw_aload_n (q := 88) dL_any_87 rfl rfl ?_
              refine aw_iload_n (q := 89) dL_any_88 rfl rfl ?_
              obtain ⟨v13, hv13, H⟩ := zbd H
              refine aw_cv (M' := M_X6_vouch) (as := [.int x1]) (q := 92) dL_any_89 rfl W_X6_vouch k_L_44 i_X6_vouch v_X6_vouch (by decide) (o_X6 s R) rfl rfl rfl (by decide) (Nat.le_of_ble_eq_true rfl) (c_X6_vouch s R x1 hv13) (Nat.le_refl _) (Nat.le_refl _) ?_
              rintro r9 h9 ⟨rfl, rfl⟩
              cases H
              exact aw_ret dL_any_92 rfl rfl rfl rfl ⟨rfl, rfl⟩
            · replace H := zf h6 H
              by_cases h7 : (x2 &&& 7) = 6
              · replace H := zt h7 H
                refine aw_tabIn (q := 93) (off := 89) dL_any_4 (by rw [h7]; decide) (by rw [h7]; decide) (by rw [h7]; rfl) (by decide) ?_
                refine aw_aload_n (q := 94) dL_any_93 rfl rfl ?_
                refine aw_iload_n (q := 95) dL_any_94 rfl rfl ?_
                obtain ⟨v14, hv14, H⟩ := zbd H
                refine aw_cv (M' := M_X6_pass) (as := [.int x1]) (q := 98) dL_any_95 rfl W_X6_pass k_L_47 i_X6_pass v_X6_pass (by decide) (o_X6 s R) rfl rfl rfl (by decide) (Nat.le_of_ble_eq_true rfl) (c_X6_pass s R x1 hv14) (Nat.le_refl _) (Nat.le_refl _) ?_
                rintro r9 h9 ⟨rfl, rfl⟩
                cases H
                exact aw_ret dL_any_98 rfl rfl rfl rfl ⟨rfl, rfl⟩
              · replace H := zf h7 H
                refine aw_tabOut (q := 99) dL_any_4 (by have w0 : ¬ (x2 &&& 7).toInt = 0 := zne h1; have w1 : ¬ (x2 &&& 7).toInt = 1 := zne h2; have w2 : ¬ (x2 &&& 7).toInt = 2 := zne h3; have w3 : ¬ (x2 &&& 7).toInt = 3 := zne h4; have w4 : ¬ (x2 &&& 7).toInt = 4 := zne h5; have w5 : ¬ (x2 &&& 7).toInt = 5 := zne h6; have w6 : ¬ (x2 &&& 7).toInt = 6 := zne h7; omega) (by decide) ?_
                refine aw_aload_n (q := 100) dL_any_99 rfl rfl ?_
                refine aw_iload_n (q := 101) dL_any_100 rfl rfl ?_
                refine aw_iload_n (q := 102) dL_any_101 rfl rfl ?_
                refine aw_iconst (q := 103) (v := 3) dL_any_102 rfl (by decide) ?_
                refine aw_ishr (q := 104) dL_any_103 rfl ?_
                obtain ⟨v15, hv15, H⟩ := zbd H
                refine aw_cv (M' := M_X6_file) (as := [.int x1, .int (x2 >>> (3 &&& 31))]) (q := 107) dL_any_104 rfl W_X6_file k_L_50 i_X6_file v_X6_file (by decide) (o_X6 s R) rfl rfl rfl (by decide) (Nat.le_of_ble_eq_true rfl) (c_X6_file s R x1 (x2 >>> (3 &&& 31)) hv15) (Nat.le_refl _) (Nat.le_refl _) ?_
                rintro r9 h9 ⟨rfl, rfl⟩
                cases H
                exact aw_ret dL_any_107 rfl rfl rfl rfl ⟨rfl, rfl⟩
def f_L_turn (s : zs) (x1 : Int32) (x2 : Int32) (x3 : Int32) : Option (Int32 × zs) :=
  Option.bind (f_L_up x2 5) fun v1 =>
  if x1 = 0 then (
    Option.bind (f_X6_net s (f_L_some x2)) fun v17 =>
    some (v17.1, v17.2)
  ) else (
    if x1 = 1 then (
      Option.bind (f_X6_net s (f_L_some x2)) fun v18 =>
      some (v18.1, v18.2)
    ) else (
      if x1 = 2 then (
        Option.bind (f_X6_chip s (x2 &&& 15) ((x2 >>> (4 &&& 31)) &&& 15) ((1 : Int32) <<< ((x3 &&& 15) &&& 31))) fun v19 =>
        some (v19.1, v19.2)
      ) else (
        if x1 = 3 then (
          if v1 = 1 then (
            Option.bind (f_X6_fault s v1 (x3 &&& 7) ((x3 >>> (3 &&& 31)) &&& 7)) fun v21 =>
            some (v21.1, v21.2)
          ) else (
            Option.bind (f_X6_fault s v1 (x3 &&& 7) 0) fun v22 =>
            some (v22.1, v22.2)
          )
        ) else (
          if x1 = 4 then (
            if v1 = 1 then (
              Option.bind (f_X6_fault s v1 (x3 &&& 7) ((x3 >>> (3 &&& 31)) &&& 7)) fun v24 =>
              some (v24.1, v24.2)
            ) else (
              Option.bind (f_X6_fault s v1 (x3 &&& 7) 0) fun v25 =>
              some (v25.1, v25.2)
            )
          ) else (
            if x1 = 5 then (
              Option.bind (f_X6_bless s (x2 &&& 15) (x3 &&& 127)) fun v26 =>
              some (v26.1, v26.2)
            ) else (
              if x1 = 6 then (
                Option.bind (f_X6_bless s (x2 &&& 15) (x3 &&& 127)) fun v27 =>
                some (v27.1, v27.2)
              ) else (
                if x1 = 7 then (
                  Option.bind (f_X6_bless s (x2 &&& 15) (x3 &&& 127)) fun v28 =>
                  some (v28.1, v28.2)
                ) else (
                  if x1 = 8 then (
                    Option.bind (f_L_up x2 13) fun v29 =>
                    Option.bind (f_X6_plant s (v29 - 2)) fun v30 =>
                    some (v30.1, v30.2)
                  ) else (
                    if x1 = 9 then (
                      Option.bind (f_X6_test s) fun v31 =>
                      some (v31.1, v31.2)
                    ) else (
                      if x1 = 10 then (
                        Option.bind (f_X6_test s) fun v32 =>
                        some (v32.1, v32.2)
                      ) else (
                        if x1 = 11 then (
                          Option.bind (f_X6_vouch s (x2 &&& 15)) fun v33 =>
                          some (v33.1, v33.2)
                        ) else (
                          if x1 = 12 then (
                            Option.bind (f_L_up x2 23) fun v34 =>
                            Option.bind (f_X6_vouchers s (v34 - 1)) fun v35 =>
                            some (v35.1, v35.2)
                          ) else (
                            if x1 = 13 then (
                              Option.bind (f_L_up x2 63) fun v36 =>
                              Option.bind (f_X6_pass s (v36 - 1)) fun v37 =>
                              some (v37.1, v37.2)
                            ) else (
                              if x1 = 14 then (
                                Option.bind (f_L_up x2 11) fun v38 =>
                                Option.bind (f_L_up x3 6) fun v39 =>
                                Option.bind (f_X6_file s v38 v39) fun v40 =>
                                some (v40.1, v40.2)
                              ) else (
                                Option.bind (f_L_any s x2 x3) fun v41 =>
                                some (v41.1, v41.2)
                              )
                            )
                          )
                        )
                      )
                    )
                  )
                )
              )
            )
          )
        )
      )
    )
  )
set_option maxHeartbeats 4000000 in
set_option maxRecDepth 100000 in
theorem c_L_turn {G : zG} {sl : Nat} (s : zs) (R : zr) (x1 : Int32) (x2 : Int32) (x3 : Int32) {v9 : (Int32 × zs)} (H : f_L_turn s x1 x2 x3 = some v9) : zMv G 7 M_L_turn [.ref 0, .int x1, .int x2, .int x3] sl (zT s R) (fun r h' => r = some (.int v9.1) ∧ h' = zT v9.2 R) := by
  unfold f_L_turn at H
  refine zMv_of (L := [some (.ref 0), some (.int x1), some (.int x2), some (.int x3), none]) (by decide) rfl (Nat.le_of_ble_eq_true rfl) rfl ?_
  refine aw_iload_n (q := 1) dL_turn_0 rfl rfl ?_
  refine aw_iconst (q := 2) (v := 5) dL_turn_1 rfl (by decide) ?_
  obtain ⟨v1, hv1, H⟩ := zbd H
  refine aw_cs (M' := M_L_up) (as := [.int x2, .int 5]) (q := 5) dL_turn_2 rfl W_L_up k_L_53 s_L_up rfl rfl (by decide) (Nat.le_of_ble_eq_true rfl) (c_L_up (zT s R) x2 5 hv1) (Nat.le_refl _) (Nat.le_refl _) ?_
  rintro r9 h9 ⟨rfl, rfl⟩
  refine aw_istore (q := 7) (L' := [some (.ref 0), some (.int x1), some (.int x2), some (.int x3), some (.int v1)]) dL_turn_5 rfl (by decide) rfl rfl ?_
  refine aw_iload_n (q := 8) dL_turn_7 rfl rfl ?_
  by_cases h2 : x1 = 0
  · replace H := zt h2 H
    refine aw_tabIn (q := 84) (off := 76) dL_turn_8 (by rw [h2]; decide) (by rw [h2]; decide) (by rw [h2]; rfl) (by decide) ?_
    refine aw_aload_n (q := 85) dL_turn_84 rfl rfl ?_
    refine aw_iload_n (q := 86) dL_turn_85 rfl rfl ?_
    refine aw_cs (M' := M_L_some) (as := [.int x2]) (q := 89) dL_turn_86 rfl W_L_some k_L_58 s_L_some rfl rfl (by decide) (Nat.le_of_ble_eq_true rfl) (c_L_some (zT s R) x2) (Nat.le_refl _) (Nat.le_refl _) ?_
    rintro r9 h9 ⟨rfl, rfl⟩
    obtain ⟨v17, hv17, H⟩ := zbd H
    refine aw_cv (M' := M_X6_net) (as := [.int (f_L_some x2)]) (q := 92) dL_turn_89 rfl W_X6_net k_L_28 i_X6_net v_X6_net (by decide) (o_X6 s R) rfl rfl rfl (by decide) (Nat.le_of_ble_eq_true rfl) (c_X6_net s R (f_L_some x2) hv17) (Nat.le_refl _) (Nat.le_refl _) ?_
    rintro r9 h9 ⟨rfl, rfl⟩
    cases H
    exact aw_ret dL_turn_92 rfl rfl rfl rfl ⟨rfl, rfl⟩
  · replace H := zf h2 H
    by_cases h3 : x1 = 1
    · replace H := zt h3 H
      refine aw_tabIn (q := 84) (off := 76) dL_turn_8 (by rw [h3]; decide) (by rw [h3]; decide) (by rw [h3]; rfl) (by decide) ?_
      refine aw_aload_n (q := 85) dL_turn_84 rfl rfl ?_
      refine aw_iload_n (q := 86) dL_turn_85 rfl rfl ?_
      refine aw_cs (M' := M_L_some) (as := [.int x2]) (q := 89) dL_turn_86 rfl W_L_some k_L_58 s_L_some rfl rfl (by decide) (Nat.le_of_ble_eq_true rfl) (c_L_some (zT s R) x2) (Nat.le_refl _) (Nat.le_refl _) ?_
      rintro r9 h9 ⟨rfl, rfl⟩
      obtain ⟨v18, hv18, H⟩ := zbd H
      refine aw_cv (M' := M_X6_net) (as := [.int (f_L_some x2)]) (q := 92) dL_turn_89 rfl W_X6_net k_L_28 i_X6_net v_X6_net (by decide) (o_X6 s R) rfl rfl rfl (by decide) (Nat.le_of_ble_eq_true rfl) (c_X6_net s R (f_L_some x2) hv18) (Nat.le_refl _) (Nat.le_refl _) ?_
      rintro r9 h9 ⟨rfl, rfl⟩
      cases H
      exact aw_ret dL_turn_92 rfl rfl rfl rfl ⟨rfl, rfl⟩
    · replace H := zf h3 H
      by_cases h4 : x1 = 2
      · replace H := zt h4 H
        refine aw_tabIn (q := 93) (off := 85) dL_turn_8 (by rw [h4]; decide) (by rw [h4]; decide) (by rw [h4]; rfl) (by decide) ?_
        refine aw_aload_n (q := 94) dL_turn_93 rfl rfl ?_
        refine aw_iload_n (q := 95) dL_turn_94 rfl rfl ?_
        refine aw_bipush (q := 97) (v := 15) dL_turn_95 rfl (by decide) ?_
        refine aw_iand (q := 98) dL_turn_97 rfl ?_
        refine aw_iload_n (q := 99) dL_turn_98 rfl rfl ?_
        refine aw_iconst (q := 100) (v := 4) dL_turn_99 rfl (by decide) ?_
        refine aw_ishr (q := 101) dL_turn_100 rfl ?_
        refine aw_bipush (q := 103) (v := 15) dL_turn_101 rfl (by decide) ?_
        refine aw_iand (q := 104) dL_turn_103 rfl ?_
        refine aw_iconst (q := 105) (v := 1) dL_turn_104 rfl (by decide) ?_
        refine aw_iload_n (q := 106) dL_turn_105 rfl rfl ?_
        refine aw_bipush (q := 108) (v := 15) dL_turn_106 rfl (by decide) ?_
        refine aw_iand (q := 109) dL_turn_108 rfl ?_
        refine aw_ishl (q := 110) dL_turn_109 rfl ?_
        obtain ⟨v19, hv19, H⟩ := zbd H
        refine aw_cv (M' := M_X6_chip) (as := [.int (x2 &&& 15), .int ((x2 >>> (4 &&& 31)) &&& 15), .int ((1 : Int32) <<< ((x3 &&& 15) &&& 31))]) (q := 113) dL_turn_110 rfl W_X6_chip k_L_31 i_X6_chip v_X6_chip (by decide) (o_X6 s R) rfl rfl rfl (by decide) (Nat.le_of_ble_eq_true rfl) (c_X6_chip s R (x2 &&& 15) ((x2 >>> (4 &&& 31)) &&& 15) ((1 : Int32) <<< ((x3 &&& 15) &&& 31)) hv19) (Nat.le_refl _) (Nat.le_refl _) ?_
        rintro r9 h9 ⟨rfl, rfl⟩
        cases H
        exact aw_ret dL_turn_113 rfl rfl rfl rfl ⟨rfl, rfl⟩
      · replace H := zf h4 H
        by_cases h5 : x1 = 3
        · replace H := zt h5 H
          refine aw_tabIn (q := 114) (off := 106) dL_turn_8 (by rw [h5]; decide) (by rw [h5]; decide) (by rw [h5]; rfl) (by decide) ?_
          refine aw_aload_n (q := 115) dL_turn_114 rfl rfl ?_
          refine aw_iload (q := 117) dL_turn_115 rfl rfl ?_
          refine aw_iload_n (q := 118) dL_turn_117 rfl rfl ?_
          refine aw_bipush (q := 120) (v := 7) dL_turn_118 rfl (by decide) ?_
          refine aw_iand (q := 121) dL_turn_120 rfl ?_
          refine aw_iload (q := 123) dL_turn_121 rfl rfl ?_
          refine aw_iconst (q := 124) (v := 1) dL_turn_123 rfl (by decide) ?_
          refine aw_icmp_neP (q := 127) (t := 136) dL_turn_124 rfl (by decide) (fun h20 => ?_) (fun h20 => ?_)
          · replace H := zt h20 H
            refine aw_iload_n (q := 128) dL_turn_127 rfl rfl ?_
            refine aw_iconst (q := 129) (v := 3) dL_turn_128 rfl (by decide) ?_
            refine aw_ishr (q := 130) dL_turn_129 rfl ?_
            refine aw_bipush (q := 132) (v := 7) dL_turn_130 rfl (by decide) ?_
            refine aw_iand (q := 133) dL_turn_132 rfl ?_
            refine aw_goto (q := 137) dL_turn_133 (by decide) ?_
            obtain ⟨v21, hv21, H⟩ := zbd H
            refine aw_cv (M' := M_X6_fault) (as := [.int v1, .int (x3 &&& 7), .int ((x3 >>> (3 &&& 31)) &&& 7)]) (q := 140) dL_turn_137 rfl W_X6_fault k_L_35 i_X6_fault v_X6_fault (by decide) (o_X6 s R) rfl rfl rfl (by decide) (Nat.le_of_ble_eq_true rfl) (c_X6_fault s R v1 (x3 &&& 7) ((x3 >>> (3 &&& 31)) &&& 7) hv21) (Nat.le_refl _) (Nat.le_refl _) ?_
            rintro r9 h9 ⟨rfl, rfl⟩
            cases H
            exact aw_ret dL_turn_140 rfl rfl rfl rfl ⟨rfl, rfl⟩
          · replace H := zf h20 H
            refine aw_iconst (q := 137) (v := 0) dL_turn_136 rfl (by decide) ?_
            obtain ⟨v22, hv22, H⟩ := zbd H
            refine aw_cv (M' := M_X6_fault) (as := [.int v1, .int (x3 &&& 7), .int 0]) (q := 140) dL_turn_137 rfl W_X6_fault k_L_35 i_X6_fault v_X6_fault (by decide) (o_X6 s R) rfl rfl rfl (by decide) (Nat.le_of_ble_eq_true rfl) (c_X6_fault s R v1 (x3 &&& 7) 0 hv22) (Nat.le_refl _) (Nat.le_refl _) ?_
            rintro r9 h9 ⟨rfl, rfl⟩
            cases H
            exact aw_ret dL_turn_140 rfl rfl rfl rfl ⟨rfl, rfl⟩
        · replace H := zf h5 H
          by_cases h6 : x1 = 4
          · replace H := zt h6 H
            refine aw_tabIn (q := 114) (off := 106) dL_turn_8 (by rw [h6]; decide) (by rw [h6]; decide) (by rw [h6]; rfl) (by decide) ?_
            refine aw_aload_n (q := 115) dL_turn_114 rfl rfl ?_
            refine aw_iload (q := 117) dL_turn_115 rfl rfl ?_
            refine aw_iload_n (q := 118) dL_turn_117 rfl rfl ?_
            refine aw_bipush (q := 120) (v := 7) dL_turn_118 rfl (by decide) ?_
            refine aw_iand (q := 121) dL_turn_120 rfl ?_
            refine aw_iload (q := 123) dL_turn_121 rfl rfl ?_
            refine aw_iconst (q := 124) (v := 1) dL_turn_123 rfl (by decide) ?_
            refine aw_icmp_neP (q := 127) (t := 136) dL_turn_124 rfl (by decide) (fun h23 => ?_) (fun h23 => ?_)
            · replace H := zt h23 H
              refine aw_iload_n (q := 128) dL_turn_127 rfl rfl ?_
              refine aw_iconst (q := 129) (v := 3) dL_turn_128 rfl (by decide) ?_
              refine aw_ishr (q := 130) dL_turn_129 rfl ?_
              refine aw_bipush (q := 132) (v := 7) dL_turn_130 rfl (by decide) ?_
              refine aw_iand (q := 133) dL_turn_132 rfl ?_
              refine aw_goto (q := 137) dL_turn_133 (by decide) ?_
              obtain ⟨v24, hv24, H⟩ := zbd H
              refine aw_cv (M' := M_X6_fault) (as := [.int v1, .int (x3 &&& 7), .int ((x3 >>> (3 &&& 31)) &&& 7)]) (q := 140) dL_turn_137 rfl W_X6_fault k_L_35 i_X6_fault v_X6_fault (by decide) (o_X6 s R) rfl rfl rfl (by decide) (Nat.le_of_ble_eq_true rfl) (c_X6_fault s R v1 (x3 &&& 7) ((x3 >>> (3 &&& 31)) &&& 7) hv24) (Nat.le_refl _) (Nat.le_refl _) ?_
              rintro r9 h9 ⟨rfl, rfl⟩
              cases H
              exact aw_ret dL_turn_140 rfl rfl rfl rfl ⟨rfl, rfl⟩
            · replace H := zf h23 H
              refine aw_iconst (q := 137) (v := 0) dL_turn_136 rfl (by decide) ?_
              obtain ⟨v25, hv25, H⟩ := zbd H
              refine aw_cv (M' := M_X6_fault) (as := [.int v1, .int (x3 &&& 7), .int 0]) (q := 140) dL_turn_137 rfl W_X6_fault k_L_35 i_X6_fault v_X6_fault (by decide) (o_X6 s R) rfl rfl rfl (by decide) (Nat.le_of_ble_eq_true rfl) (c_X6_fault s R v1 (x3 &&& 7) 0 hv25) (Nat.le_refl _) (Nat.le_refl _) ?_
              rintro r9 h9 ⟨rfl, rfl⟩
              cases H
              exact aw_ret dL_turn_140 rfl rfl rfl rfl ⟨rfl, rfl⟩
          · replace H := zf h6 H
            by_cases h7 : x1 = 5
            · replace H := zt h7 H
              refine aw_tabIn (q := 141) (off := 133) dL_turn_8 (by rw [h7]; decide) (by rw [h7]; decide) (by rw [h7]; rfl) (by decide) ?_
              refine aw_aload_n (q := 142) dL_turn_141 rfl rfl ?_
              refine aw_iload_n (q := 143) dL_turn_142 rfl rfl ?_
              refine aw_bipush (q := 145) (v := 15) dL_turn_143 rfl (by decide) ?_
              refine aw_iand (q := 146) dL_turn_145 rfl ?_
              refine aw_iload_n (q := 147) dL_turn_146 rfl rfl ?_
              refine aw_bipush (q := 149) (v := 127) dL_turn_147 rfl (by decide) ?_
              refine aw_iand (q := 150) dL_turn_149 rfl ?_
              obtain ⟨v26, hv26, H⟩ := zbd H
              refine aw_cv (M' := M_X6_bless) (as := [.int (x2 &&& 15), .int (x3 &&& 127)]) (q := 153) dL_turn_150 rfl W_X6_bless k_L_38 i_X6_bless v_X6_bless (by decide) (o_X6 s R) rfl rfl rfl (by decide) (Nat.le_of_ble_eq_true rfl) (c_X6_bless s R (x2 &&& 15) (x3 &&& 127) hv26) (Nat.le_refl _) (Nat.le_refl _) ?_
              rintro r9 h9 ⟨rfl, rfl⟩
              cases H
              exact aw_ret dL_turn_153 rfl rfl rfl rfl ⟨rfl, rfl⟩
            · replace H := zf h7 H
              by_cases h8 : x1 = 6
              · replace H := zt h8 H
                refine aw_tabIn (q := 141) (off := 133) dL_turn_8 (by rw [h8]; decide) (by rw [h8]; decide) (by rw [h8]; rfl) (by decide) ?_
                refine aw_aload_n (q := 142) dL_turn_141 rfl rfl ?_
                refine aw_iload_n (q := 143) dL_turn_142 rfl rfl ?_
                refine aw_bipush (q := 145) (v := 15) dL_turn_143 rfl (by decide) ?_
                refine aw_iand (q := 146) dL_turn_145 rfl ?_
                refine aw_iload_n (q := 147) dL_turn_146 rfl rfl ?_
                refine aw_bipush (q := 149) (v := 127) dL_turn_147 rfl (by decide) ?_
                refine aw_iand (q := 150) dL_turn_149 rfl ?_
                obtain ⟨v27, hv27, H⟩ := zbd H
                refine aw_cv (M' := M_X6_bless) (as := [.int (x2 &&& 15), .int (x3 &&& 127)]) (q := 153) dL_turn_150 rfl W_X6_bless k_L_38 i_X6_bless v_X6_bless (by decide) (o_X6 s R) rfl rfl rfl (by decide) (Nat.le_of_ble_eq_true rfl) (c_X6_bless s R (x2 &&& 15) (x3 &&& 127) hv27) (Nat.le_refl _) (Nat.le_refl _) ?_
                rintro r9 h9 ⟨rfl, rfl⟩
                cases H
                exact aw_ret dL_turn_153 rfl rfl rfl rfl ⟨rfl, rfl⟩
              · replace H := zf h8 H
                by_cases h9 : x1 = 7
                · replace H := zt h9 H
                  refine aw_tabIn (q := 141) (off := 133) dL_turn_8 (by rw [h9]; decide) (by rw [h9]; decide) (by rw [h9]; rfl) (by decide) ?_
                  refine aw_aload_n (q := 142) dL_turn_141 rfl rfl ?_
                  refine aw_iload_n (q := 143) dL_turn_142 rfl rfl ?_
                  refine aw_bipush (q := 145) (v := 15) dL_turn_143 rfl (by decide) ?_
                  refine aw_iand (q := 146) dL_turn_145 rfl ?_
                  refine aw_iload_n (q := 147) dL_turn_146 rfl rfl ?_
                  refine aw_bipush (q := 149) (v := 127) dL_turn_147 rfl (by decide) ?_
                  refine aw_iand (q := 150) dL_turn_149 rfl ?_
                  obtain ⟨v28, hv28, H⟩ := zbd H
                  refine aw_cv (M' := M_X6_bless) (as := [.int (x2 &&& 15), .int (x3 &&& 127)]) (q := 153) dL_turn_150 rfl W_X6_bless k_L_38 i_X6_bless v_X6_bless (by decide) (o_X6 s R) rfl rfl rfl (by decide) (Nat.le_of_ble_eq_true rfl) (c_X6_bless s R (x2 &&& 15) (x3 &&& 127) hv28) (Nat.le_refl _) (Nat.le_refl _) ?_
                  rintro r9 h9 ⟨rfl, rfl⟩
                  cases H
                  exact aw_ret dL_turn_153 rfl rfl rfl rfl ⟨rfl, rfl⟩
                · replace H := zf h9 H
                  by_cases h10 : x1 = 8
                  · replace H := zt h10 H
                    refine aw_tabIn (q := 154) (off := 146) dL_turn_8 (by rw [h10]; decide) (by rw [h10]; decide) (by rw [h10]; rfl) (by decide) ?_
                    refine aw_aload_n (q := 155) dL_turn_154 rfl rfl ?_
                    refine aw_iload_n (q := 156) dL_turn_155 rfl rfl ?_
                    refine aw_bipush (q := 158) (v := 13) dL_turn_156 rfl (by decide) ?_
                    obtain ⟨v29, hv29, H⟩ := zbd H
                    refine aw_cs (M' := M_L_up) (as := [.int x2, .int 13]) (q := 161) dL_turn_158 rfl W_L_up k_L_53 s_L_up rfl rfl (by decide) (Nat.le_of_ble_eq_true rfl) (c_L_up (zT s R) x2 13 hv29) (Nat.le_refl _) (Nat.le_refl _) ?_
                    rintro r9 h9 ⟨rfl, rfl⟩
                    refine aw_iconst (q := 162) (v := 2) dL_turn_161 rfl (by decide) ?_
                    refine aw_isub (q := 163) dL_turn_162 rfl ?_
                    obtain ⟨v30, hv30, H⟩ := zbd H
                    refine aw_cv (M' := M_X6_plant) (as := [.int (v29 - 2)]) (q := 166) dL_turn_163 rfl W_X6_plant k_L_61 i_X6_plant v_X6_plant (by decide) (o_X6 s R) rfl rfl rfl (by decide) (Nat.le_of_ble_eq_true rfl) (c_X6_plant s R (v29 - 2) hv30) (Nat.le_refl _) (Nat.le_refl _) ?_
                    rintro r9 h9 ⟨rfl, rfl⟩
                    cases H
                    exact aw_ret dL_turn_166 rfl rfl rfl rfl ⟨rfl, rfl⟩
                  · replace H := zf h10 H
                    by_cases h11 : x1 = 9
                    · replace H := zt h11 H
                      refine aw_tabIn (q := 167) (off := 159) dL_turn_8 (by rw [h11]; decide) (by rw [h11]; decide) (by rw [h11]; rfl) (by decide) ?_
                      refine aw_aload_n (q := 168) dL_turn_167 rfl rfl ?_
                      obtain ⟨v31, hv31, H⟩ := zbd H
                      refine aw_cv (M' := M_X6_test) (as := []) (q := 171) dL_turn_168 rfl W_X6_test k_L_64 i_X6_test v_X6_test (by decide) (o_X6 s R) rfl rfl rfl (by decide) (Nat.le_of_ble_eq_true rfl) (c_X6_test s R hv31) (Nat.le_refl _) (Nat.le_refl _) ?_
                      rintro r9 h9 ⟨rfl, rfl⟩
                      cases H
                      exact aw_ret dL_turn_171 rfl rfl rfl rfl ⟨rfl, rfl⟩
                    · replace H := zf h11 H
                      by_cases h12 : x1 = 10
                      · replace H := zt h12 H
                        refine aw_tabIn (q := 167) (off := 159) dL_turn_8 (by rw [h12]; decide) (by rw [h12]; decide) (by rw [h12]; rfl) (by decide) ?_
                        refine aw_aload_n (q := 168) dL_turn_167 rfl rfl ?_
                        obtain ⟨v32, hv32, H⟩ := zbd H
                        refine aw_cv (M' := M_X6_test) (as := []) (q := 171) dL_turn_168 rfl W_X6_test k_L_64 i_X6_test v_X6_test (by decide) (o_X6 s R) rfl rfl rfl (by decide) (Nat.le_of_ble_eq_true rfl) (c_X6_test s R hv32) (Nat.le_refl _) (Nat.le_refl _) ?_
                        rintro r9 h9 ⟨rfl, rfl⟩
                        cases H
                        exact aw_ret dL_turn_171 rfl rfl rfl rfl ⟨rfl, rfl⟩
                      · replace H := zf h12 H
                        by_cases h13 : x1 = 11
                        · replace H := zt h13 H
                          refine aw_tabIn (q := 172) (off := 164) dL_turn_8 (by rw [h13]; decide) (by rw [h13]; decide) (by rw [h13]; rfl) (by decide) ?_
                          refine aw_aload_n (q := 173) dL_turn_172 rfl rfl ?_
                          refine aw_iload_n (q := 174) dL_turn_173 rfl rfl ?_
                          refine aw_bipush (q := 176) (v := 15) dL_turn_174 rfl (by decide) ?_
                          refine aw_iand (q := 177) dL_turn_176 rfl ?_
                          obtain ⟨v33, hv33, H⟩ := zbd H
                          refine aw_cv (M' := M_X6_vouch) (as := [.int (x2 &&& 15)]) (q := 180) dL_turn_177 rfl W_X6_vouch k_L_44 i_X6_vouch v_X6_vouch (by decide) (o_X6 s R) rfl rfl rfl (by decide) (Nat.le_of_ble_eq_true rfl) (c_X6_vouch s R (x2 &&& 15) hv33) (Nat.le_refl _) (Nat.le_refl _) ?_
                          rintro r9 h9 ⟨rfl, rfl⟩
                          cases H
                          exact aw_ret dL_turn_180 rfl rfl rfl rfl ⟨rfl, rfl⟩
                        · replace H := zf h13 H
                          by_cases h14 : x1 = 12
                          · replace H := zt h14 H
                            refine aw_tabIn (q := 181) (off := 173) dL_turn_8 (by rw [h14]; decide) (by rw [h14]; decide) (by rw [h14]; rfl) (by decide) ?_
                            refine aw_aload_n (q := 182) dL_turn_181 rfl rfl ?_
                            refine aw_iload_n (q := 183) dL_turn_182 rfl rfl ?_
                            refine aw_bipush (q := 185) (v := 23) dL_turn_183 rfl (by decide) ?_
                            obtain ⟨v34, hv34, H⟩ := zbd H
                            refine aw_cs (M' := M_L_up) (as := [.int x2, .int 23]) (q := 188) dL_turn_185 rfl W_L_up k_L_53 s_L_up rfl rfl (by decide) (Nat.le_of_ble_eq_true rfl) (c_L_up (zT s R) x2 23 hv34) (Nat.le_refl _) (Nat.le_refl _) ?_
                            rintro r9 h9 ⟨rfl, rfl⟩
                            refine aw_iconst (q := 189) (v := 1) dL_turn_188 rfl (by decide) ?_
                            refine aw_isub (q := 190) dL_turn_189 rfl ?_
                            obtain ⟨v35, hv35, H⟩ := zbd H
                            refine aw_cv (M' := M_X6_vouchers) (as := [.int (v34 - 1)]) (q := 193) dL_turn_190 rfl W_X6_vouchers k_L_41 i_X6_vouchers v_X6_vouchers (by decide) (o_X6 s R) rfl rfl rfl (by decide) (Nat.le_of_ble_eq_true rfl) (c_X6_vouchers s R (v34 - 1) hv35) (Nat.le_refl _) (Nat.le_refl _) ?_
                            rintro r9 h9 ⟨rfl, rfl⟩
                            cases H
                            exact aw_ret dL_turn_193 rfl rfl rfl rfl ⟨rfl, rfl⟩
                          · replace H := zf h14 H
                            by_cases h15 : x1 = 13
                            · replace H := zt h15 H
                              refine aw_tabIn (q := 194) (off := 186) dL_turn_8 (by rw [h15]; decide) (by rw [h15]; decide) (by rw [h15]; rfl) (by decide) ?_
                              refine aw_aload_n (q := 195) dL_turn_194 rfl rfl ?_
                              refine aw_iload_n (q := 196) dL_turn_195 rfl rfl ?_
                              refine aw_bipush (q := 198) (v := 63) dL_turn_196 rfl (by decide) ?_
                              obtain ⟨v36, hv36, H⟩ := zbd H
                              refine aw_cs (M' := M_L_up) (as := [.int x2, .int 63]) (q := 201) dL_turn_198 rfl W_L_up k_L_53 s_L_up rfl rfl (by decide) (Nat.le_of_ble_eq_true rfl) (c_L_up (zT s R) x2 63 hv36) (Nat.le_refl _) (Nat.le_refl _) ?_
                              rintro r9 h9 ⟨rfl, rfl⟩
                              refine aw_iconst (q := 202) (v := 1) dL_turn_201 rfl (by decide) ?_
                              refine aw_isub (q := 203) dL_turn_202 rfl ?_
                              obtain ⟨v37, hv37, H⟩ := zbd H
                              refine aw_cv (M' := M_X6_pass) (as := [.int (v36 - 1)]) (q := 206) dL_turn_203 rfl W_X6_pass k_L_47 i_X6_pass v_X6_pass (by decide) (o_X6 s R) rfl rfl rfl (by decide) (Nat.le_of_ble_eq_true rfl) (c_X6_pass s R (v36 - 1) hv37) (Nat.le_refl _) (Nat.le_refl _) ?_
                              rintro r9 h9 ⟨rfl, rfl⟩
                              cases H
                              exact aw_ret dL_turn_206 rfl rfl rfl rfl ⟨rfl, rfl⟩
                            · replace H := zf h15 H
                              by_cases h16 : x1 = 14
                              · replace H := zt h16 H
                                refine aw_tabIn (q := 207) (off := 199) dL_turn_8 (by rw [h16]; decide) (by rw [h16]; decide) (by rw [h16]; rfl) (by decide) ?_
                                refine aw_aload_n (q := 208) dL_turn_207 rfl rfl ?_
                                refine aw_iload_n (q := 209) dL_turn_208 rfl rfl ?_
                                refine aw_bipush (q := 211) (v := 11) dL_turn_209 rfl (by decide) ?_
                                obtain ⟨v38, hv38, H⟩ := zbd H
                                refine aw_cs (M' := M_L_up) (as := [.int x2, .int 11]) (q := 214) dL_turn_211 rfl W_L_up k_L_53 s_L_up rfl rfl (by decide) (Nat.le_of_ble_eq_true rfl) (c_L_up (zT s R) x2 11 hv38) (Nat.le_refl _) (Nat.le_refl _) ?_
                                rintro r9 h9 ⟨rfl, rfl⟩
                                refine aw_iload_n (q := 215) dL_turn_214 rfl rfl ?_
                                refine aw_bipush (q := 217) (v := 6) dL_turn_215 rfl (by decide) ?_
                                obtain ⟨v39, hv39, H⟩ := zbd H
                                refine aw_cs (M' := M_L_up) (as := [.int x3, .int 6]) (q := 220) dL_turn_217 rfl W_L_up k_L_53 s_L_up rfl rfl (by decide) (Nat.le_of_ble_eq_true rfl) (c_L_up (zT s R) x3 6 hv39) (Nat.le_refl _) (Nat.le_refl _) ?_
                                rintro r9 h9 ⟨rfl, rfl⟩
                                obtain ⟨v40, hv40, H⟩ := zbd H
                                refine aw_cv (M' := M_X6_file) (as := [.int v38, .int v39]) (q := 223) dL_turn_220 rfl W_X6_file k_L_50 i_X6_file v_X6_file (by decide) (o_X6 s R) rfl rfl rfl (by decide) (Nat.le_of_ble_eq_true rfl) (c_X6_file s R v38 v39 hv40) (Nat.le_refl _) (Nat.le_refl _) ?_
                                rintro r9 h9 ⟨rfl, rfl⟩
                                cases H
                                exact aw_ret dL_turn_223 rfl rfl rfl rfl ⟨rfl, rfl⟩
                              · replace H := zf h16 H
                                refine aw_tabOut (q := 224) dL_turn_8 (by have w0 : ¬ x1.toInt = 0 := zne h2; have w1 : ¬ x1.toInt = 1 := zne h3; have w2 : ¬ x1.toInt = 2 := zne h4; have w3 : ¬ x1.toInt = 3 := zne h5; have w4 : ¬ x1.toInt = 4 := zne h6; have w5 : ¬ x1.toInt = 5 := zne h7; have w6 : ¬ x1.toInt = 6 := zne h8; have w7 : ¬ x1.toInt = 7 := zne h9; have w8 : ¬ x1.toInt = 8 := zne h10; have w9 : ¬ x1.toInt = 9 := zne h11; have w10 : ¬ x1.toInt = 10 := zne h12; have w11 : ¬ x1.toInt = 11 := zne h13; have w12 : ¬ x1.toInt = 12 := zne h14; have w13 : ¬ x1.toInt = 13 := zne h15; have w14 : ¬ x1.toInt = 14 := zne h16; omega) (by decide) ?_
                                refine aw_aload_n (q := 225) dL_turn_224 rfl rfl ?_
                                refine aw_iload_n (q := 226) dL_turn_225 rfl rfl ?_
                                refine aw_iload_n (q := 227) dL_turn_226 rfl rfl ?_
                                obtain ⟨v41, hv41, H⟩ := zbd H
                                refine aw_cs (M' := M_L_any) (as := [.ref 0, .int x2, .int x3]) (q := 230) dL_turn_227 rfl W_L_any k_L_67 s_L_any rfl rfl (by decide) (Nat.le_of_ble_eq_true rfl) (c_L_any s R x2 x3 hv41) (Nat.le_refl _) (Nat.le_refl _) ?_
                                rintro r9 h9 ⟨rfl, rfl⟩
                                cases H
                                exact aw_ret dL_turn_230 rfl rfl rfl rfl ⟨rfl, rfl⟩
def f_L_isUndone (s : zs) (x1 : Int32) (x2 : Int32) (x3 : Int32) (x4 : Int32) (x5 : Int64) : Option (Bool × zs) :=
  Option.bind (f_X6_count s 9) fun v1 =>
  Option.bind (f_X6_undo v1.2) fun v2 =>
  if v2.1 = (v1.1 - 1) then (
    Option.bind (f_X6_count v2.2 9) fun v4 =>
    if v4.1 = (v1.1 - 1) then (
      Option.bind (f_L_view v4.2) fun v6 =>
      if (lg_cmp v6.1 x5) = 0 then (
        Option.bind (f_L_turn v6.2 x1 x2 x3) fun v8 =>
        if v8.1 = x4 then (
          some (true, v8.2)
        ) else (
          some (false, v8.2)
        )
      ) else (
        some (false, v6.2)
      )
    ) else (
      some (false, v4.2)
    )
  ) else (
    some (false, v2.2)
  )
set_option maxHeartbeats 4000000 in
set_option maxRecDepth 100000 in
theorem c_L_isUndone {G : zG} {sl : Nat} (s : zs) (R : zr) (x1 : Int32) (x2 : Int32) (x3 : Int32) (x4 : Int32) (x5 : Int64) {v9 : (Bool × zs)} (H : f_L_isUndone s x1 x2 x3 x4 x5 = some v9) : zMv G 8 M_L_isUndone [.ref 0, .int x1, .int x2, .int x3, .int x4, .long x5] sl (zT s R) (fun r h' => r = some (.int (zb v9.1)) ∧ h' = zT v9.2 R) := by
  unfold f_L_isUndone at H
  refine zMv_ofL (L := [some (.ref 0), some (.int x1), some (.int x2), some (.int x3), some (.int x4), some (.long x5), none, none]) (by decide) (Nat.le_of_ble_eq_true rfl) rfl ?_
  refine aw_aload_n (q := 1) dL_isUndone_0 rfl rfl ?_
  refine aw_bipush (q := 3) (v := 9) dL_isUndone_1 rfl (by decide) ?_
  obtain ⟨v1, hv1, H⟩ := zbd H
  refine aw_cv (M' := M_X6_count) (as := [.int 9]) (q := 6) dL_isUndone_3 rfl W_X6_count k_L_17 i_X6_count v_X6_count (by decide) (o_X6 s R) rfl rfl rfl (by decide) (Nat.le_of_ble_eq_true rfl) (c_X6_count s R 9 hv1) (Nat.le_refl _) (Nat.le_refl _) ?_
  rintro r9 h9 ⟨rfl, rfl⟩
  refine aw_istore (q := 8) (L' := [some (.ref 0), some (.int x1), some (.int x2), some (.int x3), some (.int x4), some (.long x5), none, some (.int v1.1)]) dL_isUndone_6 rfl (by decide) rfl rfl ?_
  refine aw_aload_n (q := 9) dL_isUndone_8 rfl rfl ?_
  obtain ⟨v2, hv2, H⟩ := zbd H
  refine aw_cv (M' := M_X6_undo) (as := []) (q := 12) dL_isUndone_9 rfl W_X6_undo k_L_71 i_X6_undo v_X6_undo (by decide) (o_X6 v1.2 R) rfl rfl rfl (by decide) (Nat.le_of_ble_eq_true rfl) (c_X6_undo v1.2 R hv2) (Nat.le_refl _) (Nat.le_refl _) ?_
  rintro r9 h9 ⟨rfl, rfl⟩
  refine aw_iload (q := 14) dL_isUndone_12 rfl rfl ?_
  refine aw_iconst (q := 15) (v := 1) dL_isUndone_14 rfl (by decide) ?_
  refine aw_isub (q := 16) dL_isUndone_15 rfl ?_
  refine aw_icmp_neP (q := 19) (t := 58) dL_isUndone_16 rfl (by decide) (fun h3 => ?_) (fun h3 => ?_)
  · replace H := zt h3 H
    refine aw_aload_n (q := 20) dL_isUndone_19 rfl rfl ?_
    refine aw_bipush (q := 22) (v := 9) dL_isUndone_20 rfl (by decide) ?_
    obtain ⟨v4, hv4, H⟩ := zbd H
    refine aw_cv (M' := M_X6_count) (as := [.int 9]) (q := 25) dL_isUndone_22 rfl W_X6_count k_L_17 i_X6_count v_X6_count (by decide) (o_X6 v2.2 R) rfl rfl rfl (by decide) (Nat.le_of_ble_eq_true rfl) (c_X6_count v2.2 R 9 hv4) (Nat.le_refl _) (Nat.le_refl _) ?_
    rintro r9 h9 ⟨rfl, rfl⟩
    refine aw_iload (q := 27) dL_isUndone_25 rfl rfl ?_
    refine aw_iconst (q := 28) (v := 1) dL_isUndone_27 rfl (by decide) ?_
    refine aw_isub (q := 29) dL_isUndone_28 rfl ?_
    refine aw_icmp_neP (q := 32) (t := 58) dL_isUndone_29 rfl (by decide) (fun h5 => ?_) (fun h5 => ?_)
    · replace H := zt h5 H
      refine aw_aload_n (q := 33) dL_isUndone_32 rfl rfl ?_
      obtain ⟨v6, hv6, H⟩ := zbd H
      refine aw_cs (M' := M_L_view) (as := [.ref 0]) (q := 36) dL_isUndone_33 rfl W_L_view k_L_74 s_L_view rfl rfl (by decide) (Nat.le_of_ble_eq_true rfl) (c_L_view v4.2 R hv6) (Nat.le_refl _) (Nat.le_refl _) ?_
      rintro r9 h9 ⟨rfl, rfl⟩
      refine aw_lload (q := 38) dL_isUndone_36 rfl rfl ?_
      refine aw_lcmp (q := 39) dL_isUndone_38 rfl ?_
      refine aw_if_neP (q := 42) (t := 58) dL_isUndone_39 rfl (by decide) (fun h7 => ?_) (fun h7 => ?_)
      · replace H := zt h7 H
        refine aw_aload_n (q := 43) dL_isUndone_42 rfl rfl ?_
        refine aw_iload_n (q := 44) dL_isUndone_43 rfl rfl ?_
        refine aw_iload_n (q := 45) dL_isUndone_44 rfl rfl ?_
        refine aw_iload_n (q := 46) dL_isUndone_45 rfl rfl ?_
        obtain ⟨v8, hv8, H⟩ := zbd H
        refine aw_cs (M' := M_L_turn) (as := [.ref 0, .int x1, .int x2, .int x3]) (q := 49) dL_isUndone_46 rfl W_L_turn k_L_78 s_L_turn rfl rfl (by decide) (Nat.le_of_ble_eq_true rfl) (c_L_turn v6.2 R x1 x2 x3 hv8) (Nat.le_refl _) (Nat.le_refl _) ?_
        rintro r9 h9 ⟨rfl, rfl⟩
        refine aw_iload (q := 51) dL_isUndone_49 rfl rfl ?_
        refine aw_icmp_neP (q := 54) (t := 58) dL_isUndone_51 rfl (by decide) (fun h9 => ?_) (fun h9 => ?_)
        · replace H := zt h9 H
          refine aw_iconst (q := 55) (v := 1) dL_isUndone_54 rfl (by decide) ?_
          refine aw_goto (q := 59) dL_isUndone_55 (by decide) ?_
          cases H
          exact aw_ret dL_isUndone_59 rfl rfl rfl rfl ⟨rfl, rfl⟩
        · replace H := zf h9 H
          refine aw_iconst (q := 59) (v := 0) dL_isUndone_58 rfl (by decide) ?_
          cases H
          exact aw_ret dL_isUndone_59 rfl rfl rfl rfl ⟨rfl, rfl⟩
      · replace H := zf h7 H
        refine aw_iconst (q := 59) (v := 0) dL_isUndone_58 rfl (by decide) ?_
        cases H
        exact aw_ret dL_isUndone_59 rfl rfl rfl rfl ⟨rfl, rfl⟩
    · replace H := zf h5 H
      refine aw_iconst (q := 59) (v := 0) dL_isUndone_58 rfl (by decide) ?_
      cases H
      exact aw_ret dL_isUndone_59 rfl rfl rfl rfl ⟨rfl, rfl⟩
  · replace H := zf h3 H
    refine aw_iconst (q := 59) (v := 0) dL_isUndone_58 rfl (by decide) ?_
    cases H
    exact aw_ret dL_isUndone_59 rfl rfl rfl rfl ⟨rfl, rfl⟩
def f_L_areRight (s : zs) (x1 : Int32) (x2 : Int32) (x3 : Int32) (x4 : Int32) : Option (Bool × zs) :=
  zlt (f_X6_suspects s : Int32) fun y1 =>
  Option.bind (f_X6_count s 2) fun v3 =>
  zlt ((((1 : Int32) <<< (v3.1 &&& 31)) - 1) ||| 1024 : Int32) fun y4 =>
  if (y1 &&& (y4 ^^^ (-1))) = 0 then (
    if (0 : Int32) ≤ x4 then (
      if ((y1 >>> (x4 &&& 31)) &&& 1) = 0 then (
        some (false, v3.2)
      ) else (
        if x1 = 8 then (
          Option.bind (f_L_ones y4) fun v10 =>
          if x2 = v10 then (
            if y1 = y4 then (
              some (true, v3.2)
            ) else (
              some (false, v3.2)
            )
          ) else (
            some (false, v3.2)
          )
        ) else (
          if x1 = 9 then (
            Option.bind (f_L_ones y1) fun v14 =>
            if x2 = v14 then (
              if (y1 &&& (x3 ^^^ (-1))) = 0 then (
                some (true, v3.2)
              ) else (
                some (false, v3.2)
              )
            ) else (
              some (false, v3.2)
            )
          ) else (
            if x1 = 10 then (
              Option.bind (f_L_ones y1) fun v18 =>
              if x2 = v18 then (
                if (y1 &&& (x3 ^^^ (-1))) = 0 then (
                  some (true, v3.2)
                ) else (
                  some (false, v3.2)
                )
              ) else (
                some (false, v3.2)
              )
            ) else (
              if y1 = x3 then (
                some (true, v3.2)
              ) else (
                some (false, v3.2)
              )
            )
          )
        )
      )
    ) else (
      if ((y1 >>> (10 &&& 31)) &&& 1) = 0 then (
        some (false, v3.2)
      ) else (
        if x1 = 8 then (
          Option.bind (f_L_ones y4) fun v24 =>
          if x2 = v24 then (
            if y1 = y4 then (
              some (true, v3.2)
            ) else (
              some (false, v3.2)
            )
          ) else (
            some (false, v3.2)
          )
        ) else (
          if x1 = 9 then (
            Option.bind (f_L_ones y1) fun v28 =>
            if x2 = v28 then (
              if (y1 &&& (x3 ^^^ (-1))) = 0 then (
                some (true, v3.2)
              ) else (
                some (false, v3.2)
              )
            ) else (
              some (false, v3.2)
            )
          ) else (
            if x1 = 10 then (
              Option.bind (f_L_ones y1) fun v32 =>
              if x2 = v32 then (
                if (y1 &&& (x3 ^^^ (-1))) = 0 then (
                  some (true, v3.2)
                ) else (
                  some (false, v3.2)
                )
              ) else (
                some (false, v3.2)
              )
            ) else (
              if y1 = x3 then (
                some (true, v3.2)
              ) else (
                some (false, v3.2)
              )
            )
          )
        )
      )
    )
  ) else (
    some (false, v3.2)
  )
set_option maxHeartbeats 4000000 in
set_option maxRecDepth 100000 in
theorem c_L_areRight {G : zG} {sl : Nat} (s : zs) (R : zr) (x1 : Int32) (x2 : Int32) (x3 : Int32) (x4 : Int32) {v9 : (Bool × zs)} (H : f_L_areRight s x1 x2 x3 x4 = some v9) : zMv G 7 M_L_areRight [.ref 0, .int x1, .int x2, .int x3, .int x4] sl (zT s R) (fun r h' => r = some (.int (zb v9.1)) ∧ h' = zT v9.2 R) := by
  unfold f_L_areRight at H
  refine zMv_of (L := [some (.ref 0), some (.int x1), some (.int x2), some (.int x3), some (.int x4), none, none]) (by decide) rfl (Nat.le_of_ble_eq_true rfl) rfl ?_
  refine aw_aload_n (q := 1) dL_areRight_0 rfl rfl ?_
  refine aw_cv (M' := M_X6_suspects) (as := []) (q := 4) dL_areRight_1 rfl W_X6_suspects k_L_9 i_X6_suspects v_X6_suspects (by decide) (o_X6 s R) rfl rfl rfl (by decide) (Nat.le_of_ble_eq_true rfl) (c_X6_suspects s R) (Nat.le_refl _) (Nat.le_refl _) ?_
  rintro r9 h9 ⟨rfl, rfl⟩
  obtain ⟨y1, q2, H⟩ := zltd H
  refine aw_nm q2 ?_
  refine aw_istore (q := 6) (L' := [some (.ref 0), some (.int x1), some (.int x2), some (.int x3), some (.int x4), some (.int y1), none]) dL_areRight_4 rfl (by decide) rfl rfl ?_
  refine aw_iconst (q := 7) (v := 1) dL_areRight_6 rfl (by decide) ?_
  refine aw_aload_n (q := 8) dL_areRight_7 rfl rfl ?_
  refine aw_iconst (q := 9) (v := 2) dL_areRight_8 rfl (by decide) ?_
  obtain ⟨v3, hv3, H⟩ := zbd H
  refine aw_cv (M' := M_X6_count) (as := [.int 2]) (q := 12) dL_areRight_9 rfl W_X6_count k_L_17 i_X6_count v_X6_count (by decide) (o_X6 s R) rfl rfl rfl (by decide) (Nat.le_of_ble_eq_true rfl) (c_X6_count s R 2 hv3) (Nat.le_refl _) (Nat.le_refl _) ?_
  rintro r9 h9 ⟨rfl, rfl⟩
  refine aw_ishl (q := 13) dL_areRight_12 rfl ?_
  refine aw_iconst (q := 14) (v := 1) dL_areRight_13 rfl (by decide) ?_
  refine aw_isub (q := 15) dL_areRight_14 rfl ?_
  refine aw_sipush (q := 18) (v := 1024) dL_areRight_15 rfl (by decide) ?_
  refine aw_ior (q := 19) dL_areRight_18 rfl ?_
  obtain ⟨y4, q5, H⟩ := zltd H
  refine aw_nm q5 ?_
  refine aw_istore (q := 21) (L' := [some (.ref 0), some (.int x1), some (.int x2), some (.int x3), some (.int x4), some (.int y1), some (.int y4)]) dL_areRight_19 rfl (by decide) rfl rfl ?_
  refine aw_iload (q := 23) dL_areRight_21 rfl rfl ?_
  refine aw_iload (q := 25) dL_areRight_23 rfl rfl ?_
  refine aw_iconst (q := 26) (v := (-1)) dL_areRight_25 rfl (by decide) ?_
  refine aw_ixor (q := 27) dL_areRight_26 rfl ?_
  refine aw_iand (q := 28) dL_areRight_27 rfl ?_
  refine aw_if_neP (q := 31) (t := 51) dL_areRight_28 rfl (by decide) (fun h6 => ?_) (fun h6 => ?_)
  · replace H := zt h6 H
    refine aw_iload (q := 33) dL_areRight_31 rfl rfl ?_
    refine aw_iload (q := 35) dL_areRight_33 rfl rfl ?_
    refine aw_if_ge (q := 38) (t := 43) dL_areRight_35 rfl (by decide) (fun h7 => ?_) (fun h7 => ?_)
    · replace H := zt h7 H
      refine aw_iload (q := 45) dL_areRight_43 rfl rfl ?_
      refine aw_ishr (q := 46) dL_areRight_45 rfl ?_
      refine aw_iconst (q := 47) (v := 1) dL_areRight_46 rfl (by decide) ?_
      refine aw_iand (q := 48) dL_areRight_47 rfl ?_
      refine aw_if_neP (q := 51) (t := 53) dL_areRight_48 rfl (by decide) (fun h8 => ?_) (fun h8 => ?_)
      · replace H := zt h8 H
        refine aw_iconst (q := 52) (v := 0) dL_areRight_51 rfl (by decide) ?_
        cases H
        exact aw_ret dL_areRight_52 rfl rfl rfl rfl ⟨rfl, rfl⟩
      · replace H := zf h8 H
        refine aw_iload_n (q := 54) dL_areRight_53 rfl rfl ?_
        refine aw_bipush (q := 56) (v := 8) dL_areRight_54 rfl (by decide) ?_
        refine aw_icmp_neP (q := 59) (t := 81) dL_areRight_56 rfl (by decide) (fun h9 => ?_) (fun h9 => ?_)
        · replace H := zt h9 H
          refine aw_iload_n (q := 60) dL_areRight_59 rfl rfl ?_
          refine aw_iload (q := 62) dL_areRight_60 rfl rfl ?_
          obtain ⟨v10, hv10, H⟩ := zbd H
          refine aw_cs (M' := M_L_ones) (as := [.int y4]) (q := 65) dL_areRight_62 rfl W_L_ones k_L_82 s_L_ones rfl rfl (by decide) (Nat.le_of_ble_eq_true rfl) (c_L_ones (zT v3.2 R) y4 hv10) (Nat.le_refl _) (Nat.le_refl _) ?_
          rintro r9 h9 ⟨rfl, rfl⟩
          refine aw_icmp_neP (q := 68) (t := 79) dL_areRight_65 rfl (by decide) (fun h11 => ?_) (fun h11 => ?_)
          · replace H := zt h11 H
            refine aw_iload (q := 70) dL_areRight_68 rfl rfl ?_
            refine aw_iload (q := 72) dL_areRight_70 rfl rfl ?_
            refine aw_icmp_neP (q := 75) (t := 79) dL_areRight_72 rfl (by decide) (fun h12 => ?_) (fun h12 => ?_)
            · replace H := zt h12 H
              refine aw_iconst (q := 76) (v := 1) dL_areRight_75 rfl (by decide) ?_
              refine aw_goto (q := 80) dL_areRight_76 (by decide) ?_
              cases H
              exact aw_ret dL_areRight_80 rfl rfl rfl rfl ⟨rfl, rfl⟩
            · replace H := zf h12 H
              refine aw_iconst (q := 80) (v := 0) dL_areRight_79 rfl (by decide) ?_
              cases H
              exact aw_ret dL_areRight_80 rfl rfl rfl rfl ⟨rfl, rfl⟩
          · replace H := zf h11 H
            refine aw_iconst (q := 80) (v := 0) dL_areRight_79 rfl (by decide) ?_
            cases H
            exact aw_ret dL_areRight_80 rfl rfl rfl rfl ⟨rfl, rfl⟩
        · replace H := zf h9 H
          refine aw_iload_n (q := 82) dL_areRight_81 rfl rfl ?_
          refine aw_bipush (q := 84) (v := 9) dL_areRight_82 rfl (by decide) ?_
          refine aw_icmp_eq (q := 87) (t := 105) dL_areRight_84 rfl (by decide) (fun h13 => ?_) (fun h13 => ?_)
          · replace H := zt h13 H
            refine aw_iload_n (q := 106) dL_areRight_105 rfl rfl ?_
            refine aw_iload (q := 108) dL_areRight_106 rfl rfl ?_
            obtain ⟨v14, hv14, H⟩ := zbd H
            refine aw_cs (M' := M_L_ones) (as := [.int y1]) (q := 111) dL_areRight_108 rfl W_L_ones k_L_82 s_L_ones rfl rfl (by decide) (Nat.le_of_ble_eq_true rfl) (c_L_ones (zT v3.2 R) y1 hv14) (Nat.le_refl _) (Nat.le_refl _) ?_
            rintro r9 h9 ⟨rfl, rfl⟩
            refine aw_icmp_neP (q := 114) (t := 127) dL_areRight_111 rfl (by decide) (fun h15 => ?_) (fun h15 => ?_)
            · replace H := zt h15 H
              refine aw_iload (q := 116) dL_areRight_114 rfl rfl ?_
              refine aw_iload_n (q := 117) dL_areRight_116 rfl rfl ?_
              refine aw_iconst (q := 118) (v := (-1)) dL_areRight_117 rfl (by decide) ?_
              refine aw_ixor (q := 119) dL_areRight_118 rfl ?_
              refine aw_iand (q := 120) dL_areRight_119 rfl ?_
              refine aw_if_neP (q := 123) (t := 127) dL_areRight_120 rfl (by decide) (fun h16 => ?_) (fun h16 => ?_)
              · replace H := zt h16 H
                refine aw_iconst (q := 124) (v := 1) dL_areRight_123 rfl (by decide) ?_
                refine aw_goto (q := 128) dL_areRight_124 (by decide) ?_
                cases H
                exact aw_ret dL_areRight_128 rfl rfl rfl rfl ⟨rfl, rfl⟩
              · replace H := zf h16 H
                refine aw_iconst (q := 128) (v := 0) dL_areRight_127 rfl (by decide) ?_
                cases H
                exact aw_ret dL_areRight_128 rfl rfl rfl rfl ⟨rfl, rfl⟩
            · replace H := zf h15 H
              refine aw_iconst (q := 128) (v := 0) dL_areRight_127 rfl (by decide) ?_
              cases H
              exact aw_ret dL_areRight_128 rfl rfl rfl rfl ⟨rfl, rfl⟩
          · replace H := zf h13 H
            refine aw_iload_n (q := 88) dL_areRight_87 rfl rfl ?_
            refine aw_bipush (q := 90) (v := 10) dL_areRight_88 rfl (by decide) ?_
            refine aw_icmp_eq (q := 93) (t := 105) dL_areRight_90 rfl (by decide) (fun h17 => ?_) (fun h17 => ?_)
            · replace H := zt h17 H
              refine aw_iload_n (q := 106) dL_areRight_105 rfl rfl ?_
              refine aw_iload (q := 108) dL_areRight_106 rfl rfl ?_
              obtain ⟨v18, hv18, H⟩ := zbd H
              refine aw_cs (M' := M_L_ones) (as := [.int y1]) (q := 111) dL_areRight_108 rfl W_L_ones k_L_82 s_L_ones rfl rfl (by decide) (Nat.le_of_ble_eq_true rfl) (c_L_ones (zT v3.2 R) y1 hv18) (Nat.le_refl _) (Nat.le_refl _) ?_
              rintro r9 h9 ⟨rfl, rfl⟩
              refine aw_icmp_neP (q := 114) (t := 127) dL_areRight_111 rfl (by decide) (fun h19 => ?_) (fun h19 => ?_)
              · replace H := zt h19 H
                refine aw_iload (q := 116) dL_areRight_114 rfl rfl ?_
                refine aw_iload_n (q := 117) dL_areRight_116 rfl rfl ?_
                refine aw_iconst (q := 118) (v := (-1)) dL_areRight_117 rfl (by decide) ?_
                refine aw_ixor (q := 119) dL_areRight_118 rfl ?_
                refine aw_iand (q := 120) dL_areRight_119 rfl ?_
                refine aw_if_neP (q := 123) (t := 127) dL_areRight_120 rfl (by decide) (fun h20 => ?_) (fun h20 => ?_)
                · replace H := zt h20 H
                  refine aw_iconst (q := 124) (v := 1) dL_areRight_123 rfl (by decide) ?_
                  refine aw_goto (q := 128) dL_areRight_124 (by decide) ?_
                  cases H
                  exact aw_ret dL_areRight_128 rfl rfl rfl rfl ⟨rfl, rfl⟩
                · replace H := zf h20 H
                  refine aw_iconst (q := 128) (v := 0) dL_areRight_127 rfl (by decide) ?_
                  cases H
                  exact aw_ret dL_areRight_128 rfl rfl rfl rfl ⟨rfl, rfl⟩
              · replace H := zf h19 H
                refine aw_iconst (q := 128) (v := 0) dL_areRight_127 rfl (by decide) ?_
                cases H
                exact aw_ret dL_areRight_128 rfl rfl rfl rfl ⟨rfl, rfl⟩
            · replace H := zf h17 H
              refine aw_iload (q := 95) dL_areRight_93 rfl rfl ?_
              refine aw_iload_n (q := 96) dL_areRight_95 rfl rfl ?_
              refine aw_icmp_neP (q := 99) (t := 103) dL_areRight_96 rfl (by decide) (fun h21 => ?_) (fun h21 => ?_)
              · replace H := zt h21 H
                refine aw_iconst (q := 100) (v := 1) dL_areRight_99 rfl (by decide) ?_
                refine aw_goto (q := 104) dL_areRight_100 (by decide) ?_
                cases H
                exact aw_ret dL_areRight_104 rfl rfl rfl rfl ⟨rfl, rfl⟩
              · replace H := zf h21 H
                refine aw_iconst (q := 104) (v := 0) dL_areRight_103 rfl (by decide) ?_
                cases H
                exact aw_ret dL_areRight_104 rfl rfl rfl rfl ⟨rfl, rfl⟩
    · replace H := zf h7 H
      refine aw_bipush (q := 40) (v := 10) dL_areRight_38 rfl (by decide) ?_
      refine aw_goto (q := 45) dL_areRight_40 (by decide) ?_
      refine aw_ishr (q := 46) dL_areRight_45 rfl ?_
      refine aw_iconst (q := 47) (v := 1) dL_areRight_46 rfl (by decide) ?_
      refine aw_iand (q := 48) dL_areRight_47 rfl ?_
      refine aw_if_neP (q := 51) (t := 53) dL_areRight_48 rfl (by decide) (fun h22 => ?_) (fun h22 => ?_)
      · replace H := zt h22 H
        refine aw_iconst (q := 52) (v := 0) dL_areRight_51 rfl (by decide) ?_
        cases H
        exact aw_ret dL_areRight_52 rfl rfl rfl rfl ⟨rfl, rfl⟩
      · replace H := zf h22 H
        refine aw_iload_n (q := 54) dL_areRight_53 rfl rfl ?_
        refine aw_bipush (q := 56) (v := 8) dL_areRight_54 rfl (by decide) ?_
        refine aw_icmp_neP (q := 59) (t := 81) dL_areRight_56 rfl (by decide) (fun h23 => ?_) (fun h23 => ?_)
        · replace H := zt h23 H
          refine aw_iload_n (q := 60) dL_areRight_59 rfl rfl ?_
          refine aw_iload (q := 62) dL_areRight_60 rfl rfl ?_
          obtain ⟨v24, hv24, H⟩ := zbd H
          refine aw_cs (M' := M_L_ones) (as := [.int y4]) (q := 65) dL_areRight_62 rfl W_L_ones k_L_82 s_L_ones rfl rfl (by decide) (Nat.le_of_ble_eq_true rfl) (c_L_ones (zT v3.2 R) y4 hv24) (Nat.le_refl _) (Nat.le_refl _) ?_
          rintro r9 h9 ⟨rfl, rfl⟩
          refine aw_icmp_neP (q := 68) (t := 79) dL_areRight_65 rfl (by decide) (fun h25 => ?_) (fun h25 => ?_)
          · replace H := zt h25 H
            refine aw_iload (q := 70) dL_areRight_68 rfl rfl ?_
            refine aw_iload (q := 72) dL_areRight_70 rfl rfl ?_
            refine aw_icmp_neP (q := 75) (t := 79) dL_areRight_72 rfl (by decide) (fun h26 => ?_) (fun h26 => ?_)
            · replace H := zt h26 H
              refine aw_iconst (q := 76) (v := 1) dL_areRight_75 rfl (by decide) ?_
              refine aw_goto (q := 80) dL_areRight_76 (by decide) ?_
              cases H
              exact aw_ret dL_areRight_80 rfl rfl rfl rfl ⟨rfl, rfl⟩
            · replace H := zf h26 H
              refine aw_iconst (q := 80) (v := 0) dL_areRight_79 rfl (by decide) ?_
              cases H
              exact aw_ret dL_areRight_80 rfl rfl rfl rfl ⟨rfl, rfl⟩
          · replace H := zf h25 H
            refine aw_iconst (q := 80) (v := 0) dL_areRight_79 rfl (by decide) ?_
            cases H
            exact aw_ret dL_areRight_80 rfl rfl rfl rfl ⟨rfl, rfl⟩
        · replace H := zf h23 H
          refine aw_iload_n (q := 82) dL_areRight_81 rfl rfl ?_
          refine aw_bipush (q := 84) (v := 9) dL_areRight_82 rfl (by decide) ?_
          refine aw_icmp_eq (q := 87) (t := 105) dL_areRight_84 rfl (by decide) (fun h27 => ?_) (fun h27 => ?_)
          · replace H := zt h27 H
            refine aw_iload_n (q := 106) dL_areRight_105 rfl rfl ?_
            refine aw_iload (q := 108) dL_areRight_106 rfl rfl ?_
            obtain ⟨v28, hv28, H⟩ := zbd H
            refine aw_cs (M' := M_L_ones) (as := [.int y1]) (q := 111) dL_areRight_108 rfl W_L_ones k_L_82 s_L_ones rfl rfl (by decide) (Nat.le_of_ble_eq_true rfl) (c_L_ones (zT v3.2 R) y1 hv28) (Nat.le_refl _) (Nat.le_refl _) ?_
            rintro r9 h9 ⟨rfl, rfl⟩
            refine aw_icmp_neP (q := 114) (t := 127) dL_areRight_111 rfl (by decide) (fun h29 => ?_) (fun h29 => ?_)
            · replace H := zt h29 H
              refine aw_iload (q := 116) dL_areRight_114 rfl rfl ?_
              refine aw_iload_n (q := 117) dL_areRight_116 rfl rfl ?_
              refine aw_iconst (q := 118) (v := (-1)) dL_areRight_117 rfl (by decide) ?_
              refine aw_ixor (q := 119) dL_areRight_118 rfl ?_
              refine aw_iand (q := 120) dL_areRight_119 rfl ?_
              refine aw_if_neP (q := 123) (t := 127) dL_areRight_120 rfl (by decide) (fun h30 => ?_) (fun h30 => ?_)
              · replace H := zt h30 H
                refine aw_iconst (q := 124) (v := 1) dL_areRight_123 rfl (by decide) ?_
                refine aw_goto (q := 128) dL_areRight_124 (by decide) ?_
                cases H
                exact aw_ret dL_areRight_128 rfl rfl rfl rfl ⟨rfl, rfl⟩
              · replace H := zf h30 H
                refine aw_iconst (q := 128) (v := 0) dL_areRight_127 rfl (by decide) ?_
                cases H
                exact aw_ret dL_areRight_128 rfl rfl rfl rfl ⟨rfl, rfl⟩
            · replace H := zf h29 H
              refine aw_iconst (q := 128) (v := 0) dL_areRight_127 rfl (by decide) ?_
              cases H
              exact aw_ret dL_areRight_128 rfl rfl rfl rfl ⟨rfl, rfl⟩
          · replace H := zf h27 H
            refine aw_iload_n (q := 88) dL_areRight_87 rfl rfl ?_
            refine aw_bipush (q := 90) (v := 10) dL_areRight_88 rfl (by decide) ?_
            refine aw_icmp_eq (q := 93) (t := 105) dL_areRight_90 rfl (by decide) (fun h31 => ?_) (fun h31 => ?_)
            · replace H := zt h31 H
              refine aw_iload_n (q := 106) dL_areRight_105 rfl rfl ?_
              refine aw_iload (q := 108) dL_areRight_106 rfl rfl ?_
              obtain ⟨v32, hv32, H⟩ := zbd H
              refine aw_cs (M' := M_L_ones) (as := [.int y1]) (q := 111) dL_areRight_108 rfl W_L_ones k_L_82 s_L_ones rfl rfl (by decide) (Nat.le_of_ble_eq_true rfl) (c_L_ones (zT v3.2 R) y1 hv32) (Nat.le_refl _) (Nat.le_refl _) ?_
              rintro r9 h9 ⟨rfl, rfl⟩
              refine aw_icmp_neP (q := 114) (t := 127) dL_areRight_111 rfl (by decide) (fun h33 => ?_) (fun h33 => ?_)
              · replace H := zt h33 H
                refine aw_iload (q := 116) dL_areRight_114 rfl rfl ?_
                refine aw_iload_n (q := 117) dL_areRight_116 rfl rfl ?_
                refine aw_iconst (q := 118) (v := (-1)) dL_areRight_117 rfl (by decide) ?_
                refine aw_ixor (q := 119) dL_areRight_118 rfl ?_
                refine aw_iand (q := 120) dL_areRight_119 rfl ?_
                refine aw_if_neP (q := 123) (t := 127) dL_areRight_120 rfl (by decide) (fun h34 => ?_) (fun h34 => ?_)
                · replace H := zt h34 H
                  refine aw_iconst (q := 124) (v := 1) dL_areRight_123 rfl (by decide) ?_
                  refine aw_goto (q := 128) dL_areRight_124 (by decide) ?_
                  cases H
                  exact aw_ret dL_areRight_128 rfl rfl rfl rfl ⟨rfl, rfl⟩
                · replace H := zf h34 H
                  refine aw_iconst (q := 128) (v := 0) dL_areRight_127 rfl (by decide) ?_
                  cases H
                  exact aw_ret dL_areRight_128 rfl rfl rfl rfl ⟨rfl, rfl⟩
              · replace H := zf h33 H
                refine aw_iconst (q := 128) (v := 0) dL_areRight_127 rfl (by decide) ?_
                cases H
                exact aw_ret dL_areRight_128 rfl rfl rfl rfl ⟨rfl, rfl⟩
            · replace H := zf h31 H
              refine aw_iload (q := 95) dL_areRight_93 rfl rfl ?_
              refine aw_iload_n (q := 96) dL_areRight_95 rfl rfl ?_
              refine aw_icmp_neP (q := 99) (t := 103) dL_areRight_96 rfl (by decide) (fun h35 => ?_) (fun h35 => ?_)
              · replace H := zt h35 H
                refine aw_iconst (q := 100) (v := 1) dL_areRight_99 rfl (by decide) ?_
                refine aw_goto (q := 104) dL_areRight_100 (by decide) ?_
                cases H
                exact aw_ret dL_areRight_104 rfl rfl rfl rfl ⟨rfl, rfl⟩
              · replace H := zf h35 H
                refine aw_iconst (q := 104) (v := 0) dL_areRight_103 rfl (by decide) ?_
                cases H
                exact aw_ret dL_areRight_104 rfl rfl rfl rfl ⟨rfl, rfl⟩
  · replace H := zf h6 H
    refine aw_iconst (q := 52) (v := 0) dL_areRight_51 rfl (by decide) ?_
    cases H
    exact aw_ret dL_areRight_52 rfl rfl rfl rfl ⟨rfl, rfl⟩
