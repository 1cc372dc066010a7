def f_X7_fault (s : zr) (x1 : Int32) (x2 : Int32) (x3 : Int32) : Option (Int32 × zr) :=
  Option.bind (f_X7_checksFault s x1 x2 x3) fun v1 =>
  if v1 = 0 then (
    Option.bind (f_X7_records s) fun v3 =>
    Option.bind (f_X7_addsFault v3 x1 x2 x3) fun v4 =>
    some (v4.1, v4.2)
  ) else (
    some (v1, s)
  )
set_option maxHeartbeats 4000000 in
set_option maxRecDepth 100000 in
theorem c_X7_fault {G : zG} {sl : Nat} (sg : zs) (s : zr) (x1 : Int32) (x2 : Int32) (x3 : Int32) {v9 : (Int32 × zr)} (H : f_X7_fault s x1 x2 x3 = some v9) : zMv G 2 M_X7_fault [.ref 120, .int x1, .int x2, .int x3] sl (zT sg s) (fun r h' => r = some (.int v9.1) ∧ h' = zT sg v9.2) := by
  unfold f_X7_fault at H
  refine zMv_of (L := [some (.ref 120), some (.int x1), some (.int x2), some (.int x3), none]) (by decide) rfl (Nat.le_of_ble_eq_true rfl) rfl ?_
  refine aw_aload_n (q := 1) dX7_fault_0 rfl rfl ?_
  refine aw_iload_n (q := 2) dX7_fault_1 rfl rfl ?_
  refine aw_iload_n (q := 3) dX7_fault_2 rfl rfl ?_
  refine aw_iload_n (q := 4) dX7_fault_3 rfl rfl ?_
  obtain ⟨v1, hv1, H⟩ := zbd H
  refine aw_cv (M' := M_X7_checksFault) (as := [.int x1, .int x2, .int x3]) (q := 7) dX7_fault_4 rfl W_X7_checksFault k_X7_80 i_X7_checksFault v_X7_checksFault (by decide) (o_X7 sg s) rfl rfl rfl (by decide) (Nat.le_of_ble_eq_true rfl) (c_X7_checksFault sg s x1 x2 x3 hv1) (Nat.le_refl _) (Nat.le_refl _) ?_
  rintro r9 h9 ⟨rfl, rfl⟩
  refine aw_istore (q := 9) (L' := [some (.ref 120), some (.int x1), some (.int x2), some (.int x3), some (.int v1)]) dX7_fault_7 rfl (by decide) rfl rfl ?_
  refine aw_iload (q := 11) dX7_fault_9 rfl rfl ?_
  refine aw_if_eq (q := 14) (t := 17) dX7_fault_11 rfl (by decide) (fun h2 => ?_) (fun h2 => ?_)
  · replace H := zt h2 H
    refine aw_aload_n (q := 18) dX7_fault_17 rfl rfl ?_
    obtain ⟨v3, hv3, H⟩ := zbd H
    refine aw_cv (M' := M_X7_records) (as := []) (q := 21) dX7_fault_18 rfl W_X7_records k_X7_61 i_X7_records v_X7_records (by decide) (o_X7 sg s) rfl rfl rfl (by decide) (Nat.le_of_ble_eq_true rfl) (c_X7_records sg s hv3) (Nat.le_refl _) (Nat.le_refl _) ?_
    rintro r9 h9 ⟨rfl, rfl⟩
    refine aw_aload_n (q := 22) dX7_fault_21 rfl rfl ?_
    refine aw_iload_n (q := 23) dX7_fault_22 rfl rfl ?_
    refine aw_iload_n (q := 24) dX7_fault_23 rfl rfl ?_
    refine aw_iload_n (q := 25) dX7_fault_24 rfl rfl ?_
    obtain ⟨v4, hv4, H⟩ := zbd H
    refine aw_cv (M' := M_X7_addsFault) (as := [.int x1, .int x2, .int x3]) (q := 28) dX7_fault_25 rfl W_X7_addsFault k_X7_83 i_X7_addsFault v_X7_addsFault (by decide) (o_X7 sg v3) rfl rfl rfl (by decide) (Nat.le_of_ble_eq_true rfl) (c_X7_addsFault sg v3 x1 x2 x3 hv4) (Nat.le_refl _) (Nat.le_refl _) ?_
    rintro r9 h9 ⟨rfl, rfl⟩
    cases H
    exact aw_ret dX7_fault_28 rfl rfl rfl rfl ⟨rfl, rfl⟩
  · replace H := zf h2 H
    refine aw_iload (q := 16) dX7_fault_14 rfl rfl ?_
    cases H
    exact aw_ret dX7_fault_16 rfl rfl rfl rfl ⟨rfl, rfl⟩
def f_X7_bless (s : zr) (x1 : Int32) (x2 : Int32) : Option (Int32 × zr) :=
  if f_X7_isIn x1 0 15 = true then (
    if f_X7_isIn x2 0 127 = true then (
      Option.bind (f_X7_records s) fun v3 =>
      if zin ((72 : Int32) + x1) 88 = true then
      zlt (v3 1 (((72 : Int32) + x1).toNatClampNeg) : Int32) fun y5 =>
      zlt (zm v3 1 (((72 : Int32) + x1).toNatClampNeg) x2) fun s7 =>
      some (y5, s7)
      else none
    ) else (
      some ((-1000001), s)
    )
  ) else (
    some ((-1000001), s)
  )
set_option maxHeartbeats 4000000 in
set_option maxRecDepth 100000 in
theorem c_X7_bless {G : zG} {sl : Nat} (sg : zs) (s : zr) (x1 : Int32) (x2 : Int32) {v9 : (Int32 × zr)} (H : f_X7_bless s x1 x2 = some v9) : zMv G 1 M_X7_bless [.ref 120, .int x1, .int x2] sl (zT sg s) (fun r h' => r = some (.int v9.1) ∧ h' = zT sg v9.2) := by
  unfold f_X7_bless at H
  refine zMv_of (L := [some (.ref 120), some (.int x1), some (.int x2), none]) (by decide) rfl (Nat.le_of_ble_eq_true rfl) rfl ?_
  refine aw_iload_n (q := 1) dX7_bless_0 rfl rfl ?_
  refine aw_iconst (q := 2) (v := 0) dX7_bless_1 rfl (by decide) ?_
  refine aw_bipush (q := 4) (v := 15) dX7_bless_2 rfl (by decide) ?_
  refine aw_cs (M' := M_X7_isIn) (as := [.int x1, .int 0, .int 15]) (q := 7) dX7_bless_4 rfl W_X7_isIn k_X7_45 s_X7_isIn rfl rfl (by decide) (Nat.le_of_ble_eq_true rfl) (c_X7_isIn (zT sg s) x1 0 15) (Nat.le_refl _) (Nat.le_refl _) ?_
  rintro r9 h9 ⟨rfl, rfl⟩
  refine aw_ifeqB (q := 10) (t := 20) dX7_bless_7 rfl (by decide) (fun h1 => ?_) (fun h1 => ?_)
  · replace H := zt h1 H
    refine aw_iload_n (q := 11) dX7_bless_10 rfl rfl ?_
    refine aw_iconst (q := 12) (v := 0) dX7_bless_11 rfl (by decide) ?_
    refine aw_bipush (q := 14) (v := 127) dX7_bless_12 rfl (by decide) ?_
    refine aw_cs (M' := M_X7_isIn) (as := [.int x2, .int 0, .int 127]) (q := 17) dX7_bless_14 rfl W_X7_isIn k_X7_45 s_X7_isIn rfl rfl (by decide) (Nat.le_of_ble_eq_true rfl) (c_X7_isIn (zT sg s) x2 0 127) (Nat.le_refl _) (Nat.le_refl _) ?_
    rintro r9 h9 ⟨rfl, rfl⟩
    refine aw_ifneB (q := 20) (t := 23) dX7_bless_17 rfl (by decide) (fun h2 => ?_) (fun h2 => ?_)
    · replace H := zt h2 H
      refine aw_aload_n (q := 24) dX7_bless_23 rfl rfl ?_
      obtain ⟨v3, hv3, H⟩ := zbd H
      refine aw_cv (M' := M_X7_records) (as := []) (q := 27) dX7_bless_24 rfl W_X7_records k_X7_61 i_X7_records v_X7_records (by decide) (o_X7 sg s) rfl rfl rfl (by decide) (Nat.le_of_ble_eq_true rfl) (c_X7_records sg s hv3) (Nat.le_refl _) (Nat.le_refl _) ?_
      rintro r9 h9 ⟨rfl, rfl⟩
      refine aw_aload_n (q := 28) dX7_bless_27 rfl rfl ?_
      refine aw_getr (q := 31) dX7_bless_28 rfl e_X7_7 (by decide) (o_X7 sg v3) rfl ?_
      refine aw_bipush (q := 33) (v := 72) dX7_bless_31 rfl (by decide) ?_
      refine aw_iload_n (q := 34) dX7_bless_33 rfl rfl ?_
      refine aw_iadd (q := 35) dX7_bless_34 rfl ?_
      obtain ⟨h4, H⟩ := zio H
      refine aw_iald' (q := 36) (v := v3 1 (((72 : Int32) + x1).toNatClampNeg)) dX7_bless_35 rfl (by decide) (o_X7a0 sg v3) (zin_in h4) rfl ?_
      obtain ⟨y5, q6, H⟩ := zltd H
      refine aw_nm q6 ?_
      refine aw_istore_n (q := 37) (L' := [some (.ref 120), some (.int x1), some (.int x2), some (.int y5)]) dX7_bless_36 rfl (by decide) rfl rfl ?_
      refine aw_aload_n (q := 38) dX7_bless_37 rfl rfl ?_
      refine aw_getr (q := 41) dX7_bless_38 rfl e_X7_7 (by decide) (o_X7 sg v3) rfl ?_
      refine aw_bipush (q := 43) (v := 72) dX7_bless_41 rfl (by decide) ?_
      refine aw_iload_n (q := 44) dX7_bless_43 rfl rfl ?_
      refine aw_iadd (q := 45) dX7_bless_44 rfl ?_
      refine aw_iload_n (q := 46) dX7_bless_45 rfl rfl ?_
      obtain ⟨s7, q8, H⟩ := zltd H
      refine aw_iast (q := 47) dX7_bless_46 rfl (by decide) (o_X7a0 sg v3) (zin_in h4) ((p_X7a0).trans (congrArg (fun z => zT sg z) q8.symm)) ?_
      refine aw_iload_n (q := 48) dX7_bless_47 rfl rfl ?_
      cases H
      exact aw_ret dX7_bless_48 rfl rfl rfl rfl ⟨rfl, rfl⟩
    · replace H := zf h2 H
      refine aw_ldc (q := 22) dX7_bless_20 rfl q_X7_53 ?_
      cases H
      exact aw_ret dX7_bless_22 rfl rfl rfl rfl ⟨rfl, rfl⟩
  · replace H := zf h1 H
    refine aw_ldc (q := 22) dX7_bless_20 rfl q_X7_53 ?_
    cases H
    exact aw_ret dX7_bless_22 rfl rfl rfl rfl ⟨rfl, rfl⟩
def f_X7_weekday (s : zr) : Int32 :=
  (s 1 3) - (s 1 3) / 7 * 7
set_option maxHeartbeats 4000000 in
set_option maxRecDepth 100000 in
theorem c_X7_weekday {G : zG} {sl : Nat} (sg : zs) (s : zr)   : zMv G 0 M_X7_weekday [.ref 120] sl (zT sg s) (fun r h' => r = some (.int (f_X7_weekday s)) ∧ h' = (zT sg s)) := by
  generalize H : f_X7_weekday s = r0
  unfold f_X7_weekday at H
  refine zMv_of (L := [some (.ref 120)]) (by decide) rfl (Nat.le_of_ble_eq_true rfl) rfl ?_
  refine aw_aload_n (q := 1) dX7_weekday_0 rfl rfl ?_
  refine aw_getr (q := 4) dX7_weekday_1 rfl e_X7_7 (by decide) (o_X7 sg s) rfl ?_
  refine aw_iconst (q := 5) (v := 3) dX7_weekday_4 rfl (by decide) ?_
  refine aw_iald' (q := 6) (v := s 1 3) dX7_weekday_5 rfl (by decide) (o_X7a0 sg s) (zin_in (by decide)) rfl ?_
  refine aw_bipush (q := 8) (v := 7) dX7_weekday_6 rfl (by decide) ?_
  refine aw_irem (q := 9) dX7_weekday_8 rfl (by decide) ?_
  subst H
  exact aw_ret dX7_weekday_9 rfl rfl rfl rfl ⟨rfl, rfl⟩
def f_X7_touchedOn_4 : Nat → zr → Int32 → Int32 → Int32 → Option (Int32)
  | 0, _, _, _, _ => none
  | k + 1, s, x1, x2, x3 =>
    if (16 : Int32) ≤ x3 then (
      some x2
    ) else (
      if zin ((72 : Int32) + x3) 88 = true then
      if f_X7_has (s 1 (((72 : Int32) + x3).toNatClampNeg)) x1 = true then (
        zlt (x2 ||| ((1 : Int32) <<< (x3 &&& 31)) : Int32) fun y4 =>
        f_X7_touchedOn_4 k s x1 y4 (x3 + 1)
      ) else (
        zlt (x2 ||| 0 : Int32) fun y6 =>
        f_X7_touchedOn_4 k s x1 y6 (x3 + 1)
      )
      else none
    )
set_option maxHeartbeats 4000000 in
set_option maxRecDepth 100000 in
theorem L_X7_touchedOn_4 {G : zG} {sl : Nat} {P : Option Value → zH → Prop} (sg : zs) (x1 : Int32) : ∀ (k : Nat) (s : zr) (x2 : Int32) (x3 : Int32) (e : Int32), f_X7_touchedOn_4 k s x1 x2 x3 = some e → (AV G M_X7_touchedOn 1 sl P 42 [none, none, some (.int e), none] [] (zT sg s)) → AV G M_X7_touchedOn 1 sl P 4 [some (.ref 120), some (.int x1), some (.int x2), some (.int x3)] [] (zT sg s) := by
  intro k
  induction k with
  | zero =>
    intro s x2 x3 e H
    unfold f_X7_touchedOn_4 at H
    cases H
  | succ k ih =>
    intro s x2 x3 e H KE
    unfold f_X7_touchedOn_4 at H
    refine aw_iload_n (q := 5) dX7_touchedOn_4 rfl rfl ?_
    refine aw_bipush (q := 7) (v := 16) dX7_touchedOn_5 rfl (by decide) ?_
    refine aw_icmp_ge (q := 10) (t := 42) dX7_touchedOn_7 rfl (by decide) (fun h1 => ?_) (fun h1 => ?_)
    · replace H := zt h1 H
      cases H
      exact aw_fewer (L' := [none, none, some (.int x2), none]) ⟨rfl, trivial⟩ KE
    · replace H := zf h1 H
      refine aw_iload_n (q := 11) dX7_touchedOn_10 rfl rfl ?_
      refine aw_aload_n (q := 12) dX7_touchedOn_11 rfl rfl ?_
      refine aw_getr (q := 15) dX7_touchedOn_12 rfl e_X7_7 (by decide) (o_X7 sg s) rfl ?_
      refine aw_bipush (q := 17) (v := 72) dX7_touchedOn_15 rfl (by decide) ?_
      refine aw_iload_n (q := 18) dX7_touchedOn_17 rfl rfl ?_
      refine aw_iadd (q := 19) dX7_touchedOn_18 rfl ?_
      obtain ⟨h2, H⟩ := zio H
      refine aw_iald' (q := 20) (v := s 1 (((72 : Int32) + x3).toNatClampNeg)) dX7_touchedOn_19 rfl (by decide) (o_X7a0 sg s) (zin_in h2) rfl ?_
      refine aw_iload_n (q := 21) dX7_touchedOn_20 rfl rfl ?_
      refine aw_cs (M' := M_X7_has) (as := [.int (s 1 (((72 : Int32) + x3).toNatClampNeg)), .int x1]) (q := 24) dX7_touchedOn_21 rfl W_X7_has k_X7_36 s_X7_has rfl rfl (by decide) (Nat.le_of_ble_eq_true rfl) (c_X7_has (zT sg s) (s 1 (((72 : Int32) + x3).toNatClampNeg)) x1) (Nat.le_refl _) (Nat.le_refl _) ?_
      rintro r9 h9 ⟨rfl, rfl⟩
      refine aw_ifeqB (q := 27) (t := 33) dX7_touchedOn_24 rfl (by decide) (fun h3 => ?_) (fun h3 => ?_)
      · replace H := zt h3 H
        refine aw_iconst (q := 28) (v := 1) dX7_touchedOn_27 rfl (by decide) ?_
        refine aw_iload_n (q := 29) dX7_touchedOn_28 rfl rfl ?_
        refine aw_ishl (q := 30) dX7_touchedOn_29 rfl ?_
        refine aw_goto (q := 34) dX7_touchedOn_30 (by decide) ?_
        refine aw_ior (q := 35) dX7_touchedOn_34 rfl ?_
        obtain ⟨y4, q5, H⟩ := zltd H
        refine aw_nm q5 ?_
        refine aw_istore_n (q := 36) (L' := [some (.ref 120), some (.int x1), some (.int y4), some (.int x3)]) dX7_touchedOn_35 rfl (by decide) rfl rfl ?_
        refine aw_iinc (q := 39) (v := x3 + 1) (L' := [some (.ref 120), some (.int x1), some (.int y4), some (.int (x3 + 1))]) dX7_touchedOn_36 rfl rfl (by first | rfl | decide) (by decide) rfl rfl ?_
        refine aw_goto (q := 4) dX7_touchedOn_39 (by decide) ?_
        exact aw_fewer (L' := [some (.ref 120), some (.int x1), some (.int y4), some (.int (x3 + 1))]) ⟨rfl, ⟨rfl, ⟨rfl, ⟨rfl, trivial⟩⟩⟩⟩ (ih s y4 (x3 + 1) _ H KE)
      · replace H := zf h3 H
        refine aw_iconst (q := 34) (v := 0) dX7_touchedOn_33 rfl (by decide) ?_
        refine aw_ior (q := 35) dX7_touchedOn_34 rfl ?_
        obtain ⟨y6, q7, H⟩ := zltd H
        refine aw_nm q7 ?_
        refine aw_istore_n (q := 36) (L' := [some (.ref 120), some (.int x1), some (.int y6), some (.int x3)]) dX7_touchedOn_35 rfl (by decide) rfl rfl ?_
        refine aw_iinc (q := 39) (v := x3 + 1) (L' := [some (.ref 120), some (.int x1), some (.int y6), some (.int (x3 + 1))]) dX7_touchedOn_36 rfl rfl (by first | rfl | decide) (by decide) rfl rfl ?_
        refine aw_goto (q := 4) dX7_touchedOn_39 (by decide) ?_
        exact aw_fewer (L' := [some (.ref 120), some (.int x1), some (.int y6), some (.int (x3 + 1))]) ⟨rfl, ⟨rfl, ⟨rfl, ⟨rfl, trivial⟩⟩⟩⟩ (ih s y6 (x3 + 1) _ H KE)
def f_X7_touchedOn (s : zr) (x1 : Int32) : Option Int32 :=
  Option.bind (f_X7_touchedOn_4 zFu s x1 0 0) fun e1 =>
  some e1
set_option maxHeartbeats 4000000 in
set_option maxRecDepth 100000 in
theorem c_X7_touchedOn {G : zG} {sl : Nat} (sg : zs) (s : zr) (x1 : Int32) {v9 : Int32} (H : f_X7_touchedOn s x1 = some v9) : zMv G 1 M_X7_touchedOn [.ref 120, .int x1] sl (zT sg s) (fun r h' => r = some (.int v9) ∧ h' = (zT sg s)) := by
  unfold f_X7_touchedOn at H
  refine zMv_of (L := [some (.ref 120), some (.int x1), none, none]) (by decide) rfl (Nat.le_of_ble_eq_true rfl) rfl ?_
  refine aw_iconst (q := 1) (v := 0) dX7_touchedOn_0 rfl (by decide) ?_
  refine aw_istore_n (q := 2) (L' := [some (.ref 120), some (.int x1), some (.int 0), none]) dX7_touchedOn_1 rfl (by decide) rfl rfl ?_
  refine aw_iconst (q := 3) (v := 0) dX7_touchedOn_2 rfl (by decide) ?_
  refine aw_istore_n (q := 4) (L' := [some (.ref 120), some (.int x1), some (.int 0), some (.int 0)]) dX7_touchedOn_3 rfl (by decide) rfl rfl ?_
  obtain ⟨e1, he1, H⟩ := zbd H
  refine aw_fewer (L' := [some (.ref 120), some (.int x1), some (.int 0), some (.int 0)]) ⟨rfl, ⟨rfl, ⟨rfl, ⟨rfl, trivial⟩⟩⟩⟩ ?_
  refine L_X7_touchedOn_4 sg x1 zFu s 0 0 e1 he1 ?_
  refine aw_iload_n (q := 43) dX7_touchedOn_42 rfl rfl ?_
  cases H
  exact aw_ret dX7_touchedOn_43 rfl rfl rfl rfl ⟨rfl, rfl⟩
def f_X7_touchedNow (s : zr) : Option Int32 :=
  Option.bind (f_X7_touchedOn s (f_X7_weekday s)) fun v1 =>
  some (v1 ||| (s 1 5))
set_option maxHeartbeats 4000000 in
set_option maxRecDepth 100000 in
theorem c_X7_touchedNow {G : zG} {sl : Nat} (sg : zs) (s : zr)  {v9 : Int32} (H : f_X7_touchedNow s = some v9) : zMv G 2 M_X7_touchedNow [.ref 120] sl (zT sg s) (fun r h' => r = some (.int v9) ∧ h' = (zT sg s)) := by
  unfold f_X7_touchedNow at H
  refine zMv_of (L := [some (.ref 120)]) (by decide) rfl (Nat.le_of_ble_eq_true rfl) rfl ?_
  refine aw_aload_n (q := 1) dX7_touchedNow_0 rfl rfl ?_
  refine aw_aload_n (q := 2) dX7_touchedNow_1 rfl rfl ?_
  refine aw_cv (M' := M_X7_weekday) (as := []) (q := 5) dX7_touchedNow_2 rfl W_X7_weekday k_X7_86 i_X7_weekday v_X7_weekday (by decide) (o_X7 sg s) rfl rfl rfl (by decide) (Nat.le_of_ble_eq_true rfl) (c_X7_weekday sg s) (Nat.le_refl _) (Nat.le_refl _) ?_
  rintro r9 h9 ⟨rfl, rfl⟩
  obtain ⟨v1, hv1, H⟩ := zbd H
  refine aw_cv (M' := M_X7_touchedOn) (as := [.int (f_X7_weekday s)]) (q := 8) dX7_touchedNow_5 rfl W_X7_touchedOn k_X7_90 i_X7_touchedOn v_X7_touchedOn (by decide) (o_X7 sg s) rfl rfl rfl (by decide) (Nat.le_of_ble_eq_true rfl) (c_X7_touchedOn sg s (f_X7_weekday s) hv1) (Nat.le_refl _) (Nat.le_refl _) ?_
  rintro r9 h9 ⟨rfl, rfl⟩
  refine aw_aload_n (q := 9) dX7_touchedNow_8 rfl rfl ?_
  refine aw_getr (q := 12) dX7_touchedNow_9 rfl e_X7_7 (by decide) (o_X7 sg s) rfl ?_
  refine aw_iconst (q := 13) (v := 5) dX7_touchedNow_12 rfl (by decide) ?_
  refine aw_iald' (q := 14) (v := s 1 5) dX7_touchedNow_13 rfl (by decide) (o_X7a0 sg s) (zin_in (by decide)) rfl ?_
  refine aw_ior (q := 15) dX7_touchedNow_14 rfl ?_
  cases H
  exact aw_ret dX7_touchedNow_15 rfl rfl rfl rfl ⟨rfl, rfl⟩
def f_X7_orMissing (x0 : Int32) : Int32 :=
  if x0 = (-1) then (
    (-1000004)
  ) else (
    x0
  )
set_option maxHeartbeats 4000000 in
set_option maxRecDepth 100000 in
theorem c_X7_orMissing {G : zG} {sl : Nat} (h : zH) (x0 : Int32)  : zMv G 0 M_X7_orMissing [.int x0] sl h (fun r h' => r = some (.int (f_X7_orMissing x0)) ∧ h' = h) := by
  generalize H : f_X7_orMissing x0 = r0
  unfold f_X7_orMissing at H
  refine zMv_of (L := [some (.int x0)]) (by decide) rfl (Nat.le_of_ble_eq_true rfl) rfl ?_
  refine aw_iload_n (q := 1) dX7_orMissing_0 rfl rfl ?_
  refine aw_iconst (q := 2) (v := (-1)) dX7_orMissing_1 rfl (by decide) ?_
  refine aw_icmp_neP (q := 5) (t := 10) dX7_orMissing_2 rfl (by decide) (fun h1 => ?_) (fun h1 => ?_)
  · replace H := zt h1 H
    refine aw_ldc (q := 7) dX7_orMissing_5 rfl q_X7_93 ?_
    refine aw_goto (q := 11) dX7_orMissing_7 (by decide) ?_
    subst H
    exact aw_ret dX7_orMissing_11 rfl rfl rfl rfl ⟨rfl, rfl⟩
  · replace H := zf h1 H
    refine aw_iload_n (q := 11) dX7_orMissing_10 rfl rfl ?_
    subst H
    exact aw_ret dX7_orMissing_11 rfl rfl rfl rfl ⟨rfl, rfl⟩
def f_X7_pinOf (s : zr) (x1 : Int32) (x2 : Int32) : Option Int32 :=
  if f_X7_isIn x1 0 15 = true then (
    if f_X7_isIn x2 0 4 = true then (
      Option.bind (f_X7_chipOf s x1) fun v3 =>
      if x2 = 0 then (
        Option.bind (f_X7_netOf s x1) fun v8 =>
        some (f_X7_orMissing v8)
      ) else (
        if x2 = 1 then (
          some (f_X7_orMissing v3)
        ) else (
          if x2 = 2 then (
            if v3 = (-1) then (
              some (-1000004)
            ) else (
              Option.bind (f_X7_roleOf s v3 x1) fun v10 =>
              some v10
            )
          ) else (
            if x2 = 3 then (
              if zin ((72 : Int32) + x1) 88 = true then
              some (s 1 (((72 : Int32) + x1).toNatClampNeg))
              else none
            ) else (
              Option.bind (f_X7_touchedNow s) fun v12 =>
              if f_X7_has v12 x1 = true then (
                some 1
              ) else (
                some 0
              )
            )
          )
        )
      )
    ) else (
      some (-1000001)
    )
  ) else (
    some (-1000001)
  )
set_option maxHeartbeats 4000000 in
set_option maxRecDepth 100000 in
theorem c_X7_pinOf {G : zG} {sl : Nat} (sg : zs) (s : zr) (x1 : Int32) (x2 : Int32) {v9 : Int32} (H : f_X7_pinOf s x1 x2 = some v9) : zMv G 3 M_X7_pinOf [.ref 120, .int x1, .int x2] sl (zT sg s) (fun r h' => r = some (.int v9) ∧ h' = (zT sg s)) := by
  unfold f_X7_pinOf at H
  refine zMv_of (L := [some (.ref 120), some (.int x1), some (.int x2), none]) (by decide) rfl (Nat.le_of_ble_eq_true rfl) rfl ?_
  refine aw_iload_n (q := 1) dX7_pinOf_0 rfl rfl ?_
  refine aw_iconst (q := 2) (v := 0) dX7_pinOf_1 rfl (by decide) ?_
  refine aw_bipush (q := 4) (v := 15) dX7_pinOf_2 rfl (by decide) ?_
  refine aw_cs (M' := M_X7_isIn) (as := [.int x1, .int 0, .int 15]) (q := 7) dX7_pinOf_4 rfl W_X7_isIn k_X7_45 s_X7_isIn rfl rfl (by decide) (Nat.le_of_ble_eq_true rfl) (c_X7_isIn (zT sg s) x1 0 15) (Nat.le_refl _) (Nat.le_refl _) ?_
  rintro r9 h9 ⟨rfl, rfl⟩
  refine aw_ifeqB (q := 10) (t := 19) dX7_pinOf_7 rfl (by decide) (fun h1 => ?_) (fun h1 => ?_)
  · replace H := zt h1 H
    refine aw_iload_n (q := 11) dX7_pinOf_10 rfl rfl ?_
    refine aw_iconst (q := 12) (v := 0) dX7_pinOf_11 rfl (by decide) ?_
    refine aw_iconst (q := 13) (v := 4) dX7_pinOf_12 rfl (by decide) ?_
    refine aw_cs (M' := M_X7_isIn) (as := [.int x2, .int 0, .int 4]) (q := 16) dX7_pinOf_13 rfl W_X7_isIn k_X7_45 s_X7_isIn rfl rfl (by decide) (Nat.le_of_ble_eq_true rfl) (c_X7_isIn (zT sg s) x2 0 4) (Nat.le_refl _) (Nat.le_refl _) ?_
    rintro r9 h9 ⟨rfl, rfl⟩
    refine aw_ifneB (q := 19) (t := 22) dX7_pinOf_16 rfl (by decide) (fun h2 => ?_) (fun h2 => ?_)
    · replace H := zt h2 H
      refine aw_aload_n (q := 23) dX7_pinOf_22 rfl rfl ?_
      refine aw_iload_n (q := 24) dX7_pinOf_23 rfl rfl ?_
      obtain ⟨v3, hv3, H⟩ := zbd H
      refine aw_cv (M' := M_X7_chipOf) (as := [.int x1]) (q := 27) dX7_pinOf_24 rfl W_X7_chipOf k_X7_67 i_X7_chipOf v_X7_chipOf (by decide) (o_X7 sg s) rfl rfl rfl (by decide) (Nat.le_of_ble_eq_true rfl) (c_X7_chipOf sg s x1 hv3) (Nat.le_refl _) (Nat.le_refl _) ?_
      rintro r9 h9 ⟨rfl, rfl⟩
      refine aw_istore_n (q := 28) (L' := [some (.ref 120), some (.int x1), some (.int x2), some (.int v3)]) dX7_pinOf_27 rfl (by decide) rfl rfl ?_
      refine aw_iload_n (q := 29) dX7_pinOf_28 rfl rfl ?_
      by_cases h4 : x2 = 0
      · replace H := zt h4 H
        refine aw_tabIn (q := 60) (off := 31) dX7_pinOf_29 (by rw [h4]; decide) (by rw [h4]; decide) (by rw [h4]; rfl) (by decide) ?_
        refine aw_aload_n (q := 61) dX7_pinOf_60 rfl rfl ?_
        refine aw_iload_n (q := 62) dX7_pinOf_61 rfl rfl ?_
        obtain ⟨v8, hv8, H⟩ := zbd H
        refine aw_cv (M' := M_X7_netOf) (as := [.int x1]) (q := 65) dX7_pinOf_62 rfl W_X7_netOf k_X7_54 i_X7_netOf v_X7_netOf (by decide) (o_X7 sg s) rfl rfl rfl (by decide) (Nat.le_of_ble_eq_true rfl) (c_X7_netOf sg s x1 hv8) (Nat.le_refl _) (Nat.le_refl _) ?_
        rintro r9 h9 ⟨rfl, rfl⟩
        refine aw_cs (M' := M_X7_orMissing) (as := [.int v8]) (q := 68) dX7_pinOf_65 rfl W_X7_orMissing k_X7_94 s_X7_orMissing rfl rfl (by decide) (Nat.le_of_ble_eq_true rfl) (c_X7_orMissing (zT sg s) v8) (Nat.le_refl _) (Nat.le_refl _) ?_
        rintro r9 h9 ⟨rfl, rfl⟩
        cases H
        exact aw_ret dX7_pinOf_68 rfl rfl rfl rfl ⟨rfl, rfl⟩
      · replace H := zf h4 H
        by_cases h5 : x2 = 1
        · replace H := zt h5 H
          refine aw_tabIn (q := 69) (off := 40) dX7_pinOf_29 (by rw [h5]; decide) (by rw [h5]; decide) (by rw [h5]; rfl) (by decide) ?_
          refine aw_iload_n (q := 70) dX7_pinOf_69 rfl rfl ?_
          refine aw_cs (M' := M_X7_orMissing) (as := [.int v3]) (q := 73) dX7_pinOf_70 rfl W_X7_orMissing k_X7_94 s_X7_orMissing rfl rfl (by decide) (Nat.le_of_ble_eq_true rfl) (c_X7_orMissing (zT sg s) v3) (Nat.le_refl _) (Nat.le_refl _) ?_
          rintro r9 h9 ⟨rfl, rfl⟩
          cases H
          exact aw_ret dX7_pinOf_73 rfl rfl rfl rfl ⟨rfl, rfl⟩
        · replace H := zf h5 H
          by_cases h6 : x2 = 2
          · replace H := zt h6 H
            refine aw_tabIn (q := 74) (off := 45) dX7_pinOf_29 (by rw [h6]; decide) (by rw [h6]; decide) (by rw [h6]; rfl) (by decide) ?_
            refine aw_iload_n (q := 75) dX7_pinOf_74 rfl rfl ?_
            refine aw_iconst (q := 76) (v := (-1)) dX7_pinOf_75 rfl (by decide) ?_
            refine aw_icmp_neP (q := 79) (t := 84) dX7_pinOf_76 rfl (by decide) (fun h9 => ?_) (fun h9 => ?_)
            · replace H := zt h9 H
              refine aw_ldc (q := 81) dX7_pinOf_79 rfl q_X7_93 ?_
              refine aw_goto (q := 90) dX7_pinOf_81 (by decide) ?_
              cases H
              exact aw_ret dX7_pinOf_90 rfl rfl rfl rfl ⟨rfl, rfl⟩
            · replace H := zf h9 H
              refine aw_aload_n (q := 85) dX7_pinOf_84 rfl rfl ?_
              refine aw_iload_n (q := 86) dX7_pinOf_85 rfl rfl ?_
              refine aw_iload_n (q := 87) dX7_pinOf_86 rfl rfl ?_
              obtain ⟨v10, hv10, H⟩ := zbd H
              refine aw_cv (M' := M_X7_roleOf) (as := [.int v3, .int x1]) (q := 90) dX7_pinOf_87 rfl W_X7_roleOf k_X7_40 i_X7_roleOf v_X7_roleOf (by decide) (o_X7 sg s) rfl rfl rfl (by decide) (Nat.le_of_ble_eq_true rfl) (c_X7_roleOf sg s v3 x1 hv10) (Nat.le_refl _) (Nat.le_refl _) ?_
              rintro r9 h9 ⟨rfl, rfl⟩
              cases H
              exact aw_ret dX7_pinOf_90 rfl rfl rfl rfl ⟨rfl, rfl⟩
          · replace H := zf h6 H
            by_cases h7 : x2 = 3
            · replace H := zt h7 H
              refine aw_tabIn (q := 91) (off := 62) dX7_pinOf_29 (by rw [h7]; decide) (by rw [h7]; decide) (by rw [h7]; rfl) (by decide) ?_
              refine aw_aload_n (q := 92) dX7_pinOf_91 rfl rfl ?_
              refine aw_getr (q := 95) dX7_pinOf_92 rfl e_X7_7 (by decide) (o_X7 sg s) rfl ?_
              refine aw_bipush (q := 97) (v := 72) dX7_pinOf_95 rfl (by decide) ?_
              refine aw_iload_n (q := 98) dX7_pinOf_97 rfl rfl ?_
              refine aw_iadd (q := 99) dX7_pinOf_98 rfl ?_
              obtain ⟨h11, H⟩ := zio H
              refine aw_iald' (q := 100) (v := s 1 (((72 : Int32) + x1).toNatClampNeg)) dX7_pinOf_99 rfl (by decide) (o_X7a0 sg s) (zin_in h11) rfl ?_
              cases H
              exact aw_ret dX7_pinOf_100 rfl rfl rfl rfl ⟨rfl, rfl⟩
            · replace H := zf h7 H
              refine aw_tabOut (q := 101) dX7_pinOf_29 (by have w0 : ¬ x2.toInt = 0 := zne h4; have w1 : ¬ x2.toInt = 1 := zne h5; have w2 : ¬ x2.toInt = 2 := zne h6; have w3 : ¬ x2.toInt = 3 := zne h7; omega) (by decide) ?_
              refine aw_aload_n (q := 102) dX7_pinOf_101 rfl rfl ?_
              obtain ⟨v12, hv12, H⟩ := zbd H
              refine aw_cv (M' := M_X7_touchedNow) (as := []) (q := 105) dX7_pinOf_102 rfl W_X7_touchedNow k_X7_97 i_X7_touchedNow v_X7_touchedNow (by decide) (o_X7 sg s) rfl rfl rfl (by decide) (Nat.le_of_ble_eq_true rfl) (c_X7_touchedNow sg s hv12) (Nat.le_refl _) (Nat.le_refl _) ?_
              rintro r9 h9 ⟨rfl, rfl⟩
              refine aw_iload_n (q := 106) dX7_pinOf_105 rfl rfl ?_
              refine aw_cs (M' := M_X7_has) (as := [.int v12, .int x1]) (q := 109) dX7_pinOf_106 rfl W_X7_has k_X7_36 s_X7_has rfl rfl (by decide) (Nat.le_of_ble_eq_true rfl) (c_X7_has (zT sg s) v12 x1) (Nat.le_refl _) (Nat.le_refl _) ?_
              rintro r9 h9 ⟨rfl, rfl⟩
              refine aw_ifeqB (q := 112) (t := 116) dX7_pinOf_109 rfl (by decide) (fun h13 => ?_) (fun h13 => ?_)
              · replace H := zt h13 H
                refine aw_iconst (q := 113) (v := 1) dX7_pinOf_112 rfl (by decide) ?_
                refine aw_goto (q := 117) dX7_pinOf_113 (by decide) ?_
                cases H
                exact aw_ret dX7_pinOf_117 rfl rfl rfl rfl ⟨rfl, rfl⟩
              · replace H := zf h13 H
                refine aw_iconst (q := 117) (v := 0) dX7_pinOf_116 rfl (by decide) ?_
                cases H
                exact aw_ret dX7_pinOf_117 rfl rfl rfl rfl ⟨rfl, rfl⟩
    · replace H := zf h2 H
      refine aw_ldc (q := 21) dX7_pinOf_19 rfl q_X7_53 ?_
      cases H
      exact aw_ret dX7_pinOf_21 rfl rfl rfl rfl ⟨rfl, rfl⟩
  · replace H := zf h1 H
    refine aw_ldc (q := 21) dX7_pinOf_19 rfl q_X7_53 ?_
    cases H
    exact aw_ret dX7_pinOf_21 rfl rfl rfl rfl ⟨rfl, rfl⟩
def f_X7_isFault (s : zr) (x1 : Int32) : Bool :=
  f_X7_isIn x1 0 ((s 1 2) - 1)
set_option maxHeartbeats 4000000 in
set_option maxRecDepth 100000 in
theorem c_X7_isFault {G : zG} {sl : Nat} (sg : zs) (s : zr) (x1 : Int32)  : zMv G 1 M_X7_isFault [.ref 120, .int x1] sl (zT sg s) (fun r h' => r = some (.int (zb (f_X7_isFault s x1))) ∧ h' = (zT sg s)) := by
  generalize H : f_X7_isFault s x1 = r0
  unfold f_X7_isFault at H
  refine zMv_of (L := [some (.ref 120), some (.int x1)]) (by decide) rfl (Nat.le_of_ble_eq_true rfl) rfl ?_
  refine aw_iload_n (q := 1) dX7_isFault_0 rfl rfl ?_
  refine aw_iconst (q := 2) (v := 0) dX7_isFault_1 rfl (by decide) ?_
  refine aw_aload_n (q := 3) dX7_isFault_2 rfl rfl ?_
  refine aw_getr (q := 6) dX7_isFault_3 rfl e_X7_7 (by decide) (o_X7 sg s) rfl ?_
  refine aw_iconst (q := 7) (v := 2) dX7_isFault_6 rfl (by decide) ?_
  refine aw_iald' (q := 8) (v := s 1 2) dX7_isFault_7 rfl (by decide) (o_X7a0 sg s) (zin_in (by decide)) rfl ?_
  refine aw_iconst (q := 9) (v := 1) dX7_isFault_8 rfl (by decide) ?_
  refine aw_isub (q := 10) dX7_isFault_9 rfl ?_
  refine aw_cs (M' := M_X7_isIn) (as := [.int x1, .int 0, .int ((s 1 2) - 1)]) (q := 13) dX7_isFault_10 rfl W_X7_isIn k_X7_45 s_X7_isIn rfl rfl (by decide) (Nat.le_of_ble_eq_true rfl) (c_X7_isIn (zT sg s) x1 0 ((s 1 2) - 1)) (Nat.le_refl _) (Nat.le_refl _) ?_
  rintro r9 h9 ⟨rfl, rfl⟩
  subst H
  exact aw_retB dX7_isFault_13 rfl rfl rfl ⟨rfl, rfl⟩
def f_X7_isFaultOrNone (s : zr) (x1 : Int32) : Bool :=
  f_X7_isIn x1 (-1) ((s 1 2) - 1)
set_option maxHeartbeats 4000000 in
set_option maxRecDepth 100000 in
theorem c_X7_isFaultOrNone {G : zG} {sl : Nat} (sg : zs) (s : zr) (x1 : Int32)  : zMv G 1 M_X7_isFaultOrNone [.ref 120, .int x1] sl (zT sg s) (fun r h' => r = some (.int (zb (f_X7_isFaultOrNone s x1))) ∧ h' = (zT sg s)) := by
  generalize H : f_X7_isFaultOrNone s x1 = r0
  unfold f_X7_isFaultOrNone at H
  refine zMv_of (L := [some (.ref 120), some (.int x1)]) (by decide) rfl (Nat.le_of_ble_eq_true rfl) rfl ?_
  refine aw_iload_n (q := 1) dX7_isFaultOrNone_0 rfl rfl ?_
  refine aw_iconst (q := 2) (v := (-1)) dX7_isFaultOrNone_1 rfl (by decide) ?_
  refine aw_aload_n (q := 3) dX7_isFaultOrNone_2 rfl rfl ?_
  refine aw_getr (q := 6) dX7_isFaultOrNone_3 rfl e_X7_7 (by decide) (o_X7 sg s) rfl ?_
  refine aw_iconst (q := 7) (v := 2) dX7_isFaultOrNone_6 rfl (by decide) ?_
  refine aw_iald' (q := 8) (v := s 1 2) dX7_isFaultOrNone_7 rfl (by decide) (o_X7a0 sg s) (zin_in (by decide)) rfl ?_
  refine aw_iconst (q := 9) (v := 1) dX7_isFaultOrNone_8 rfl (by decide) ?_
  refine aw_isub (q := 10) dX7_isFaultOrNone_9 rfl ?_
  refine aw_cs (M' := M_X7_isIn) (as := [.int x1, .int (-1), .int ((s 1 2) - 1)]) (q := 13) dX7_isFaultOrNone_10 rfl W_X7_isIn k_X7_45 s_X7_isIn rfl rfl (by decide) (Nat.le_of_ble_eq_true rfl) (c_X7_isIn (zT sg s) x1 (-1) ((s 1 2) - 1)) (Nat.le_refl _) (Nat.le_refl _) ?_
  rintro r9 h9 ⟨rfl, rfl⟩
  subst H
  exact aw_retB dX7_isFaultOrNone_13 rfl rfl rfl ⟨rfl, rfl⟩
def f_X7_faultOf (s : zr) (x1 : Int32) (x2 : Int32) : Option Int32 :=
  if f_X7_isFault s x1 = true then (
    if f_X7_isIn x2 0 3 = true then (
      if x2 = 0 then (
        if zin ((32 : Int32) + x1) 88 = true then
        some (s 1 (((32 : Int32) + x1).toNatClampNeg))
        else none
      ) else (
        if x2 = 1 then (
          if zin ((42 : Int32) + x1) 88 = true then
          some (s 1 (((42 : Int32) + x1).toNatClampNeg))
          else none
        ) else (
          if x2 = 2 then (
            if zin ((32 : Int32) + x1) 88 = true then
            if (s 1 (((32 : Int32) + x1).toNatClampNeg)) = 1 then (
              if zin ((52 : Int32) + x1) 88 = true then
              some (s 1 (((52 : Int32) + x1).toNatClampNeg))
              else none
            ) else (
              some (-1000004)
            )
            else none
          ) else (
            if zin ((62 : Int32) + x1) 88 = true then
            some (f_X7_orMissing (s 1 (((62 : Int32) + x1).toNatClampNeg)))
            else none
          )
        )
      )
    ) else (
      some (-1000001)
    )
  ) else (
    some (-1000001)
  )
set_option maxHeartbeats 4000000 in
set_option maxRecDepth 100000 in
theorem c_X7_faultOf {G : zG} {sl : Nat} (sg : zs) (s : zr) (x1 : Int32) (x2 : Int32) {v9 : Int32} (H : f_X7_faultOf s x1 x2 = some v9) : zMv G 2 M_X7_faultOf [.ref 120, .int x1, .int x2] sl (zT sg s) (fun r h' => r = some (.int v9) ∧ h' = (zT sg s)) := by
  unfold f_X7_faultOf at H
  refine zMv_of (L := [some (.ref 120), some (.int x1), some (.int x2)]) (by decide) rfl (Nat.le_of_ble_eq_true rfl) rfl ?_
  refine aw_aload_n (q := 1) dX7_faultOf_0 rfl rfl ?_
  refine aw_iload_n (q := 2) dX7_faultOf_1 rfl rfl ?_
  refine aw_cv (M' := M_X7_isFault) (as := [.int x1]) (q := 5) dX7_faultOf_2 rfl W_X7_isFault k_X7_100 i_X7_isFault v_X7_isFault (by decide) (o_X7 sg s) rfl rfl rfl (by decide) (Nat.le_of_ble_eq_true rfl) (c_X7_isFault sg s x1) (Nat.le_refl _) (Nat.le_refl _) ?_
  rintro r9 h9 ⟨rfl, rfl⟩
  refine aw_ifeqB (q := 8) (t := 17) dX7_faultOf_5 rfl (by decide) (fun h1 => ?_) (fun h1 => ?_)
  · replace H := zt h1 H
    refine aw_iload_n (q := 9) dX7_faultOf_8 rfl rfl ?_
    refine aw_iconst (q := 10) (v := 0) dX7_faultOf_9 rfl (by decide) ?_
    refine aw_iconst (q := 11) (v := 3) dX7_faultOf_10 rfl (by decide) ?_
    refine aw_cs (M' := M_X7_isIn) (as := [.int x2, .int 0, .int 3]) (q := 14) dX7_faultOf_11 rfl W_X7_isIn k_X7_45 s_X7_isIn rfl rfl (by decide) (Nat.le_of_ble_eq_true rfl) (c_X7_isIn (zT sg s) x2 0 3) (Nat.le_refl _) (Nat.le_refl _) ?_
    rintro r9 h9 ⟨rfl, rfl⟩
    refine aw_ifneB (q := 17) (t := 20) dX7_faultOf_14 rfl (by decide) (fun h2 => ?_) (fun h2 => ?_)
    · replace H := zt h2 H
      refine aw_iload_n (q := 21) dX7_faultOf_20 rfl rfl ?_
      by_cases h3 : x2 = 0
      · replace H := zt h3 H
        refine aw_tabIn (q := 48) (off := 27) dX7_faultOf_21 (by rw [h3]; decide) (by rw [h3]; decide) (by rw [h3]; rfl) (by decide) ?_
        refine aw_aload_n (q := 49) dX7_faultOf_48 rfl rfl ?_
        refine aw_getr (q := 52) dX7_faultOf_49 rfl e_X7_7 (by decide) (o_X7 sg s) rfl ?_
        refine aw_bipush (q := 54) (v := 32) dX7_faultOf_52 rfl (by decide) ?_
        refine aw_iload_n (q := 55) dX7_faultOf_54 rfl rfl ?_
        refine aw_iadd (q := 56) dX7_faultOf_55 rfl ?_
        obtain ⟨h6, H⟩ := zio H
        refine aw_iald' (q := 57) (v := s 1 (((32 : Int32) + x1).toNatClampNeg)) dX7_faultOf_56 rfl (by decide) (o_X7a0 sg s) (zin_in h6) rfl ?_
        cases H
        exact aw_ret dX7_faultOf_57 rfl rfl rfl rfl ⟨rfl, rfl⟩
      · replace H := zf h3 H
        by_cases h4 : x2 = 1
        · replace H := zt h4 H
          refine aw_tabIn (q := 58) (off := 37) dX7_faultOf_21 (by rw [h4]; decide) (by rw [h4]; decide) (by rw [h4]; rfl) (by decide) ?_
          refine aw_aload_n (q := 59) dX7_faultOf_58 rfl rfl ?_
          refine aw_getr (q := 62) dX7_faultOf_59 rfl e_X7_7 (by decide) (o_X7 sg s) rfl ?_
          refine aw_bipush (q := 64) (v := 42) dX7_faultOf_62 rfl (by decide) ?_
          refine aw_iload_n (q := 65) dX7_faultOf_64 rfl rfl ?_
          refine aw_iadd (q := 66) dX7_faultOf_65 rfl ?_
          obtain ⟨h7, H⟩ := zio H
          refine aw_iald' (q := 67) (v := s 1 (((42 : Int32) + x1).toNatClampNeg)) dX7_faultOf_66 rfl (by decide) (o_X7a0 sg s) (zin_in h7) rfl ?_
          cases H
          exact aw_ret dX7_faultOf_67 rfl rfl rfl rfl ⟨rfl, rfl⟩
        · replace H := zf h4 H
          by_cases h5 : x2 = 2
          · replace H := zt h5 H
            refine aw_tabIn (q := 68) (off := 47) dX7_faultOf_21 (by rw [h5]; decide) (by rw [h5]; decide) (by rw [h5]; rfl) (by decide) ?_
            refine aw_aload_n (q := 69) dX7_faultOf_68 rfl rfl ?_
            refine aw_getr (q := 72) dX7_faultOf_69 rfl e_X7_7 (by decide) (o_X7 sg s) rfl ?_
            refine aw_bipush (q := 74) (v := 32) dX7_faultOf_72 rfl (by decide) ?_
            refine aw_iload_n (q := 75) dX7_faultOf_74 rfl rfl ?_
            refine aw_iadd (q := 76) dX7_faultOf_75 rfl ?_
            obtain ⟨h8, H⟩ := zio H
            refine aw_iald' (q := 77) (v := s 1 (((32 : Int32) + x1).toNatClampNeg)) dX7_faultOf_76 rfl (by decide) (o_X7a0 sg s) (zin_in h8) rfl ?_
            refine aw_iconst (q := 78) (v := 1) dX7_faultOf_77 rfl (by decide) ?_
            refine aw_icmp_neP (q := 81) (t := 93) dX7_faultOf_78 rfl (by decide) (fun h9 => ?_) (fun h9 => ?_)
            · replace H := zt h9 H
              refine aw_aload_n (q := 82) dX7_faultOf_81 rfl rfl ?_
              refine aw_getr (q := 85) dX7_faultOf_82 rfl e_X7_7 (by decide) (o_X7 sg s) rfl ?_
              refine aw_bipush (q := 87) (v := 52) dX7_faultOf_85 rfl (by decide) ?_
              refine aw_iload_n (q := 88) dX7_faultOf_87 rfl rfl ?_
              refine aw_iadd (q := 89) dX7_faultOf_88 rfl ?_
              obtain ⟨h10, H⟩ := zio H
              refine aw_iald' (q := 90) (v := s 1 (((52 : Int32) + x1).toNatClampNeg)) dX7_faultOf_89 rfl (by decide) (o_X7a0 sg s) (zin_in h10) rfl ?_
              refine aw_goto (q := 95) dX7_faultOf_90 (by decide) ?_
              cases H
              exact aw_ret dX7_faultOf_95 rfl rfl rfl rfl ⟨rfl, rfl⟩
            · replace H := zf h9 H
              refine aw_ldc (q := 95) dX7_faultOf_93 rfl q_X7_93 ?_
              cases H
              exact aw_ret dX7_faultOf_95 rfl rfl rfl rfl ⟨rfl, rfl⟩
          · replace H := zf h5 H
            refine aw_tabOut (q := 96) dX7_faultOf_21 (by have w0 : ¬ x2.toInt = 0 := zne h3; have w1 : ¬ x2.toInt = 1 := zne h4; have w2 : ¬ x2.toInt = 2 := zne h5; omega) (by decide) ?_
            refine aw_aload_n (q := 97) dX7_faultOf_96 rfl rfl ?_
            refine aw_getr (q := 100) dX7_faultOf_97 rfl e_X7_7 (by decide) (o_X7 sg s) rfl ?_
            refine aw_bipush (q := 102) (v := 62) dX7_faultOf_100 rfl (by decide) ?_
            refine aw_iload_n (q := 103) dX7_faultOf_102 rfl rfl ?_
            refine aw_iadd (q := 104) dX7_faultOf_103 rfl ?_
            obtain ⟨h11, H⟩ := zio H
            refine aw_iald' (q := 105) (v := s 1 (((62 : Int32) + x1).toNatClampNeg)) dX7_faultOf_104 rfl (by decide) (o_X7a0 sg s) (zin_in h11) rfl ?_
            refine aw_cs (M' := M_X7_orMissing) (as := [.int (s 1 (((62 : Int32) + x1).toNatClampNeg))]) (q := 108) dX7_faultOf_105 rfl W_X7_orMissing k_X7_94 s_X7_orMissing rfl rfl (by decide) (Nat.le_of_ble_eq_true rfl) (c_X7_orMissing (zT sg s) (s 1 (((62 : Int32) + x1).toNatClampNeg))) (Nat.le_refl _) (Nat.le_refl _) ?_
            rintro r9 h9 ⟨rfl, rfl⟩
            cases H
            exact aw_ret dX7_faultOf_108 rfl rfl rfl rfl ⟨rfl, rfl⟩
    · replace H := zf h2 H
      refine aw_ldc (q := 19) dX7_faultOf_17 rfl q_X7_53 ?_
      cases H
      exact aw_ret dX7_faultOf_19 rfl rfl rfl rfl ⟨rfl, rfl⟩
  · replace H := zf h1 H
    refine aw_ldc (q := 19) dX7_faultOf_17 rfl q_X7_53 ?_
    cases H
    exact aw_ret dX7_faultOf_19 rfl rfl rfl rfl ⟨rfl, rfl⟩
def f_X7_hasFault (s : zr) (x1 : Int32) (x2 : Int32) (x3 : Int32) : Option Bool :=
  if x1 = (-1) then (
    some false
  ) else (
    if zin ((32 : Int32) + x1) 88 = true then
    if (s 1 (((32 : Int32) + x1).toNatClampNeg)) = x2 then (
      if zin ((42 : Int32) + x1) 88 = true then
      if (s 1 (((42 : Int32) + x1).toNatClampNeg)) = x3 then (
        some true
      ) else (
        some false
      )
      else none
    ) else (
      some false
    )
    else none
  )
set_option maxHeartbeats 4000000 in
set_option maxRecDepth 100000 in
theorem c_X7_hasFault {G : zG} {sl : Nat} (sg : zs) (s : zr) (x1 : Int32) (x2 : Int32) (x3 : Int32) {v9 : Bool} (H : f_X7_hasFault s x1 x2 x3 = some v9) : zMv G 0 M_X7_hasFault [.ref 120, .int x1, .int x2, .int x3] sl (zT sg s) (fun r h' => r = some (.int (zb v9)) ∧ h' = (zT sg s)) := by
  unfold f_X7_hasFault at H
  refine zMv_of (L := [some (.ref 120), some (.int x1), some (.int x2), some (.int x3)]) (by decide) rfl (Nat.le_of_ble_eq_true rfl) rfl ?_
  refine aw_iload_n (q := 1) dX7_hasFault_0 rfl rfl ?_
  refine aw_iconst (q := 2) (v := (-1)) dX7_hasFault_1 rfl (by decide) ?_
  refine aw_icmp_eq (q := 5) (t := 35) dX7_hasFault_2 rfl (by decide) (fun h1 => ?_) (fun h1 => ?_)
  · replace H := zt h1 H
    refine aw_iconst (q := 36) (v := 0) dX7_hasFault_35 rfl (by decide) ?_
    cases H
    exact aw_ret dX7_hasFault_36 rfl rfl rfl rfl ⟨rfl, rfl⟩
  · replace H := zf h1 H
    refine aw_aload_n (q := 6) dX7_hasFault_5 rfl rfl ?_
    refine aw_getr (q := 9) dX7_hasFault_6 rfl e_X7_7 (by decide) (o_X7 sg s) rfl ?_
    refine aw_bipush (q := 11) (v := 32) dX7_hasFault_9 rfl (by decide) ?_
    refine aw_iload_n (q := 12) dX7_hasFault_11 rfl rfl ?_
    refine aw_iadd (q := 13) dX7_hasFault_12 rfl ?_
    obtain ⟨h2, H⟩ := zio H
    refine aw_iald' (q := 14) (v := s 1 (((32 : Int32) + x1).toNatClampNeg)) dX7_hasFault_13 rfl (by decide) (o_X7a0 sg s) (zin_in h2) rfl ?_
    refine aw_iload_n (q := 15) dX7_hasFault_14 rfl rfl ?_
    refine aw_icmp_neP (q := 18) (t := 35) dX7_hasFault_15 rfl (by decide) (fun h3 => ?_) (fun h3 => ?_)
    · replace H := zt h3 H
      refine aw_aload_n (q := 19) dX7_hasFault_18 rfl rfl ?_
      refine aw_getr (q := 22) dX7_hasFault_19 rfl e_X7_7 (by decide) (o_X7 sg s) rfl ?_
      refine aw_bipush (q := 24) (v := 42) dX7_hasFault_22 rfl (by decide) ?_
      refine aw_iload_n (q := 25) dX7_hasFault_24 rfl rfl ?_
      refine aw_iadd (q := 26) dX7_hasFault_25 rfl ?_
      obtain ⟨h4, H⟩ := zio H
      refine aw_iald' (q := 27) (v := s 1 (((42 : Int32) + x1).toNatClampNeg)) dX7_hasFault_26 rfl (by decide) (o_X7a0 sg s) (zin_in h4) rfl ?_
      refine aw_iload_n (q := 28) dX7_hasFault_27 rfl rfl ?_
      refine aw_icmp_neP (q := 31) (t := 35) dX7_hasFault_28 rfl (by decide) (fun h5 => ?_) (fun h5 => ?_)
      · replace H := zt h5 H
        refine aw_iconst (q := 32) (v := 1) dX7_hasFault_31 rfl (by decide) ?_
        refine aw_goto (q := 36) dX7_hasFault_32 (by decide) ?_
        cases H
        exact aw_ret dX7_hasFault_36 rfl rfl rfl rfl ⟨rfl, rfl⟩
      · replace H := zf h5 H
        refine aw_iconst (q := 36) (v := 0) dX7_hasFault_35 rfl (by decide) ?_
        cases H
        exact aw_ret dX7_hasFault_36 rfl rfl rfl rfl ⟨rfl, rfl⟩
    · replace H := zf h3 H
      refine aw_iconst (q := 36) (v := 0) dX7_hasFault_35 rfl (by decide) ?_
      cases H
      exact aw_ret dX7_hasFault_36 rfl rfl rfl rfl ⟨rfl, rfl⟩
def f_X7_areLinked (s : zr) (x1 : Int32) (x2 : Int32) (x3 : Int32) : Option Bool :=
  Option.bind (f_X7_netOf s x2) fun v1 =>
  if v1 = (-1) then (
    some false
  ) else (
    Option.bind (f_X7_netOf s x3) fun v3 =>
    if v3 = v1 then (
      Option.bind (f_X7_hasFault s x1 0 x2) fun v5 =>
      if v5 = true then (
        some false
      ) else (
        Option.bind (f_X7_hasFault s x1 0 x3) fun v7 =>
        if v7 = true then (
          some false
        ) else (
          Option.bind (f_X7_hasFault s x1 2 v1) fun v9 =>
          if v9 = true then (
            some false
          ) else (
            Option.bind (f_X7_hasFault s x1 3 v1) fun v11 =>
            if v11 = true then (
              some false
            ) else (
              some true
            )
          )
        )
      )
    ) else (
      some false
    )
  )
set_option maxHeartbeats 4000000 in
set_option maxRecDepth 100000 in
theorem c_X7_areLinked {G : zG} {sl : Nat} (sg : zs) (s : zr) (x1 : Int32) (x2 : Int32) (x3 : Int32) {v9 : Bool} (H : f_X7_areLinked s x1 x2 x3 = some v9) : zMv G 2 M_X7_areLinked [.ref 120, .int x1, .int x2, .int x3] sl (zT sg s) (fun r h' => r = some (.int (zb v9)) ∧ h' = (zT sg s)) := by
  unfold f_X7_areLinked at H
  refine zMv_of (L := [some (.ref 120), some (.int x1), some (.int x2), some (.int x3), none, none]) (by decide) rfl (Nat.le_of_ble_eq_true rfl) rfl ?_
  refine aw_aload_n (q := 1) dX7_areLinked_0 rfl rfl ?_
  refine aw_iload_n (q := 2) dX7_areLinked_1 rfl rfl ?_
  obtain ⟨v1, hv1, H⟩ := zbd H
  refine aw_cv (M' := M_X7_netOf) (as := [.int x2]) (q := 5) dX7_areLinked_2 rfl W_X7_netOf k_X7_54 i_X7_netOf v_X7_netOf (by decide) (o_X7 sg s) rfl rfl rfl (by decide) (Nat.le_of_ble_eq_true rfl) (c_X7_netOf sg s x2 hv1) (Nat.le_refl _) (Nat.le_refl _) ?_
  rintro r9 h9 ⟨rfl, rfl⟩
  refine aw_istore (q := 7) (L' := [some (.ref 120), some (.int x1), some (.int x2), some (.int x3), some (.int v1), none]) dX7_areLinked_5 rfl (by decide) rfl rfl ?_
  refine aw_iload (q := 9) dX7_areLinked_7 rfl rfl ?_
  refine aw_iconst (q := 10) (v := (-1)) dX7_areLinked_9 rfl (by decide) ?_
  refine aw_icmp_eq (q := 13) (t := 23) dX7_areLinked_10 rfl (by decide) (fun h2 => ?_) (fun h2 => ?_)
  · replace H := zt h2 H
    refine aw_iconst (q := 24) (v := 0) dX7_areLinked_23 rfl (by decide) ?_
    cases H
    exact aw_ret dX7_areLinked_24 rfl rfl rfl rfl ⟨rfl, rfl⟩
  · replace H := zf h2 H
    refine aw_aload_n (q := 14) dX7_areLinked_13 rfl rfl ?_
    refine aw_iload_n (q := 15) dX7_areLinked_14 rfl rfl ?_
    obtain ⟨v3, hv3, H⟩ := zbd H
    refine aw_cv (M' := M_X7_netOf) (as := [.int x3]) (q := 18) dX7_areLinked_15 rfl W_X7_netOf k_X7_54 i_X7_netOf v_X7_netOf (by decide) (o_X7 sg s) rfl rfl rfl (by decide) (Nat.le_of_ble_eq_true rfl) (c_X7_netOf sg s x3 hv3) (Nat.le_refl _) (Nat.le_refl _) ?_
    rintro r9 h9 ⟨rfl, rfl⟩
    refine aw_iload (q := 20) dX7_areLinked_18 rfl rfl ?_
    refine aw_icmp_eq (q := 23) (t := 25) dX7_areLinked_20 rfl (by decide) (fun h4 => ?_) (fun h4 => ?_)
    · replace H := zt h4 H
      refine aw_aload_n (q := 26) dX7_areLinked_25 rfl rfl ?_
      refine aw_iload_n (q := 27) dX7_areLinked_26 rfl rfl ?_
      refine aw_iconst (q := 28) (v := 0) dX7_areLinked_27 rfl (by decide) ?_
      refine aw_iload_n (q := 29) dX7_areLinked_28 rfl rfl ?_
      obtain ⟨v5, hv5, H⟩ := zbd H
      refine aw_cv (M' := M_X7_hasFault) (as := [.int x1, .int 0, .int x2]) (q := 32) dX7_areLinked_29 rfl W_X7_hasFault k_X7_104 i_X7_hasFault v_X7_hasFault (by decide) (o_X7 sg s) rfl rfl rfl (by decide) (Nat.le_of_ble_eq_true rfl) (c_X7_hasFault sg s x1 0 x2 hv5) (Nat.le_refl _) (Nat.le_refl _) ?_
      rintro r9 h9 ⟨rfl, rfl⟩
      refine aw_ifneB (q := 35) (t := 45) dX7_areLinked_32 rfl (by decide) (fun h6 => ?_) (fun h6 => ?_)
      · replace H := zt h6 H
        refine aw_iconst (q := 46) (v := 1) dX7_areLinked_45 rfl (by decide) ?_
        refine aw_goto (q := 50) dX7_areLinked_46 (by decide) ?_
        refine aw_istore (q := 52) (L' := [some (.ref 120), some (.int x1), some (.int x2), some (.int x3), some (.int v1), some (.int 1)]) dX7_areLinked_50 rfl (by decide) rfl rfl ?_
        refine aw_iload (q := 54) dX7_areLinked_52 rfl rfl ?_
        refine aw_if_ne (q := 57) (t := 83) dX7_areLinked_54 rfl (by decide) (fun _ => ?_) (fun z => absurd (by decide) z)
        refine aw_iconst (q := 84) (v := 0) dX7_areLinked_83 rfl (by decide) ?_
        cases H
        exact aw_ret dX7_areLinked_84 rfl rfl rfl rfl ⟨rfl, rfl⟩
      · replace H := zf h6 H
        refine aw_aload_n (q := 36) dX7_areLinked_35 rfl rfl ?_
        refine aw_iload_n (q := 37) dX7_areLinked_36 rfl rfl ?_
        refine aw_iconst (q := 38) (v := 0) dX7_areLinked_37 rfl (by decide) ?_
        refine aw_iload_n (q := 39) dX7_areLinked_38 rfl rfl ?_
        obtain ⟨v7, hv7, H⟩ := zbd H
        refine aw_cv (M' := M_X7_hasFault) (as := [.int x1, .int 0, .int x3]) (q := 42) dX7_areLinked_39 rfl W_X7_hasFault k_X7_104 i_X7_hasFault v_X7_hasFault (by decide) (o_X7 sg s) rfl rfl rfl (by decide) (Nat.le_of_ble_eq_true rfl) (c_X7_hasFault sg s x1 0 x3 hv7) (Nat.le_refl _) (Nat.le_refl _) ?_
        rintro r9 h9 ⟨rfl, rfl⟩
        refine aw_ifeqB (q := 45) (t := 49) dX7_areLinked_42 rfl (by decide) (fun h8 => ?_) (fun h8 => ?_)
        · replace H := zt h8 H
          refine aw_iconst (q := 46) (v := 1) dX7_areLinked_45 rfl (by decide) ?_
          refine aw_goto (q := 50) dX7_areLinked_46 (by decide) ?_
          refine aw_istore (q := 52) (L' := [some (.ref 120), some (.int x1), some (.int x2), some (.int x3), some (.int v1), some (.int 1)]) dX7_areLinked_50 rfl (by decide) rfl rfl ?_
          refine aw_iload (q := 54) dX7_areLinked_52 rfl rfl ?_
          refine aw_if_ne (q := 57) (t := 83) dX7_areLinked_54 rfl (by decide) (fun _ => ?_) (fun z => absurd (by decide) z)
          refine aw_iconst (q := 84) (v := 0) dX7_areLinked_83 rfl (by decide) ?_
          cases H
          exact aw_ret dX7_areLinked_84 rfl rfl rfl rfl ⟨rfl, rfl⟩
        · replace H := zf h8 H
          refine aw_iconst (q := 50) (v := 0) dX7_areLinked_49 rfl (by decide) ?_
          refine aw_istore (q := 52) (L' := [some (.ref 120), some (.int x1), some (.int x2), some (.int x3), some (.int v1), some (.int 0)]) dX7_areLinked_50 rfl (by decide) rfl rfl ?_
          refine aw_iload (q := 54) dX7_areLinked_52 rfl rfl ?_
          refine aw_if_ne (q := 57) (t := 83) dX7_areLinked_54 rfl (by decide) (fun z => absurd z (by decide)) (fun _ => ?_)
          refine aw_aload_n (q := 58) dX7_areLinked_57 rfl rfl ?_
          refine aw_iload_n (q := 59) dX7_areLinked_58 rfl rfl ?_
          refine aw_iconst (q := 60) (v := 2) dX7_areLinked_59 rfl (by decide) ?_
          refine aw_iload (q := 62) dX7_areLinked_60 rfl rfl ?_
          obtain ⟨v9, hv9, H⟩ := zbd H
          refine aw_cv (M' := M_X7_hasFault) (as := [.int x1, .int 2, .int v1]) (q := 65) dX7_areLinked_62 rfl W_X7_hasFault k_X7_104 i_X7_hasFault v_X7_hasFault (by decide) (o_X7 sg s) rfl rfl rfl (by decide) (Nat.le_of_ble_eq_true rfl) (c_X7_hasFault sg s x1 2 v1 hv9) (Nat.le_refl _) (Nat.le_refl _) ?_
          rintro r9 h9 ⟨rfl, rfl⟩
          refine aw_ifneB (q := 68) (t := 83) dX7_areLinked_65 rfl (by decide) (fun h10 => ?_) (fun h10 => ?_)
          · replace H := zt h10 H
            refine aw_iconst (q := 84) (v := 0) dX7_areLinked_83 rfl (by decide) ?_
            cases H
            exact aw_ret dX7_areLinked_84 rfl rfl rfl rfl ⟨rfl, rfl⟩
          · replace H := zf h10 H
            refine aw_aload_n (q := 69) dX7_areLinked_68 rfl rfl ?_
            refine aw_iload_n (q := 70) dX7_areLinked_69 rfl rfl ?_
            refine aw_iconst (q := 71) (v := 3) dX7_areLinked_70 rfl (by decide) ?_
            refine aw_iload (q := 73) dX7_areLinked_71 rfl rfl ?_
            obtain ⟨v11, hv11, H⟩ := zbd H
            refine aw_cv (M' := M_X7_hasFault) (as := [.int x1, .int 3, .int v1]) (q := 76) dX7_areLinked_73 rfl W_X7_hasFault k_X7_104 i_X7_hasFault v_X7_hasFault (by decide) (o_X7 sg s) rfl rfl rfl (by decide) (Nat.le_of_ble_eq_true rfl) (c_X7_hasFault sg s x1 3 v1 hv11) (Nat.le_refl _) (Nat.le_refl _) ?_
            rintro r9 h9 ⟨rfl, rfl⟩
            refine aw_ifneB (q := 79) (t := 83) dX7_areLinked_76 rfl (by decide) (fun h12 => ?_) (fun h12 => ?_)
            · replace H := zt h12 H
              refine aw_iconst (q := 84) (v := 0) dX7_areLinked_83 rfl (by decide) ?_
              cases H
              exact aw_ret dX7_areLinked_84 rfl rfl rfl rfl ⟨rfl, rfl⟩
            · replace H := zf h12 H
              refine aw_iconst (q := 80) (v := 1) dX7_areLinked_79 rfl (by decide) ?_
              refine aw_goto (q := 84) dX7_areLinked_80 (by decide) ?_
              cases H
              exact aw_ret dX7_areLinked_84 rfl rfl rfl rfl ⟨rfl, rfl⟩
    · replace H := zf h4 H
      refine aw_iconst (q := 24) (v := 0) dX7_areLinked_23 rfl (by decide) ?_
      cases H
      exact aw_ret dX7_areLinked_24 rfl rfl rfl rfl ⟨rfl, rfl⟩
def f_X7_comesTo_42 : Nat → zr → Int32 → Int32 → Int32 → Bool → Bool → Int32 → Option (Bool)
  | 0, _, _, _, _, _, _, _ => none
  | k + 1, s, x1, x3, x4, x5, x6, x7 =>
    if (s 1 1) ≤ x7 then (
      some x6
    ) else (
      if f_X7_has x3 x7 = true then (
        if x6 = true then (
          f_X7_comesTo_42 k s x1 x3 x4 x5 true (x7 + 1)
        ) else (
          if x5 = true then (
            if zin ((22 : Int32) + x7) 88 = true then
            if zin ((17 : Int32) + x4) 88 = true then
            Option.bind (f_X7_areLinked s x1 (s 1 (((22 : Int32) + x7).toNatClampNeg)) (s 1 (((17 : Int32) + x4).toNatClampNeg))) fun v7 =>
            if v7 = true then (
              f_X7_comesTo_42 k s x1 x3 x4 x5 true (x7 + 1)
            ) else (
              f_X7_comesTo_42 k s x1 x3 x4 x5 false (x7 + 1)
            )
            else none
            else none
          ) else (
            if zin ((22 : Int32) + x4) 88 = true then
            if zin ((17 : Int32) + x7) 88 = true then
            Option.bind (f_X7_areLinked s x1 (s 1 (((22 : Int32) + x4).toNatClampNeg)) (s 1 (((17 : Int32) + x7).toNatClampNeg))) fun v11 =>
            if v11 = true then (
              f_X7_comesTo_42 k s x1 x3 x4 x5 true (x7 + 1)
            ) else (
              f_X7_comesTo_42 k s x1 x3 x4 x5 false (x7 + 1)
            )
            else none
            else none
          )
        )
      ) else (
        f_X7_comesTo_42 k s x1 x3 x4 x5 x6 (x7 + 1)
      )
    )
set_option maxHeartbeats 4000000 in
set_option maxRecDepth 100000 in
theorem L_X7_comesTo_42 {G : zG} {sl : Nat} {P : Option Value → zH → Prop} (sg : zs) (x1 : Int32) (x3 : Int32) (x4 : Int32) (x5 : Bool) : ∀ (k : Nat) (s : zr) (x6 : Bool) (x7 : Int32) (e : Bool), f_X7_comesTo_42 k s x1 x3 x4 x5 x6 x7 = some e → (AV G M_X7_comesTo 3 sl P 144 [none, none, none, none, none, none, some (.int (zb e)), none] [] (zT sg s)) → AV G M_X7_comesTo 3 sl P 42 [some (.ref 120), some (.int x1), none, some (.int x3), some (.int x4), some (.int (zb x5)), some (.int (zb x6)), some (.int x7)] [] (zT sg s) := by
  intro k
  induction k with
  | zero =>
    intro s x6 x7 e H
    unfold f_X7_comesTo_42 at H
    cases H
  | succ k ih =>
    intro s x6 x7 e H KE
    unfold f_X7_comesTo_42 at H
    refine aw_iload (q := 44) dX7_comesTo_42 rfl rfl ?_
    refine aw_aload_n (q := 45) dX7_comesTo_44 rfl rfl ?_
    refine aw_getr (q := 48) dX7_comesTo_45 rfl e_X7_7 (by decide) (o_X7 sg s) rfl ?_
    refine aw_iconst (q := 49) (v := 1) dX7_comesTo_48 rfl (by decide) ?_
    refine aw_iald' (q := 50) (v := s 1 1) dX7_comesTo_49 rfl (by decide) (o_X7a0 sg s) (zin_in (by decide)) rfl ?_
    refine aw_icmp_ge (q := 53) (t := 144) dX7_comesTo_50 rfl (by decide) (fun h1 => ?_) (fun h1 => ?_)
    · replace H := zt h1 H
      cases H
      exact aw_fewer (L' := [none, none, none, none, none, none, some (.int (zb x6)), none]) ⟨rfl, trivial⟩ KE
    · replace H := zf h1 H
      refine aw_iload_n (q := 54) dX7_comesTo_53 rfl rfl ?_
      refine aw_iload (q := 56) dX7_comesTo_54 rfl rfl ?_
      refine aw_cs (M' := M_X7_has) (as := [.int x3, .int x7]) (q := 59) dX7_comesTo_56 rfl W_X7_has k_X7_36 s_X7_has rfl rfl (by decide) (Nat.le_of_ble_eq_true rfl) (c_X7_has (zT sg s) x3 x7) (Nat.le_refl _) (Nat.le_refl _) ?_
      rintro r9 h9 ⟨rfl, rfl⟩
      refine aw_ifeqB (q := 62) (t := 138) dX7_comesTo_59 rfl (by decide) (fun h2 => ?_) (fun h2 => ?_)
      · replace H := zt h2 H
        refine aw_iload (q := 64) dX7_comesTo_62 rfl rfl ?_
        refine aw_ifneB (q := 67) (t := 131) dX7_comesTo_64 rfl (by decide) (fun h3 => ?_) (fun h3 => ?_)
        · replace H := zt h3 H
          refine aw_iconst (q := 132) (v := 1) dX7_comesTo_131 rfl (by decide) ?_
          refine aw_goto (q := 136) dX7_comesTo_132 (by decide) ?_
          refine aw_istore (q := 138) (L' := [some (.ref 120), some (.int x1), none, some (.int x3), some (.int x4), some (.int (zb x5)), some (.int 1), some (.int x7)]) dX7_comesTo_136 rfl (by decide) rfl rfl ?_
          refine aw_iinc (q := 141) (v := x7 + 1) (L' := [some (.ref 120), some (.int x1), none, some (.int x3), some (.int x4), some (.int (zb x5)), some (.int 1), some (.int (x7 + 1))]) dX7_comesTo_138 rfl rfl (by first | rfl | decide) (by decide) rfl rfl ?_
          refine aw_goto (q := 42) dX7_comesTo_141 (by decide) ?_
          exact aw_fewer (L' := [some (.ref 120), some (.int x1), none, some (.int x3), some (.int x4), some (.int (zb x5)), some (.int (zb true)), some (.int (x7 + 1))]) ⟨rfl, ⟨rfl, ⟨rfl, ⟨rfl, ⟨rfl, ⟨rfl, ⟨rfl, trivial⟩⟩⟩⟩⟩⟩⟩ (ih s true (x7 + 1) _ H KE)
        · replace H := zf h3 H
          refine aw_iload (q := 69) dX7_comesTo_67 rfl rfl ?_
          refine aw_ifeqB (q := 72) (t := 103) dX7_comesTo_69 rfl (by decide) (fun h4 => ?_) (fun h4 => ?_)
          · replace H := zt h4 H
            refine aw_aload_n (q := 73) dX7_comesTo_72 rfl rfl ?_
            refine aw_iload_n (q := 74) dX7_comesTo_73 rfl rfl ?_
            refine aw_aload_n (q := 75) dX7_comesTo_74 rfl rfl ?_
            refine aw_getr (q := 78) dX7_comesTo_75 rfl e_X7_7 (by decide) (o_X7 sg s) rfl ?_
            refine aw_bipush (q := 80) (v := 22) dX7_comesTo_78 rfl (by decide) ?_
            refine aw_iload (q := 82) dX7_comesTo_80 rfl rfl ?_
            refine aw_iadd (q := 83) dX7_comesTo_82 rfl ?_
            obtain ⟨h5, H⟩ := zio H
            refine aw_iald' (q := 84) (v := s 1 (((22 : Int32) + x7).toNatClampNeg)) dX7_comesTo_83 rfl (by decide) (o_X7a0 sg s) (zin_in h5) rfl ?_
            refine aw_aload_n (q := 85) dX7_comesTo_84 rfl rfl ?_
            refine aw_getr (q := 88) dX7_comesTo_85 rfl e_X7_7 (by decide) (o_X7 sg s) rfl ?_
            refine aw_bipush (q := 90) (v := 17) dX7_comesTo_88 rfl (by decide) ?_
            refine aw_iload (q := 92) dX7_comesTo_90 rfl rfl ?_
            refine aw_iadd (q := 93) dX7_comesTo_92 rfl ?_
            obtain ⟨h6, H⟩ := zio H
            refine aw_iald' (q := 94) (v := s 1 (((17 : Int32) + x4).toNatClampNeg)) dX7_comesTo_93 rfl (by decide) (o_X7a0 sg s) (zin_in h6) rfl ?_
            obtain ⟨v7, hv7, H⟩ := zbd H
            refine aw_cv (M' := M_X7_areLinked) (as := [.int x1, .int (s 1 (((22 : Int32) + x7).toNatClampNeg)), .int (s 1 (((17 : Int32) + x4).toNatClampNeg))]) (q := 97) dX7_comesTo_94 rfl W_X7_areLinked k_X7_107 i_X7_areLinked v_X7_areLinked (by decide) (o_X7 sg s) rfl rfl rfl (by decide) (Nat.le_of_ble_eq_true rfl) (c_X7_areLinked sg s x1 (s 1 (((22 : Int32) + x7).toNatClampNeg)) (s 1 (((17 : Int32) + x4).toNatClampNeg)) hv7) (Nat.le_refl _) (Nat.le_refl _) ?_
            rintro r9 h9 ⟨rfl, rfl⟩
            refine aw_ifeqB (q := 100) (t := 135) dX7_comesTo_97 rfl (by decide) (fun h8 => ?_) (fun h8 => ?_)
            · replace H := zt h8 H
              refine aw_goto (q := 131) dX7_comesTo_100 (by decide) ?_
              refine aw_iconst (q := 132) (v := 1) dX7_comesTo_131 rfl (by decide) ?_
              refine aw_goto (q := 136) dX7_comesTo_132 (by decide) ?_
              refine aw_istore (q := 138) (L' := [some (.ref 120), some (.int x1), none, some (.int x3), some (.int x4), some (.int (zb x5)), some (.int 1), some (.int x7)]) dX7_comesTo_136 rfl (by decide) rfl rfl ?_
              refine aw_iinc (q := 141) (v := x7 + 1) (L' := [some (.ref 120), some (.int x1), none, some (.int x3), some (.int x4), some (.int (zb x5)), some (.int 1), some (.int (x7 + 1))]) dX7_comesTo_138 rfl rfl (by first | rfl | decide) (by decide) rfl rfl ?_
              refine aw_goto (q := 42) dX7_comesTo_141 (by decide) ?_
              exact aw_fewer (L' := [some (.ref 120), some (.int x1), none, some (.int x3), some (.int x4), some (.int (zb x5)), some (.int (zb true)), some (.int (x7 + 1))]) ⟨rfl, ⟨rfl, ⟨rfl, ⟨rfl, ⟨rfl, ⟨rfl, ⟨rfl, trivial⟩⟩⟩⟩⟩⟩⟩ (ih s true (x7 + 1) _ H KE)
            · replace H := zf h8 H
              refine aw_iconst (q := 136) (v := 0) dX7_comesTo_135 rfl (by decide) ?_
              refine aw_istore (q := 138) (L' := [some (.ref 120), some (.int x1), none, some (.int x3), some (.int x4), some (.int (zb x5)), some (.int 0), some (.int x7)]) dX7_comesTo_136 rfl (by decide) rfl rfl ?_
              refine aw_iinc (q := 141) (v := x7 + 1) (L' := [some (.ref 120), some (.int x1), none, some (.int x3), some (.int x4), some (.int (zb x5)), some (.int 0), some (.int (x7 + 1))]) dX7_comesTo_138 rfl rfl (by first | rfl | decide) (by decide) rfl rfl ?_
              refine aw_goto (q := 42) dX7_comesTo_141 (by decide) ?_
              exact aw_fewer (L' := [some (.ref 120), some (.int x1), none, some (.int x3), some (.int x4), some (.int (zb x5)), some (.int (zb false)), some (.int (x7 + 1))]) ⟨rfl, ⟨rfl, ⟨rfl, ⟨rfl, ⟨rfl, ⟨rfl, ⟨rfl, trivial⟩⟩⟩⟩⟩⟩⟩ (ih s false (x7 + 1) _ H KE)
          · replace H := zf h4 H
            refine aw_aload_n (q := 104) dX7_comesTo_103 rfl rfl ?_
            refine aw_iload_n (q := 105) dX7_comesTo_104 rfl rfl ?_
            refine aw_aload_n (q := 106) dX7_comesTo_105 rfl rfl ?_
            refine aw_getr (q := 109) dX7_comesTo_106 rfl e_X7_7 (by decide) (o_X7 sg s) rfl ?_
            refine aw_bipush (q := 111) (v := 22) dX7_comesTo_109 rfl (by decide) ?_
            refine aw_iload (q := 113) dX7_comesTo_111 rfl rfl ?_
            refine aw_iadd (q := 114) dX7_comesTo_113 rfl ?_
            obtain ⟨h9, H⟩ := zio H
            refine aw_iald' (q := 115) (v := s 1 (((22 : Int32) + x4).toNatClampNeg)) dX7_comesTo_114 rfl (by decide) (o_X7a0 sg s) (zin_in h9) rfl ?_
            refine aw_aload_n (q := 116) dX7_comesTo_115 rfl rfl ?_
            refine aw_getr (q := 119) dX7_comesTo_116 rfl e_X7_7 (by decide) (o_X7 sg s) rfl ?_
            refine aw_bipush (q := 121) (v := 17) dX7_comesTo_119 rfl (by decide) ?_
            refine aw_iload (q := 123) dX7_comesTo_121 rfl rfl ?_
            refine aw_iadd (q := 124) dX7_comesTo_123 rfl ?_
            obtain ⟨h10, H⟩ := zio H
            refine aw_iald' (q := 125) (v := s 1 (((17 : Int32) + x7).toNatClampNeg)) dX7_comesTo_124 rfl (by decide) (o_X7a0 sg s) (zin_in h10) rfl ?_
            obtain ⟨v11, hv11, H⟩ := zbd H
            refine aw_cv (M' := M_X7_areLinked) (as := [.int x1, .int (s 1 (((22 : Int32) + x4).toNatClampNeg)), .int (s 1 (((17 : Int32) + x7).toNatClampNeg))]) (q := 128) dX7_comesTo_125 rfl W_X7_areLinked k_X7_107 i_X7_areLinked v_X7_areLinked (by decide) (o_X7 sg s) rfl rfl rfl (by decide) (Nat.le_of_ble_eq_true rfl) (c_X7_areLinked sg s x1 (s 1 (((22 : Int32) + x4).toNatClampNeg)) (s 1 (((17 : Int32) + x7).toNatClampNeg)) hv11) (Nat.le_refl _) (Nat.le_refl _) ?_
            rintro r9 h9 ⟨rfl, rfl⟩
            refine aw_ifeqB (q := 131) (t := 135) dX7_comesTo_128 rfl (by decide) (fun h12 => ?_) (fun h12 => ?_)
            · replace H := zt h12 H
              refine aw_iconst (q := 132) (v := 1) dX7_comesTo_131 rfl (by decide) ?_
              refine aw_goto (q := 136) dX7_comesTo_132 (by decide) ?_
              refine aw_istore (q := 138) (L' := [some (.ref 120), some (.int x1), none, some (.int x3), some (.int x4), some (.int (zb x5)), some (.int 1), some (.int x7)]) dX7_comesTo_136 rfl (by decide) rfl rfl ?_
              refine aw_iinc (q := 141) (v := x7 + 1) (L' := [some (.ref 120), some (.int x1), none, some (.int x3), some (.int x4), some (.int (zb x5)), some (.int 1), some (.int (x7 + 1))]) dX7_comesTo_138 rfl rfl (by first | rfl | decide) (by decide) rfl rfl ?_
              refine aw_goto (q := 42) dX7_comesTo_141 (by decide) ?_
              exact aw_fewer (L' := [some (.ref 120), some (.int x1), none, some (.int x3), some (.int x4), some (.int (zb x5)), some (.int (zb true)), some (.int (x7 + 1))]) ⟨rfl, ⟨rfl, ⟨rfl, ⟨rfl, ⟨rfl, ⟨rfl, ⟨rfl, trivial⟩⟩⟩⟩⟩⟩⟩ (ih s true (x7 + 1) _ H KE)
            · replace H := zf h12 H
              refine aw_iconst (q := 136) (v := 0) dX7_comesTo_135 rfl (by decide) ?_
              refine aw_istore (q := 138) (L' := [some (.ref 120), some (.int x1), none, some (.int x3), some (.int x4), some (.int (zb x5)), some (.int 0), some (.int x7)]) dX7_comesTo_136 rfl (by decide) rfl rfl ?_
              refine aw_iinc (q := 141) (v := x7 + 1) (L' := [some (.ref 120), some (.int x1), none, some (.int x3), some (.int x4), some (.int (zb x5)), some (.int 0), some (.int (x7 + 1))]) dX7_comesTo_138 rfl rfl (by first | rfl | decide) (by decide) rfl rfl ?_
              refine aw_goto (q := 42) dX7_comesTo_141 (by decide) ?_
              exact aw_fewer (L' := [some (.ref 120), some (.int x1), none, some (.int x3), some (.int x4), some (.int (zb x5)), some (.int (zb false)), some (.int (x7 + 1))]) ⟨rfl, ⟨rfl, ⟨rfl, ⟨rfl, ⟨rfl, ⟨rfl, ⟨rfl, trivial⟩⟩⟩⟩⟩⟩⟩ (ih s false (x7 + 1) _ H KE)
      · replace H := zf h2 H
        refine aw_iinc (q := 141) (v := x7 + 1) (L' := [some (.ref 120), some (.int x1), none, some (.int x3), some (.int x4), some (.int (zb x5)), some (.int (zb x6)), some (.int (x7 + 1))]) dX7_comesTo_138 rfl rfl (by first | rfl | decide) (by decide) rfl rfl ?_
        refine aw_goto (q := 42) dX7_comesTo_141 (by decide) ?_
        exact aw_fewer (L' := [some (.ref 120), some (.int x1), none, some (.int x3), some (.int x4), some (.int (zb x5)), some (.int (zb x6)), some (.int (x7 + 1))]) ⟨rfl, ⟨rfl, ⟨rfl, ⟨rfl, ⟨rfl, ⟨rfl, ⟨rfl, trivial⟩⟩⟩⟩⟩⟩⟩ (ih s x6 (x7 + 1) _ H KE)
def f_X7_comesTo (s : zr) (x1 : Int32) (x2 : Int32) (x3 : Int32) (x4 : Int32) (x5 : Bool) : Option Bool :=
  Option.bind (f_X7_hasFault s x1 4 x4) fun v1 =>
  if v1 = true then (
    some false
  ) else (
    if x5 = true then (
      if zin ((17 : Int32) + x4) 88 = true then
      Option.bind (f_X7_comesTo_42 zFu s x1 x3 x4 x5 (f_X7_has x2 (s 1 (((17 : Int32) + x4).toNatClampNeg))) 0) fun e5 =>
      some e5
      else none
    ) else (
      if zin ((22 : Int32) + x4) 88 = true then
      Option.bind (f_X7_comesTo_42 zFu s x1 x3 x4 x5 (f_X7_has x2 (s 1 (((22 : Int32) + x4).toNatClampNeg))) 0) fun e7 =>
      some e7
      else none
    )
  )
set_option maxHeartbeats 4000000 in
set_option maxRecDepth 100000 in
theorem c_X7_comesTo {G : zG} {sl : Nat} (sg : zs) (s : zr) (x1 : Int32) (x2 : Int32) (x3 : Int32) (x4 : Int32) (x5 : Bool) {v9 : Bool} (H : f_X7_comesTo s x1 x2 x3 x4 x5 = some v9) : zMv G 3 M_X7_comesTo [.ref 120, .int x1, .int x2, .int x3, .int x4, .int (zb x5)] sl (zT sg s) (fun r h' => r = some (.int (zb v9)) ∧ h' = (zT sg s)) := by
  unfold f_X7_comesTo at H
  refine zMv_of (L := [some (.ref 120), some (.int x1), some (.int x2), some (.int x3), some (.int x4), some (.int (zb x5)), none, none]) (by decide) rfl (Nat.le_of_ble_eq_true rfl) rfl ?_
  refine aw_aload_n (q := 1) dX7_comesTo_0 rfl rfl ?_
  refine aw_iload_n (q := 2) dX7_comesTo_1 rfl rfl ?_
  refine aw_iconst (q := 3) (v := 4) dX7_comesTo_2 rfl (by decide) ?_
  refine aw_iload (q := 5) dX7_comesTo_3 rfl rfl ?_
  obtain ⟨v1, hv1, H⟩ := zbd H
  refine aw_cv (M' := M_X7_hasFault) (as := [.int x1, .int 4, .int x4]) (q := 8) dX7_comesTo_5 rfl W_X7_hasFault k_X7_104 i_X7_hasFault v_X7_hasFault (by decide) (o_X7 sg s) rfl rfl rfl (by decide) (Nat.le_of_ble_eq_true rfl) (c_X7_hasFault sg s x1 4 x4 hv1) (Nat.le_refl _) (Nat.le_refl _) ?_
  rintro r9 h9 ⟨rfl, rfl⟩
  refine aw_ifeqB (q := 11) (t := 13) dX7_comesTo_8 rfl (by decide) (fun h2 => ?_) (fun h2 => ?_)
  · replace H := zt h2 H
    refine aw_iconst (q := 12) (v := 0) dX7_comesTo_11 rfl (by decide) ?_
    cases H
    exact aw_ret dX7_comesTo_12 rfl rfl rfl rfl ⟨rfl, rfl⟩
  · replace H := zf h2 H
    refine aw_iload_n (q := 14) dX7_comesTo_13 rfl rfl ?_
    refine aw_aload_n (q := 15) dX7_comesTo_14 rfl rfl ?_
    refine aw_getr (q := 18) dX7_comesTo_15 rfl e_X7_7 (by decide) (o_X7 sg s) rfl ?_
    refine aw_iload (q := 20) dX7_comesTo_18 rfl rfl ?_
    refine aw_ifeqB (q := 23) (t := 28) dX7_comesTo_20 rfl (by decide) (fun h3 => ?_) (fun h3 => ?_)
    · replace H := zt h3 H
      refine aw_bipush (q := 25) (v := 17) dX7_comesTo_23 rfl (by decide) ?_
      refine aw_goto (q := 30) dX7_comesTo_25 (by decide) ?_
      refine aw_iload (q := 32) dX7_comesTo_30 rfl rfl ?_
      refine aw_iadd (q := 33) dX7_comesTo_32 rfl ?_
      obtain ⟨h4, H⟩ := zio H
      refine aw_iald' (q := 34) (v := s 1 (((17 : Int32) + x4).toNatClampNeg)) dX7_comesTo_33 rfl (by decide) (o_X7a0 sg s) (zin_in h4) rfl ?_
      refine aw_cs (M' := M_X7_has) (as := [.int x2, .int (s 1 (((17 : Int32) + x4).toNatClampNeg))]) (q := 37) dX7_comesTo_34 rfl W_X7_has k_X7_36 s_X7_has rfl rfl (by decide) (Nat.le_of_ble_eq_true rfl) (c_X7_has (zT sg s) x2 (s 1 (((17 : Int32) + x4).toNatClampNeg))) (Nat.le_refl _) (Nat.le_refl _) ?_
      rintro r9 h9 ⟨rfl, rfl⟩
      refine aw_istore (q := 39) (L' := [some (.ref 120), some (.int x1), some (.int x2), some (.int x3), some (.int x4), some (.int (zb x5)), some (.int (zb (f_X7_has x2 (s 1 (((17 : Int32) + x4).toNatClampNeg))))), none]) dX7_comesTo_37 rfl (by decide) rfl rfl ?_
      refine aw_iconst (q := 40) (v := 0) dX7_comesTo_39 rfl (by decide) ?_
      refine aw_istore (q := 42) (L' := [some (.ref 120), some (.int x1), some (.int x2), some (.int x3), some (.int x4), some (.int (zb x5)), some (.int (zb (f_X7_has x2 (s 1 (((17 : Int32) + x4).toNatClampNeg))))), some (.int 0)]) dX7_comesTo_40 rfl (by decide) rfl rfl ?_
      obtain ⟨e5, he5, H⟩ := zbd H
      refine aw_fewer (L' := [some (.ref 120), some (.int x1), none, some (.int x3), some (.int x4), some (.int (zb x5)), some (.int (zb (f_X7_has x2 (s 1 (((17 : Int32) + x4).toNatClampNeg))))), some (.int 0)]) ⟨rfl, ⟨rfl, ⟨rfl, ⟨rfl, ⟨rfl, ⟨rfl, ⟨rfl, trivial⟩⟩⟩⟩⟩⟩⟩ ?_
      refine L_X7_comesTo_42 sg x1 x3 x4 x5 zFu s (f_X7_has x2 (s 1 (((17 : Int32) + x4).toNatClampNeg))) 0 e5 he5 ?_
      refine aw_iload (q := 146) dX7_comesTo_144 rfl rfl ?_
      cases H
      exact aw_retB dX7_comesTo_146 rfl rfl rfl ⟨rfl, rfl⟩
    · replace H := zf h3 H
      refine aw_bipush (q := 30) (v := 22) dX7_comesTo_28 rfl (by decide) ?_
      refine aw_iload (q := 32) dX7_comesTo_30 rfl rfl ?_
      refine aw_iadd (q := 33) dX7_comesTo_32 rfl ?_
      obtain ⟨h6, H⟩ := zio H
      refine aw_iald' (q := 34) (v := s 1 (((22 : Int32) + x4).toNatClampNeg)) dX7_comesTo_33 rfl (by decide) (o_X7a0 sg s) (zin_in h6) rfl ?_
      refine aw_cs (M' := M_X7_has) (as := [.int x2, .int (s 1 (((22 : Int32) + x4).toNatClampNeg))]) (q := 37) dX7_comesTo_34 rfl W_X7_has k_X7_36 s_X7_has rfl rfl (by decide) (Nat.le_of_ble_eq_true rfl) (c_X7_has (zT sg s) x2 (s 1 (((22 : Int32) + x4).toNatClampNeg))) (Nat.le_refl _) (Nat.le_refl _) ?_
      rintro r9 h9 ⟨rfl, rfl⟩
      refine aw_istore (q := 39) (L' := [some (.ref 120), some (.int x1), some (.int x2), some (.int x3), some (.int x4), some (.int (zb x5)), some (.int (zb (f_X7_has x2 (s 1 (((22 : Int32) + x4).toNatClampNeg))))), none]) dX7_comesTo_37 rfl (by decide) rfl rfl ?_
      refine aw_iconst (q := 40) (v := 0) dX7_comesTo_39 rfl (by decide) ?_
      refine aw_istore (q := 42) (L' := [some (.ref 120), some (.int x1), some (.int x2), some (.int x3), some (.int x4), some (.int (zb x5)), some (.int (zb (f_X7_has x2 (s 1 (((22 : Int32) + x4).toNatClampNeg))))), some (.int 0)]) dX7_comesTo_40 rfl (by decide) rfl rfl ?_
      obtain ⟨e7, he7, H⟩ := zbd H
      refine aw_fewer (L' := [some (.ref 120), some (.int x1), none, some (.int x3), some (.int x4), some (.int (zb x5)), some (.int (zb (f_X7_has x2 (s 1 (((22 : Int32) + x4).toNatClampNeg))))), some (.int 0)]) ⟨rfl, ⟨rfl, ⟨rfl, ⟨rfl, ⟨rfl, ⟨rfl, ⟨rfl, trivial⟩⟩⟩⟩⟩⟩⟩ ?_
      refine L_X7_comesTo_42 sg x1 x3 x4 x5 zFu s (f_X7_has x2 (s 1 (((22 : Int32) + x4).toNatClampNeg))) 0 e7 he7 ?_
      refine aw_iload (q := 146) dX7_comesTo_144 rfl rfl ?_
      cases H
      exact aw_retB dX7_comesTo_146 rfl rfl rfl ⟨rfl, rfl⟩
def f_X7_along_15 : Nat → zr → Int32 → Int32 → Bool → Int32 → Int32 → Int32 → Option (Int32)
  | 0, _, _, _, _, _, _, _ => none
  | k + 1, s, x1, x2, x3, x5, x4, x6 =>
    if (s 1 1) ≤ x6 then (
      some x4
    ) else (
      if f_X7_has x4 x6 = true then (
        f_X7_along_15 k s x1 x2 x3 x5 x4 (x6 + 1)
      ) else (
        Option.bind (f_X7_comesTo s x1 x2 x4 x6 x3) fun v3 =>
        if v3 = true then (
          zlt (x4 ||| ((1 : Int32) <<< (x6 &&& 31)) : Int32) fun y5 =>
          f_X7_along_15 k s x1 x2 x3 x5 y5 (x6 + 1)
        ) else (
          f_X7_along_15 k s x1 x2 x3 x5 x4 (x6 + 1)
        )
      )
    )
set_option maxHeartbeats 4000000 in
set_option maxRecDepth 100000 in
theorem L_X7_along_15 {G : zG} {sl : Nat} {P : Option Value → zH → Prop} (sg : zs) (x1 : Int32) (x2 : Int32) (x3 : Bool) (x5 : Int32) : ∀ (k : Nat) (s : zr) (x4 : Int32) (x6 : Int32) (e : Int32), f_X7_along_15 k s x1 x2 x3 x5 x4 x6 = some e → (AV G M_X7_along 4 sl P 65 [some (.ref 120), some (.int x1), some (.int x2), some (.int (zb x3)), some (.int e), some (.int x5), none] [] (zT sg s)) → AV G M_X7_along 4 sl P 15 [some (.ref 120), some (.int x1), some (.int x2), some (.int (zb x3)), some (.int x4), some (.int x5), some (.int x6)] [] (zT sg s) := by
  intro k
  induction k with
  | zero =>
    intro s x4 x6 e H
    unfold f_X7_along_15 at H
    cases H
  | succ k ih =>
    intro s x4 x6 e H KE
    unfold f_X7_along_15 at H
    refine aw_iload (q := 17) dX7_along_15 rfl rfl ?_
    refine aw_aload_n (q := 18) dX7_along_17 rfl rfl ?_
    refine aw_getr (q := 21) dX7_along_18 rfl e_X7_7 (by decide) (o_X7 sg s) rfl ?_
    refine aw_iconst (q := 22) (v := 1) dX7_along_21 rfl (by decide) ?_
    refine aw_iald' (q := 23) (v := s 1 1) dX7_along_22 rfl (by decide) (o_X7a0 sg s) (zin_in (by decide)) rfl ?_
    refine aw_icmp_ge (q := 26) (t := 65) dX7_along_23 rfl (by decide) (fun h1 => ?_) (fun h1 => ?_)
    · replace H := zt h1 H
      cases H
      exact aw_fewer (L' := [some (.ref 120), some (.int x1), some (.int x2), some (.int (zb x3)), some (.int x4), some (.int x5), none]) ⟨rfl, ⟨rfl, ⟨rfl, ⟨rfl, ⟨rfl, ⟨rfl, trivial⟩⟩⟩⟩⟩⟩ KE
    · replace H := zf h1 H
      refine aw_iload (q := 28) dX7_along_26 rfl rfl ?_
      refine aw_iload (q := 30) dX7_along_28 rfl rfl ?_
      refine aw_cs (M' := M_X7_has) (as := [.int x4, .int x6]) (q := 33) dX7_along_30 rfl W_X7_has k_X7_36 s_X7_has rfl rfl (by decide) (Nat.le_of_ble_eq_true rfl) (c_X7_has (zT sg s) x4 x6) (Nat.le_refl _) (Nat.le_refl _) ?_
      rintro r9 h9 ⟨rfl, rfl⟩
      refine aw_ifneB (q := 36) (t := 59) dX7_along_33 rfl (by decide) (fun h2 => ?_) (fun h2 => ?_)
      · replace H := zt h2 H
        refine aw_iinc (q := 62) (v := x6 + 1) (L' := [some (.ref 120), some (.int x1), some (.int x2), some (.int (zb x3)), some (.int x4), some (.int x5), some (.int (x6 + 1))]) dX7_along_59 rfl rfl (by first | rfl | decide) (by decide) rfl rfl ?_
        refine aw_goto (q := 15) dX7_along_62 (by decide) ?_
        exact aw_fewer (L' := [some (.ref 120), some (.int x1), some (.int x2), some (.int (zb x3)), some (.int x4), some (.int x5), some (.int (x6 + 1))]) ⟨rfl, ⟨rfl, ⟨rfl, ⟨rfl, ⟨rfl, ⟨rfl, ⟨rfl, trivial⟩⟩⟩⟩⟩⟩⟩ (ih s x4 (x6 + 1) _ H KE)
      · replace H := zf h2 H
        refine aw_aload_n (q := 37) dX7_along_36 rfl rfl ?_
        refine aw_iload_n (q := 38) dX7_along_37 rfl rfl ?_
        refine aw_iload_n (q := 39) dX7_along_38 rfl rfl ?_
        refine aw_iload (q := 41) dX7_along_39 rfl rfl ?_
        refine aw_iload (q := 43) dX7_along_41 rfl rfl ?_
        refine aw_iload_n (q := 44) dX7_along_43 rfl rfl ?_
        obtain ⟨v3, hv3, H⟩ := zbd H
        refine aw_cv (M' := M_X7_comesTo) (as := [.int x1, .int x2, .int x4, .int x6, .int (zb x3)]) (q := 47) dX7_along_44 rfl W_X7_comesTo k_X7_110 i_X7_comesTo v_X7_comesTo (by decide) (o_X7 sg s) rfl rfl rfl (by decide) (Nat.le_of_ble_eq_true rfl) (c_X7_comesTo sg s x1 x2 x4 x6 x3 hv3) (Nat.le_refl _) (Nat.le_refl _) ?_
        rintro r9 h9 ⟨rfl, rfl⟩
        refine aw_ifeqB (q := 50) (t := 59) dX7_along_47 rfl (by decide) (fun h4 => ?_) (fun h4 => ?_)
        · replace H := zt h4 H
          refine aw_iload (q := 52) dX7_along_50 rfl rfl ?_
          refine aw_iconst (q := 53) (v := 1) dX7_along_52 rfl (by decide) ?_
          refine aw_iload (q := 55) dX7_along_53 rfl rfl ?_
          refine aw_ishl (q := 56) dX7_along_55 rfl ?_
          refine aw_ior (q := 57) dX7_along_56 rfl ?_
          obtain ⟨y5, q6, H⟩ := zltd H
          refine aw_nm q6 ?_
          refine aw_istore (q := 59) (L' := [some (.ref 120), some (.int x1), some (.int x2), some (.int (zb x3)), some (.int y5), some (.int x5), some (.int x6)]) dX7_along_57 rfl (by decide) rfl rfl ?_
          refine aw_iinc (q := 62) (v := x6 + 1) (L' := [some (.ref 120), some (.int x1), some (.int x2), some (.int (zb x3)), some (.int y5), some (.int x5), some (.int (x6 + 1))]) dX7_along_59 rfl rfl (by first | rfl | decide) (by decide) rfl rfl ?_
          refine aw_goto (q := 15) dX7_along_62 (by decide) ?_
          exact aw_fewer (L' := [some (.ref 120), some (.int x1), some (.int x2), some (.int (zb x3)), some (.int y5), some (.int x5), some (.int (x6 + 1))]) ⟨rfl, ⟨rfl, ⟨rfl, ⟨rfl, ⟨rfl, ⟨rfl, ⟨rfl, trivial⟩⟩⟩⟩⟩⟩⟩ (ih s y5 (x6 + 1) _ H KE)
        · replace H := zf h4 H
          refine aw_iinc (q := 62) (v := x6 + 1) (L' := [some (.ref 120), some (.int x1), some (.int x2), some (.int (zb x3)), some (.int x4), some (.int x5), some (.int (x6 + 1))]) dX7_along_59 rfl rfl (by first | rfl | decide) (by decide) rfl rfl ?_
          refine aw_goto (q := 15) dX7_along_62 (by decide) ?_
          exact aw_fewer (L' := [some (.ref 120), some (.int x1), some (.int x2), some (.int (zb x3)), some (.int x4), some (.int x5), some (.int (x6 + 1))]) ⟨rfl, ⟨rfl, ⟨rfl, ⟨rfl, ⟨rfl, ⟨rfl, ⟨rfl, trivial⟩⟩⟩⟩⟩⟩⟩ (ih s x4 (x6 + 1) _ H KE)
def f_X7_along_6 : Nat → zr → Int32 → Int32 → Bool → Int32 → Int32 → Option (Int32)
  | 0, _, _, _, _, _, _ => none
  | k + 1, s, x1, x2, x3, x4, x5 =>
    if (5 : Int32) ≤ x5 then (
      some x4
    ) else (
      Option.bind (f_X7_along_15 zFu s x1 x2 x3 x5 x4 0) fun e2 =>
      f_X7_along_6 k s x1 x2 x3 e2 (x5 + 1)
    )
set_option maxHeartbeats 4000000 in
set_option maxRecDepth 100000 in
theorem L_X7_along_6 {G : zG} {sl : Nat} {P : Option Value → zH → Prop} (sg : zs) (x1 : Int32) (x2 : Int32) (x3 : Bool) : ∀ (k : Nat) (s : zr) (x4 : Int32) (x5 : Int32) (e : Int32), f_X7_along_6 k s x1 x2 x3 x4 x5 = some e → (AV G M_X7_along 4 sl P 71 [none, none, none, none, some (.int e), none, none] [] (zT sg s)) → AV G M_X7_along 4 sl P 6 [some (.ref 120), some (.int x1), some (.int x2), some (.int (zb x3)), some (.int x4), some (.int x5), none] [] (zT sg s) := by
  intro k
  induction k with
  | zero =>
    intro s x4 x5 e H
    unfold f_X7_along_6 at H
    cases H
  | succ k ih =>
    intro s x4 x5 e H KE
    unfold f_X7_along_6 at H
    refine aw_iload (q := 8) dX7_along_6 rfl rfl ?_
    refine aw_iconst (q := 9) (v := 5) dX7_along_8 rfl (by decide) ?_
    refine aw_icmp_ge (q := 12) (t := 71) dX7_along_9 rfl (by decide) (fun h1 => ?_) (fun h1 => ?_)
    · replace H := zt h1 H
      cases H
      exact aw_fewer (L' := [none, none, none, none, some (.int x4), none, none]) ⟨rfl, trivial⟩ KE
    · replace H := zf h1 H
      refine aw_iconst (q := 13) (v := 0) dX7_along_12 rfl (by decide) ?_
      refine aw_istore (q := 15) (L' := [some (.ref 120), some (.int x1), some (.int x2), some (.int (zb x3)), some (.int x4), some (.int x5), some (.int 0)]) dX7_along_13 rfl (by decide) rfl rfl ?_
      obtain ⟨e2, he2, H⟩ := zbd H
      refine aw_fewer (L' := [some (.ref 120), some (.int x1), some (.int x2), some (.int (zb x3)), some (.int x4), some (.int x5), some (.int 0)]) ⟨rfl, ⟨rfl, ⟨rfl, ⟨rfl, ⟨rfl, ⟨rfl, ⟨rfl, trivial⟩⟩⟩⟩⟩⟩⟩ ?_
      refine L_X7_along_15 sg x1 x2 x3 x5 zFu s x4 0 e2 he2 ?_
      refine aw_iinc (q := 68) (v := x5 + 1) (L' := [some (.ref 120), some (.int x1), some (.int x2), some (.int (zb x3)), some (.int e2), some (.int (x5 + 1)), none]) dX7_along_65 rfl rfl (by first | rfl | decide) (by decide) rfl rfl ?_
      refine aw_goto (q := 6) dX7_along_68 (by decide) ?_
      exact aw_fewer (L' := [some (.ref 120), some (.int x1), some (.int x2), some (.int (zb x3)), some (.int e2), some (.int (x5 + 1)), none]) ⟨rfl, ⟨rfl, ⟨rfl, ⟨rfl, ⟨rfl, ⟨rfl, trivial⟩⟩⟩⟩⟩⟩ (ih s e2 (x5 + 1) _ H KE)
def f_X7_along (s : zr) (x1 : Int32) (x2 : Int32) (x3 : Bool) : Option Int32 :=
  Option.bind (f_X7_along_6 zFu s x1 x2 x3 0 0) fun e1 =>
  some e1
set_option maxHeartbeats 4000000 in
set_option maxRecDepth 100000 in
theorem c_X7_along {G : zG} {sl : Nat} (sg : zs) (s : zr) (x1 : Int32) (x2 : Int32) (x3 : Bool) {v9 : Int32} (H : f_X7_along s x1 x2 x3 = some v9) : zMv G 4 M_X7_along [.ref 120, .int x1, .int x2, .int (zb x3)] sl (zT sg s) (fun r h' => r = some (.int v9) ∧ h' = (zT sg s)) := by
  unfold f_X7_along at H
  refine zMv_of (L := [some (.ref 120), some (.int x1), some (.int x2), some (.int (zb x3)), none, none, none]) (by decide) rfl (Nat.le_of_ble_eq_true rfl) rfl ?_
  refine aw_iconst (q := 1) (v := 0) dX7_along_0 rfl (by decide) ?_
  refine aw_istore (q := 3) (L' := [some (.ref 120), some (.int x1), some (.int x2), some (.int (zb x3)), some (.int 0), none, none]) dX7_along_1 rfl (by decide) rfl rfl ?_
  refine aw_iconst (q := 4) (v := 0) dX7_along_3 rfl (by decide) ?_
  refine aw_istore (q := 6) (L' := [some (.ref 120), some (.int x1), some (.int x2), some (.int (zb x3)), some (.int 0), some (.int 0), none]) dX7_along_4 rfl (by decide) rfl rfl ?_
  obtain ⟨e1, he1, H⟩ := zbd H
  refine aw_fewer (L' := [some (.ref 120), some (.int x1), some (.int x2), some (.int (zb x3)), some (.int 0), some (.int 0), none]) ⟨rfl, ⟨rfl, ⟨rfl, ⟨rfl, ⟨rfl, ⟨rfl, trivial⟩⟩⟩⟩⟩⟩ ?_
  refine L_X7_along_6 sg x1 x2 x3 zFu s 0 0 e1 he1 ?_
  refine aw_iload (q := 73) dX7_along_71 rfl rfl ?_
  cases H
  exact aw_ret dX7_along_73 rfl rfl rfl rfl ⟨rfl, rfl⟩
def f_X7_scannedBy (s : zr) (x1 : Int32) (x2 : Int32) : Option Int32 :=
  Option.bind (f_X7_along s x1 x2 true) fun v1 =>
  Option.bind (f_X7_along s x1 x2 false) fun v2 =>
  some (v1 &&& v2)
set_option maxHeartbeats 4000000 in
set_option maxRecDepth 100000 in
theorem c_X7_scannedBy {G : zG} {sl : Nat} (sg : zs) (s : zr) (x1 : Int32) (x2 : Int32) {v9 : Int32} (H : f_X7_scannedBy s x1 x2 = some v9) : zMv G 5 M_X7_scannedBy [.ref 120, .int x1, .int x2] sl (zT sg s) (fun r h' => r = some (.int v9) ∧ h' = (zT sg s)) := by
  unfold f_X7_scannedBy at H
  refine zMv_of (L := [some (.ref 120), some (.int x1), some (.int x2)]) (by decide) rfl (Nat.le_of_ble_eq_true rfl) rfl ?_
  refine aw_aload_n (q := 1) dX7_scannedBy_0 rfl rfl ?_
  refine aw_iload_n (q := 2) dX7_scannedBy_1 rfl rfl ?_
  refine aw_iload_n (q := 3) dX7_scannedBy_2 rfl rfl ?_
  refine aw_iconst (q := 4) (v := 1) dX7_scannedBy_3 rfl (by decide) ?_
  obtain ⟨v1, hv1, H⟩ := zbd H
  refine aw_cv (M' := M_X7_along) (as := [.int x1, .int x2, .int (zb true)]) (q := 7) dX7_scannedBy_4 rfl W_X7_along k_X7_114 i_X7_along v_X7_along (by decide) (o_X7 sg s) rfl rfl rfl (by decide) (Nat.le_of_ble_eq_true rfl) (c_X7_along sg s x1 x2 true hv1) (Nat.le_refl _) (Nat.le_refl _) ?_
  rintro r9 h9 ⟨rfl, rfl⟩
  refine aw_aload_n (q := 8) dX7_scannedBy_7 rfl rfl ?_
  refine aw_iload_n (q := 9) dX7_scannedBy_8 rfl rfl ?_
  refine aw_iload_n (q := 10) dX7_scannedBy_9 rfl rfl ?_
  refine aw_iconst (q := 11) (v := 0) dX7_scannedBy_10 rfl (by decide) ?_
  obtain ⟨v2, hv2, H⟩ := zbd H
  refine aw_cv (M' := M_X7_along) (as := [.int x1, .int x2, .int (zb false)]) (q := 14) dX7_scannedBy_11 rfl W_X7_along k_X7_114 i_X7_along v_X7_along (by decide) (o_X7 sg s) rfl rfl rfl (by decide) (Nat.le_of_ble_eq_true rfl) (c_X7_along sg s x1 x2 false hv2) (Nat.le_refl _) (Nat.le_refl _) ?_
  rintro r9 h9 ⟨rfl, rfl⟩
  refine aw_iand (q := 15) dX7_scannedBy_14 rfl ?_
  cases H
  exact aw_ret dX7_scannedBy_15 rfl rfl rfl rfl ⟨rfl, rfl⟩
def f_X7_reachedBy_13 : Nat → zr → Int32 → Int32 → Int32 → Option (Int32)
  | 0, _, _, _, _ => none
  | k + 1, s, x3, x4, x5 =>
    if (s 1 1) ≤ x5 then (
      some x4
    ) else (
      if f_X7_has x3 x5 = true then (
        if zin ((27 : Int32) + x5) 88 = true then
        zlt (x4 ||| (s 1 (((27 : Int32) + x5).toNatClampNeg)) : Int32) fun y4 =>
        f_X7_reachedBy_13 k s x3 y4 (x5 + 1)
        else none
      ) else (
        zlt (x4 ||| 0 : Int32) fun y6 =>
        f_X7_reachedBy_13 k s x3 y6 (x5 + 1)
      )
    )
set_option maxHeartbeats 4000000 in
set_option maxRecDepth 100000 in
theorem L_X7_reachedBy_13 {G : zG} {sl : Nat} {P : Option Value → zH → Prop} (sg : zs) (x3 : Int32) : ∀ (k : Nat) (s : zr) (x4 : Int32) (x5 : Int32) (e : Int32), f_X7_reachedBy_13 k s x3 x4 x5 = some e → (AV G M_X7_reachedBy 6 sl P 58 [none, none, none, none, some (.int e), none] [] (zT sg s)) → AV G M_X7_reachedBy 6 sl P 13 [some (.ref 120), none, none, some (.int x3), some (.int x4), some (.int x5)] [] (zT sg s) := by
  intro k
  induction k with
  | zero =>
    intro s x4 x5 e H
    unfold f_X7_reachedBy_13 at H
    cases H
  | succ k ih =>
    intro s x4 x5 e H KE
    unfold f_X7_reachedBy_13 at H
    refine aw_iload (q := 15) dX7_reachedBy_13 rfl rfl ?_
    refine aw_aload_n (q := 16) dX7_reachedBy_15 rfl rfl ?_
    refine aw_getr (q := 19) dX7_reachedBy_16 rfl e_X7_7 (by decide) (o_X7 sg s) rfl ?_
    refine aw_iconst (q := 20) (v := 1) dX7_reachedBy_19 rfl (by decide) ?_
    refine aw_iald' (q := 21) (v := s 1 1) dX7_reachedBy_20 rfl (by decide) (o_X7a0 sg s) (zin_in (by decide)) rfl ?_
    refine aw_icmp_ge (q := 24) (t := 58) dX7_reachedBy_21 rfl (by decide) (fun h1 => ?_) (fun h1 => ?_)
    · replace H := zt h1 H
      cases H
      exact aw_fewer (L' := [none, none, none, none, some (.int x4), none]) ⟨rfl, trivial⟩ KE
    · replace H := zf h1 H
      refine aw_iload (q := 26) dX7_reachedBy_24 rfl rfl ?_
      refine aw_iload_n (q := 27) dX7_reachedBy_26 rfl rfl ?_
      refine aw_iload (q := 29) dX7_reachedBy_27 rfl rfl ?_
      refine aw_cs (M' := M_X7_has) (as := [.int x3, .int x5]) (q := 32) dX7_reachedBy_29 rfl W_X7_has k_X7_36 s_X7_has rfl rfl (by decide) (Nat.le_of_ble_eq_true rfl) (c_X7_has (zT sg s) x3 x5) (Nat.le_refl _) (Nat.le_refl _) ?_
      rintro r9 h9 ⟨rfl, rfl⟩
      refine aw_ifeqB (q := 35) (t := 48) dX7_reachedBy_32 rfl (by decide) (fun h2 => ?_) (fun h2 => ?_)
      · replace H := zt h2 H
        refine aw_aload_n (q := 36) dX7_reachedBy_35 rfl rfl ?_
        refine aw_getr (q := 39) dX7_reachedBy_36 rfl e_X7_7 (by decide) (o_X7 sg s) rfl ?_
        refine aw_bipush (q := 41) (v := 27) dX7_reachedBy_39 rfl (by decide) ?_
        refine aw_iload (q := 43) dX7_reachedBy_41 rfl rfl ?_
        refine aw_iadd (q := 44) dX7_reachedBy_43 rfl ?_
        obtain ⟨h3, H⟩ := zio H
        refine aw_iald' (q := 45) (v := s 1 (((27 : Int32) + x5).toNatClampNeg)) dX7_reachedBy_44 rfl (by decide) (o_X7a0 sg s) (zin_in h3) rfl ?_
        refine aw_goto (q := 49) dX7_reachedBy_45 (by decide) ?_
        refine aw_ior (q := 50) dX7_reachedBy_49 rfl ?_
        obtain ⟨y4, q5, H⟩ := zltd H
        refine aw_nm q5 ?_
        refine aw_istore (q := 52) (L' := [some (.ref 120), none, none, some (.int x3), some (.int y4), some (.int x5)]) dX7_reachedBy_50 rfl (by decide) rfl rfl ?_
        refine aw_iinc (q := 55) (v := x5 + 1) (L' := [some (.ref 120), none, none, some (.int x3), some (.int y4), some (.int (x5 + 1))]) dX7_reachedBy_52 rfl rfl (by first | rfl | decide) (by decide) rfl rfl ?_
        refine aw_goto (q := 13) dX7_reachedBy_55 (by decide) ?_
        exact aw_fewer (L' := [some (.ref 120), none, none, some (.int x3), some (.int y4), some (.int (x5 + 1))]) ⟨rfl, ⟨rfl, ⟨rfl, ⟨rfl, trivial⟩⟩⟩⟩ (ih s y4 (x5 + 1) _ H KE)
      · replace H := zf h2 H
        refine aw_iconst (q := 49) (v := 0) dX7_reachedBy_48 rfl (by decide) ?_
        refine aw_ior (q := 50) dX7_reachedBy_49 rfl ?_
        obtain ⟨y6, q7, H⟩ := zltd H
        refine aw_nm q7 ?_
        refine aw_istore (q := 52) (L' := [some (.ref 120), none, none, some (.int x3), some (.int y6), some (.int x5)]) dX7_reachedBy_50 rfl (by decide) rfl rfl ?_
        refine aw_iinc (q := 55) (v := x5 + 1) (L' := [some (.ref 120), none, none, some (.int x3), some (.int y6), some (.int (x5 + 1))]) dX7_reachedBy_52 rfl rfl (by first | rfl | decide) (by decide) rfl rfl ?_
        refine aw_goto (q := 13) dX7_reachedBy_55 (by decide) ?_
        exact aw_fewer (L' := [some (.ref 120), none, none, some (.int x3), some (.int y6), some (.int (x5 + 1))]) ⟨rfl, ⟨rfl, ⟨rfl, ⟨rfl, trivial⟩⟩⟩⟩ (ih s y6 (x5 + 1) _ H KE)
def f_X7_reachedBy (s : zr) (x1 : Int32) (x2 : Int32) : Option Int32 :=
  Option.bind (f_X7_scannedBy s x1 x2) fun v1 =>
  Option.bind (f_X7_reachedBy_13 zFu s v1 x2 0) fun e2 =>
  some e2
set_option maxHeartbeats 4000000 in
set_option maxRecDepth 100000 in
theorem c_X7_reachedBy {G : zG} {sl : Nat} (sg : zs) (s : zr) (x1 : Int32) (x2 : Int32) {v9 : Int32} (H : f_X7_reachedBy s x1 x2 = some v9) : zMv G 6 M_X7_reachedBy [.ref 120, .int x1, .int x2] sl (zT sg s) (fun r h' => r = some (.int v9) ∧ h' = (zT sg s)) := by
  unfold f_X7_reachedBy at H
  refine zMv_of (L := [some (.ref 120), some (.int x1), some (.int x2), none, none, none]) (by decide) rfl (Nat.le_of_ble_eq_true rfl) rfl ?_
  refine aw_aload_n (q := 1) dX7_reachedBy_0 rfl rfl ?_
  refine aw_iload_n (q := 2) dX7_reachedBy_1 rfl rfl ?_
  refine aw_iload_n (q := 3) dX7_reachedBy_2 rfl rfl ?_
  obtain ⟨v1, hv1, H⟩ := zbd H
  refine aw_cv (M' := M_X7_scannedBy) (as := [.int x1, .int x2]) (q := 6) dX7_reachedBy_3 rfl W_X7_scannedBy k_X7_118 i_X7_scannedBy v_X7_scannedBy (by decide) (o_X7 sg s) rfl rfl rfl (by decide) (Nat.le_of_ble_eq_true rfl) (c_X7_scannedBy sg s x1 x2 hv1) (Nat.le_refl _) (Nat.le_refl _) ?_
  rintro r9 h9 ⟨rfl, rfl⟩
  refine aw_istore_n (q := 7) (L' := [some (.ref 120), some (.int x1), some (.int x2), some (.int v1), none, none]) dX7_reachedBy_6 rfl (by decide) rfl rfl ?_
  refine aw_iload_n (q := 8) dX7_reachedBy_7 rfl rfl ?_
  refine aw_istore (q := 10) (L' := [some (.ref 120), some (.int x1), some (.int x2), some (.int v1), some (.int x2), none]) dX7_reachedBy_8 rfl (by decide) rfl rfl ?_
  refine aw_iconst (q := 11) (v := 0) dX7_reachedBy_10 rfl (by decide) ?_
  refine aw_istore (q := 13) (L' := [some (.ref 120), some (.int x1), some (.int x2), some (.int v1), some (.int x2), some (.int 0)]) dX7_reachedBy_11 rfl (by decide) rfl rfl ?_
  obtain ⟨e2, he2, H⟩ := zbd H
  refine aw_fewer (L' := [some (.ref 120), none, none, some (.int v1), some (.int x2), some (.int 0)]) ⟨rfl, ⟨rfl, ⟨rfl, ⟨rfl, trivial⟩⟩⟩⟩ ?_
  refine L_X7_reachedBy_13 sg v1 zFu s x2 0 e2 he2 ?_
  refine aw_iload (q := 60) dX7_reachedBy_58 rfl rfl ?_
  cases H
  exact aw_ret dX7_reachedBy_60 rfl rfl rfl rfl ⟨rfl, rfl⟩
def f_X7_areJoined (s : zr) (x1 : Int32) (x2 : Int32) (x3 : Int32) : Option Bool :=
  if x2 = x3 then (
    some true
  ) else (
    if x3 ≤ x2 then (
      Option.bind (f_X7_hasFault s x1 1 x3) fun v3 =>
      if v3 = true then (
        if zin ((52 : Int32) + x1) 88 = true then
        if (s 1 (((52 : Int32) + x1).toNatClampNeg)) = x2 then (
          some true
        ) else (
          some false
        )
        else none
      ) else (
        some false
      )
    ) else (
      Option.bind (f_X7_hasFault s x1 1 x2) fun v7 =>
      if v7 = true then (
        if zin ((52 : Int32) + x1) 88 = true then
        if (s 1 (((52 : Int32) + x1).toNatClampNeg)) = x3 then (
          some true
        ) else (
          some false
        )
        else none
      ) else (
        some false
      )
    )
  )
set_option maxHeartbeats 4000000 in
set_option maxRecDepth 100000 in
theorem c_X7_areJoined {G : zG} {sl : Nat} (sg : zs) (s : zr) (x1 : Int32) (x2 : Int32) (x3 : Int32) {v9 : Bool} (H : f_X7_areJoined s x1 x2 x3 = some v9) : zMv G 1 M_X7_areJoined [.ref 120, .int x1, .int x2, .int x3] sl (zT sg s) (fun r h' => r = some (.int (zb v9)) ∧ h' = (zT sg s)) := by
  unfold f_X7_areJoined at H
  refine zMv_of (L := [some (.ref 120), some (.int x1), some (.int x2), some (.int x3), none, none]) (by decide) rfl (Nat.le_of_ble_eq_true rfl) rfl ?_
  refine aw_iload_n (q := 1) dX7_areJoined_0 rfl rfl ?_
  refine aw_iload_n (q := 2) dX7_areJoined_1 rfl rfl ?_
  refine aw_icmp_neP (q := 5) (t := 7) dX7_areJoined_2 rfl (by decide) (fun h1 => ?_) (fun h1 => ?_)
  · replace H := zt h1 H
    refine aw_iconst (q := 6) (v := 1) dX7_areJoined_5 rfl (by decide) ?_
    cases H
    exact aw_ret dX7_areJoined_6 rfl rfl rfl rfl ⟨rfl, rfl⟩
  · replace H := zf h1 H
    refine aw_iload_n (q := 8) dX7_areJoined_7 rfl rfl ?_
    refine aw_iload_n (q := 9) dX7_areJoined_8 rfl rfl ?_
    refine aw_icmp_ge (q := 12) (t := 16) dX7_areJoined_9 rfl (by decide) (fun h2 => ?_) (fun h2 => ?_)
    · replace H := zt h2 H
      refine aw_iload_n (q := 17) dX7_areJoined_16 rfl rfl ?_
      refine aw_istore (q := 19) (L' := [some (.ref 120), some (.int x1), some (.int x2), some (.int x3), some (.int x3), none]) dX7_areJoined_17 rfl (by decide) rfl rfl ?_
      refine aw_iload_n (q := 20) dX7_areJoined_19 rfl rfl ?_
      refine aw_iload_n (q := 21) dX7_areJoined_20 rfl rfl ?_
      refine aw_icmp_ge (q := 24) (t := 28) dX7_areJoined_21 rfl (by decide) (fun _ => ?_) (fun z => absurd h2 z)
      refine aw_iload_n (q := 29) dX7_areJoined_28 rfl rfl ?_
      refine aw_istore (q := 31) (L' := [some (.ref 120), some (.int x1), some (.int x2), some (.int x3), some (.int x3), some (.int x2)]) dX7_areJoined_29 rfl (by decide) rfl rfl ?_
      refine aw_aload_n (q := 32) dX7_areJoined_31 rfl rfl ?_
      refine aw_iload_n (q := 33) dX7_areJoined_32 rfl rfl ?_
      refine aw_iconst (q := 34) (v := 1) dX7_areJoined_33 rfl (by decide) ?_
      refine aw_iload (q := 36) dX7_areJoined_34 rfl rfl ?_
      obtain ⟨v3, hv3, H⟩ := zbd H
      refine aw_cv (M' := M_X7_hasFault) (as := [.int x1, .int 1, .int x3]) (q := 39) dX7_areJoined_36 rfl W_X7_hasFault k_X7_104 i_X7_hasFault v_X7_hasFault (by decide) (o_X7 sg s) rfl rfl rfl (by decide) (Nat.le_of_ble_eq_true rfl) (c_X7_hasFault sg s x1 1 x3 hv3) (Nat.le_refl _) (Nat.le_refl _) ?_
      rintro r9 h9 ⟨rfl, rfl⟩
      refine aw_ifeqB (q := 42) (t := 60) dX7_areJoined_39 rfl (by decide) (fun h4 => ?_) (fun h4 => ?_)
      · replace H := zt h4 H
        refine aw_aload_n (q := 43) dX7_areJoined_42 rfl rfl ?_
        refine aw_getr (q := 46) dX7_areJoined_43 rfl e_X7_7 (by decide) (o_X7 sg s) rfl ?_
        refine aw_bipush (q := 48) (v := 52) dX7_areJoined_46 rfl (by decide) ?_
        refine aw_iload_n (q := 49) dX7_areJoined_48 rfl rfl ?_
        refine aw_iadd (q := 50) dX7_areJoined_49 rfl ?_
        obtain ⟨h5, H⟩ := zio H
        refine aw_iald' (q := 51) (v := s 1 (((52 : Int32) + x1).toNatClampNeg)) dX7_areJoined_50 rfl (by decide) (o_X7a0 sg s) (zin_in h5) rfl ?_
        refine aw_iload (q := 53) dX7_areJoined_51 rfl rfl ?_
        refine aw_icmp_neP (q := 56) (t := 60) dX7_areJoined_53 rfl (by decide) (fun h6 => ?_) (fun h6 => ?_)
        · replace H := zt h6 H
          refine aw_iconst (q := 57) (v := 1) dX7_areJoined_56 rfl (by decide) ?_
          refine aw_goto (q := 61) dX7_areJoined_57 (by decide) ?_
          cases H
          exact aw_ret dX7_areJoined_61 rfl rfl rfl rfl ⟨rfl, rfl⟩
        · replace H := zf h6 H
          refine aw_iconst (q := 61) (v := 0) dX7_areJoined_60 rfl (by decide) ?_
          cases H
          exact aw_ret dX7_areJoined_61 rfl rfl rfl rfl ⟨rfl, rfl⟩
      · replace H := zf h4 H
        refine aw_iconst (q := 61) (v := 0) dX7_areJoined_60 rfl (by decide) ?_
        cases H
        exact aw_ret dX7_areJoined_61 rfl rfl rfl rfl ⟨rfl, rfl⟩
    · replace H := zf h2 H
      refine aw_iload_n (q := 13) dX7_areJoined_12 rfl rfl ?_
      refine aw_goto (q := 17) dX7_areJoined_13 (by decide) ?_
      refine aw_istore (q := 19) (L' := [some (.ref 120), some (.int x1), some (.int x2), some (.int x3), some (.int x2), none]) dX7_areJoined_17 rfl (by decide) rfl rfl ?_
      refine aw_iload_n (q := 20) dX7_areJoined_19 rfl rfl ?_
      refine aw_iload_n (q := 21) dX7_areJoined_20 rfl rfl ?_
      refine aw_icmp_ge (q := 24) (t := 28) dX7_areJoined_21 rfl (by decide) (fun z => absurd z h2) (fun _ => ?_)
      refine aw_iload_n (q := 25) dX7_areJoined_24 rfl rfl ?_
      refine aw_goto (q := 29) dX7_areJoined_25 (by decide) ?_
      refine aw_istore (q := 31) (L' := [some (.ref 120), some (.int x1), some (.int x2), some (.int x3), some (.int x2), some (.int x3)]) dX7_areJoined_29 rfl (by decide) rfl rfl ?_
      refine aw_aload_n (q := 32) dX7_areJoined_31 rfl rfl ?_
      refine aw_iload_n (q := 33) dX7_areJoined_32 rfl rfl ?_
      refine aw_iconst (q := 34) (v := 1) dX7_areJoined_33 rfl (by decide) ?_
      refine aw_iload (q := 36) dX7_areJoined_34 rfl rfl ?_
      obtain ⟨v7, hv7, H⟩ := zbd H
      refine aw_cv (M' := M_X7_hasFault) (as := [.int x1, .int 1, .int x2]) (q := 39) dX7_areJoined_36 rfl W_X7_hasFault k_X7_104 i_X7_hasFault v_X7_hasFault (by decide) (o_X7 sg s) rfl rfl rfl (by decide) (Nat.le_of_ble_eq_true rfl) (c_X7_hasFault sg s x1 1 x2 hv7) (Nat.le_refl _) (Nat.le_refl _) ?_
      rintro r9 h9 ⟨rfl, rfl⟩
      refine aw_ifeqB (q := 42) (t := 60) dX7_areJoined_39 rfl (by decide) (fun h8 => ?_) (fun h8 => ?_)
      · replace H := zt h8 H
        refine aw_aload_n (q := 43) dX7_areJoined_42 rfl rfl ?_
        refine aw_getr (q := 46) dX7_areJoined_43 rfl e_X7_7 (by decide) (o_X7 sg s) rfl ?_
        refine aw_bipush (q := 48) (v := 52) dX7_areJoined_46 rfl (by decide) ?_
        refine aw_iload_n (q := 49) dX7_areJoined_48 rfl rfl ?_
        refine aw_iadd (q := 50) dX7_areJoined_49 rfl ?_
        obtain ⟨h9, H⟩ := zio H
        refine aw_iald' (q := 51) (v := s 1 (((52 : Int32) + x1).toNatClampNeg)) dX7_areJoined_50 rfl (by decide) (o_X7a0 sg s) (zin_in h9) rfl ?_
        refine aw_iload (q := 53) dX7_areJoined_51 rfl rfl ?_
        refine aw_icmp_neP (q := 56) (t := 60) dX7_areJoined_53 rfl (by decide) (fun h10 => ?_) (fun h10 => ?_)
        · replace H := zt h10 H
          refine aw_iconst (q := 57) (v := 1) dX7_areJoined_56 rfl (by decide) ?_
          refine aw_goto (q := 61) dX7_areJoined_57 (by decide) ?_
          cases H
          exact aw_ret dX7_areJoined_61 rfl rfl rfl rfl ⟨rfl, rfl⟩
        · replace H := zf h10 H
          refine aw_iconst (q := 61) (v := 0) dX7_areJoined_60 rfl (by decide) ?_
          cases H
          exact aw_ret dX7_areJoined_61 rfl rfl rfl rfl ⟨rfl, rfl⟩
      · replace H := zf h8 H
        refine aw_iconst (q := 61) (v := 0) dX7_areJoined_60 rfl (by decide) ?_
        cases H
        exact aw_ret dX7_areJoined_61 rfl rfl rfl rfl ⟨rfl, rfl⟩
