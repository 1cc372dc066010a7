def f_X7_vouch (s : zr) (x1 : Int32) : Option (Int32 × zr) :=
  if f_X7_isIn x1 0 15 = true then (
    Option.bind (f_X7_touchedNow s) fun v2 =>
    if f_X7_has v2 x1 = true then (
      some ((-1000002), s)
    ) else (
      if (s 1 4) = 0 then (
        some ((-1000003), s)
      ) else (
        Option.bind (f_X7_records s) fun v5 =>
        zlt (zm v5 1 5 ((v5 1 5) ||| ((1 : Int32) <<< (x1 &&& 31)))) fun s6 =>
        zlt (zm s6 1 4 ((s6 1 4) - 1)) fun s8 =>
        some (s8 1 4, s8)
      )
    )
  ) else (
    some ((-1000001), s)
  )
set_option maxHeartbeats 4000000 in
set_option maxRecDepth 100000 in
theorem c_X7_vouch {G : zG} {sl : Nat} (sg : zs) (s : zr) (x1 : Int32) {v9 : (Int32 × zr)} (H : f_X7_vouch s x1 = some v9) : zMv G 3 M_X7_vouch [.ref 120, .int x1] sl (zT sg s) (fun r h' => r = some (.int v9.1) ∧ h' = zT sg v9.2) := by
  unfold f_X7_vouch at H
  refine zMv_of (L := [some (.ref 120), some (.int x1)]) (by decide) rfl (Nat.le_of_ble_eq_true rfl) rfl ?_
  refine aw_iload_n (q := 1) dX7_vouch_0 rfl rfl ?_
  refine aw_iconst (q := 2) (v := 0) dX7_vouch_1 rfl (by decide) ?_
  refine aw_bipush (q := 4) (v := 15) dX7_vouch_2 rfl (by decide) ?_
  refine aw_cs (M' := M_X7_isIn) (as := [.int x1, .int 0, .int 15]) (q := 7) dX7_vouch_4 rfl W_X7_isIn k_X7_45 s_X7_isIn rfl rfl (by decide) (Nat.le_of_ble_eq_true rfl) (c_X7_isIn (zT sg s) x1 0 15) (Nat.le_refl _) (Nat.le_refl _) ?_
  rintro r9 h9 ⟨rfl, rfl⟩
  refine aw_ifneB (q := 10) (t := 13) dX7_vouch_7 rfl (by decide) (fun h1 => ?_) (fun h1 => ?_)
  · replace H := zt h1 H
    refine aw_aload_n (q := 14) dX7_vouch_13 rfl rfl ?_
    obtain ⟨v2, hv2, H⟩ := zbd H
    refine aw_cv (M' := M_X7_touchedNow) (as := []) (q := 17) dX7_vouch_14 rfl W_X7_touchedNow k_X7_97 i_X7_touchedNow v_X7_touchedNow (by decide) (o_X7 sg s) rfl rfl rfl (by decide) (Nat.le_of_ble_eq_true rfl) (c_X7_touchedNow sg s hv2) (Nat.le_refl _) (Nat.le_refl _) ?_
    rintro r9 h9 ⟨rfl, rfl⟩
    refine aw_iload_n (q := 18) dX7_vouch_17 rfl rfl ?_
    refine aw_cs (M' := M_X7_has) (as := [.int v2, .int x1]) (q := 21) dX7_vouch_18 rfl W_X7_has k_X7_36 s_X7_has rfl rfl (by decide) (Nat.le_of_ble_eq_true rfl) (c_X7_has (zT sg s) v2 x1) (Nat.le_refl _) (Nat.le_refl _) ?_
    rintro r9 h9 ⟨rfl, rfl⟩
    refine aw_ifeqB (q := 24) (t := 27) dX7_vouch_21 rfl (by decide) (fun h3 => ?_) (fun h3 => ?_)
    · replace H := zt h3 H
      refine aw_ldc (q := 26) dX7_vouch_24 rfl q_X7_35 ?_
      cases H
      exact aw_ret dX7_vouch_26 rfl rfl rfl rfl ⟨rfl, rfl⟩
    · replace H := zf h3 H
      refine aw_aload_n (q := 28) dX7_vouch_27 rfl rfl ?_
      refine aw_getr (q := 31) dX7_vouch_28 rfl e_X7_7 (by decide) (o_X7 sg s) rfl ?_
      refine aw_iconst (q := 32) (v := 4) dX7_vouch_31 rfl (by decide) ?_
      refine aw_iald' (q := 33) (v := s 1 4) dX7_vouch_32 rfl (by decide) (o_X7a0 sg s) (zin_in (by decide)) rfl ?_
      refine aw_if_neP (q := 36) (t := 39) dX7_vouch_33 rfl (by decide) (fun h4 => ?_) (fun h4 => ?_)
      · replace H := zt h4 H
        refine aw_ldc (q := 38) dX7_vouch_36 rfl q_X7_57 ?_
        cases H
        exact aw_ret dX7_vouch_38 rfl rfl rfl rfl ⟨rfl, rfl⟩
      · replace H := zf h4 H
        refine aw_aload_n (q := 40) dX7_vouch_39 rfl rfl ?_
        obtain ⟨v5, hv5, H⟩ := zbd H
        refine aw_cv (M' := M_X7_records) (as := []) (q := 43) dX7_vouch_40 rfl W_X7_records k_X7_61 i_X7_records v_X7_records (by decide) (o_X7 sg s) rfl rfl rfl (by decide) (Nat.le_of_ble_eq_true rfl) (c_X7_records sg s hv5) (Nat.le_refl _) (Nat.le_refl _) ?_
        rintro r9 h9 ⟨rfl, rfl⟩
        refine aw_aload_n (q := 44) dX7_vouch_43 rfl rfl ?_
        refine aw_getr (q := 47) dX7_vouch_44 rfl e_X7_7 (by decide) (o_X7 sg v5) rfl ?_
        refine aw_iconst (q := 48) (v := 5) dX7_vouch_47 rfl (by decide) ?_
        refine aw_dup2 (q := 49) dX7_vouch_48 rfl rfl rfl ?_
        refine aw_iald' (q := 50) (v := v5 1 5) dX7_vouch_49 rfl (by decide) (o_X7a0 sg v5) (zin_in (by decide)) rfl ?_
        refine aw_iconst (q := 51) (v := 1) dX7_vouch_50 rfl (by decide) ?_
        refine aw_iload_n (q := 52) dX7_vouch_51 rfl rfl ?_
        refine aw_ishl (q := 53) dX7_vouch_52 rfl ?_
        refine aw_ior (q := 54) dX7_vouch_53 rfl ?_
        obtain ⟨s6, q7, H⟩ := zltd H
        refine aw_iast (q := 55) dX7_vouch_54 rfl (by decide) (o_X7a0 sg v5) (zin_in (by decide)) ((p_X7a0).trans (congrArg (fun z => zT sg z) q7.symm)) ?_
        refine aw_aload_n (q := 56) dX7_vouch_55 rfl rfl ?_
        refine aw_getr (q := 59) dX7_vouch_56 rfl e_X7_7 (by decide) (o_X7 sg s6) rfl ?_
        refine aw_iconst (q := 60) (v := 4) dX7_vouch_59 rfl (by decide) ?_
        refine aw_dup2 (q := 61) dX7_vouch_60 rfl rfl rfl ?_
        refine aw_iald' (q := 62) (v := s6 1 4) dX7_vouch_61 rfl (by decide) (o_X7a0 sg s6) (zin_in (by decide)) rfl ?_
        refine aw_iconst (q := 63) (v := 1) dX7_vouch_62 rfl (by decide) ?_
        refine aw_isub (q := 64) dX7_vouch_63 rfl ?_
        obtain ⟨s8, q9, H⟩ := zltd H
        refine aw_iast (q := 65) dX7_vouch_64 rfl (by decide) (o_X7a0 sg s6) (zin_in (by decide)) ((p_X7a0).trans (congrArg (fun z => zT sg z) q9.symm)) ?_
        refine aw_aload_n (q := 66) dX7_vouch_65 rfl rfl ?_
        refine aw_getr (q := 69) dX7_vouch_66 rfl e_X7_7 (by decide) (o_X7 sg s8) rfl ?_
        refine aw_iconst (q := 70) (v := 4) dX7_vouch_69 rfl (by decide) ?_
        refine aw_iald' (q := 71) (v := s8 1 4) dX7_vouch_70 rfl (by decide) (o_X7a0 sg s8) (zin_in (by decide)) rfl ?_
        cases H
        exact aw_ret dX7_vouch_71 rfl rfl rfl rfl ⟨rfl, rfl⟩
  · replace H := zf h1 H
    refine aw_ldc (q := 12) dX7_vouch_10 rfl q_X7_53 ?_
    cases H
    exact aw_ret dX7_vouch_12 rfl rfl rfl rfl ⟨rfl, rfl⟩
def f_X7_vouchers (s : zr) (x1 : Int32) : Option (Int32 × zr) :=
  if f_X7_isIn x1 0 20 = true then (
    Option.bind (f_X7_records s) fun v2 =>
    zlt (v2 1 4 : Int32) fun y3 =>
    zlt (zm v2 1 4 x1) fun s5 =>
    some (y3, s5)
  ) else (
    some ((-1000001), s)
  )
set_option maxHeartbeats 4000000 in
set_option maxRecDepth 100000 in
theorem c_X7_vouchers {G : zG} {sl : Nat} (sg : zs) (s : zr) (x1 : Int32) {v9 : (Int32 × zr)} (H : f_X7_vouchers s x1 = some v9) : zMv G 1 M_X7_vouchers [.ref 120, .int x1] sl (zT sg s) (fun r h' => r = some (.int v9.1) ∧ h' = zT sg v9.2) := by
  unfold f_X7_vouchers at H
  refine zMv_of (L := [some (.ref 120), some (.int x1), none]) (by decide) rfl (Nat.le_of_ble_eq_true rfl) rfl ?_
  refine aw_iload_n (q := 1) dX7_vouchers_0 rfl rfl ?_
  refine aw_iconst (q := 2) (v := 0) dX7_vouchers_1 rfl (by decide) ?_
  refine aw_bipush (q := 4) (v := 20) dX7_vouchers_2 rfl (by decide) ?_
  refine aw_cs (M' := M_X7_isIn) (as := [.int x1, .int 0, .int 20]) (q := 7) dX7_vouchers_4 rfl W_X7_isIn k_X7_45 s_X7_isIn rfl rfl (by decide) (Nat.le_of_ble_eq_true rfl) (c_X7_isIn (zT sg s) x1 0 20) (Nat.le_refl _) (Nat.le_refl _) ?_
  rintro r9 h9 ⟨rfl, rfl⟩
  refine aw_ifneB (q := 10) (t := 13) dX7_vouchers_7 rfl (by decide) (fun h1 => ?_) (fun h1 => ?_)
  · replace H := zt h1 H
    refine aw_aload_n (q := 14) dX7_vouchers_13 rfl rfl ?_
    obtain ⟨v2, hv2, H⟩ := zbd H
    refine aw_cv (M' := M_X7_records) (as := []) (q := 17) dX7_vouchers_14 rfl W_X7_records k_X7_61 i_X7_records v_X7_records (by decide) (o_X7 sg s) rfl rfl rfl (by decide) (Nat.le_of_ble_eq_true rfl) (c_X7_records sg s hv2) (Nat.le_refl _) (Nat.le_refl _) ?_
    rintro r9 h9 ⟨rfl, rfl⟩
    refine aw_aload_n (q := 18) dX7_vouchers_17 rfl rfl ?_
    refine aw_getr (q := 21) dX7_vouchers_18 rfl e_X7_7 (by decide) (o_X7 sg v2) rfl ?_
    refine aw_iconst (q := 22) (v := 4) dX7_vouchers_21 rfl (by decide) ?_
    refine aw_iald' (q := 23) (v := v2 1 4) dX7_vouchers_22 rfl (by decide) (o_X7a0 sg v2) (zin_in (by decide)) rfl ?_
    obtain ⟨y3, q4, H⟩ := zltd H
    refine aw_nm q4 ?_
    refine aw_istore_n (q := 24) (L' := [some (.ref 120), some (.int x1), some (.int y3)]) dX7_vouchers_23 rfl (by decide) rfl rfl ?_
    refine aw_aload_n (q := 25) dX7_vouchers_24 rfl rfl ?_
    refine aw_getr (q := 28) dX7_vouchers_25 rfl e_X7_7 (by decide) (o_X7 sg v2) rfl ?_
    refine aw_iconst (q := 29) (v := 4) dX7_vouchers_28 rfl (by decide) ?_
    refine aw_iload_n (q := 30) dX7_vouchers_29 rfl rfl ?_
    obtain ⟨s5, q6, H⟩ := zltd H
    refine aw_iast (q := 31) dX7_vouchers_30 rfl (by decide) (o_X7a0 sg v2) (zin_in (by decide)) ((p_X7a0).trans (congrArg (fun z => zT sg z) q6.symm)) ?_
    refine aw_iload_n (q := 32) dX7_vouchers_31 rfl rfl ?_
    cases H
    exact aw_ret dX7_vouchers_32 rfl rfl rfl rfl ⟨rfl, rfl⟩
  · replace H := zf h1 H
    refine aw_ldc (q := 12) dX7_vouchers_10 rfl q_X7_53 ?_
    cases H
    exact aw_ret dX7_vouchers_12 rfl rfl rfl rfl ⟨rfl, rfl⟩
def f_X7_pass (s : zr) (x1 : Int32) : Option (Int32 × zr) :=
  if f_X7_isIn x1 1 60 = true then (
    if ((s 1 3) + x1) ≤ 10000 then (
      Option.bind (f_X7_records s) fun v3 =>
      zlt (zm v3 1 3 ((v3 1 3) + x1)) fun s4 =>
      zlt (zm s4 1 5 0) fun s6 =>
      some (f_X7_weekday s6, s6)
    ) else (
      some ((-1000003), s)
    )
  ) else (
    some ((-1000001), s)
  )
set_option maxHeartbeats 4000000 in
set_option maxRecDepth 100000 in
theorem c_X7_pass {G : zG} {sl : Nat} (sg : zs) (s : zr) (x1 : Int32) {v9 : (Int32 × zr)} (H : f_X7_pass s x1 = some v9) : zMv G 1 M_X7_pass [.ref 120, .int x1] sl (zT sg s) (fun r h' => r = some (.int v9.1) ∧ h' = zT sg v9.2) := by
  unfold f_X7_pass at H
  refine zMv_of (L := [some (.ref 120), some (.int x1)]) (by decide) rfl (Nat.le_of_ble_eq_true rfl) rfl ?_
  refine aw_iload_n (q := 1) dX7_pass_0 rfl rfl ?_
  refine aw_iconst (q := 2) (v := 1) dX7_pass_1 rfl (by decide) ?_
  refine aw_bipush (q := 4) (v := 60) dX7_pass_2 rfl (by decide) ?_
  refine aw_cs (M' := M_X7_isIn) (as := [.int x1, .int 1, .int 60]) (q := 7) dX7_pass_4 rfl W_X7_isIn k_X7_45 s_X7_isIn rfl rfl (by decide) (Nat.le_of_ble_eq_true rfl) (c_X7_isIn (zT sg s) x1 1 60) (Nat.le_refl _) (Nat.le_refl _) ?_
  rintro r9 h9 ⟨rfl, rfl⟩
  refine aw_ifneB (q := 10) (t := 13) dX7_pass_7 rfl (by decide) (fun h1 => ?_) (fun h1 => ?_)
  · replace H := zt h1 H
    refine aw_aload_n (q := 14) dX7_pass_13 rfl rfl ?_
    refine aw_getr (q := 17) dX7_pass_14 rfl e_X7_7 (by decide) (o_X7 sg s) rfl ?_
    refine aw_iconst (q := 18) (v := 3) dX7_pass_17 rfl (by decide) ?_
    refine aw_iald' (q := 19) (v := s 1 3) dX7_pass_18 rfl (by decide) (o_X7a0 sg s) (zin_in (by decide)) rfl ?_
    refine aw_iload_n (q := 20) dX7_pass_19 rfl rfl ?_
    refine aw_iadd (q := 21) dX7_pass_20 rfl ?_
    refine aw_sipush (q := 24) (v := 10000) dX7_pass_21 rfl (by decide) ?_
    refine aw_icmp_le (q := 27) (t := 30) dX7_pass_24 rfl (by decide) (fun h2 => ?_) (fun h2 => ?_)
    · replace H := zt h2 H
      refine aw_aload_n (q := 31) dX7_pass_30 rfl rfl ?_
      obtain ⟨v3, hv3, H⟩ := zbd H
      refine aw_cv (M' := M_X7_records) (as := []) (q := 34) dX7_pass_31 rfl W_X7_records k_X7_61 i_X7_records v_X7_records (by decide) (o_X7 sg s) rfl rfl rfl (by decide) (Nat.le_of_ble_eq_true rfl) (c_X7_records sg s hv3) (Nat.le_refl _) (Nat.le_refl _) ?_
      rintro r9 h9 ⟨rfl, rfl⟩
      refine aw_aload_n (q := 35) dX7_pass_34 rfl rfl ?_
      refine aw_getr (q := 38) dX7_pass_35 rfl e_X7_7 (by decide) (o_X7 sg v3) rfl ?_
      refine aw_iconst (q := 39) (v := 3) dX7_pass_38 rfl (by decide) ?_
      refine aw_dup2 (q := 40) dX7_pass_39 rfl rfl rfl ?_
      refine aw_iald' (q := 41) (v := v3 1 3) dX7_pass_40 rfl (by decide) (o_X7a0 sg v3) (zin_in (by decide)) rfl ?_
      refine aw_iload_n (q := 42) dX7_pass_41 rfl rfl ?_
      refine aw_iadd (q := 43) dX7_pass_42 rfl ?_
      obtain ⟨s4, q5, H⟩ := zltd H
      refine aw_iast (q := 44) dX7_pass_43 rfl (by decide) (o_X7a0 sg v3) (zin_in (by decide)) ((p_X7a0).trans (congrArg (fun z => zT sg z) q5.symm)) ?_
      refine aw_aload_n (q := 45) dX7_pass_44 rfl rfl ?_
      refine aw_getr (q := 48) dX7_pass_45 rfl e_X7_7 (by decide) (o_X7 sg s4) rfl ?_
      refine aw_iconst (q := 49) (v := 5) dX7_pass_48 rfl (by decide) ?_
      refine aw_iconst (q := 50) (v := 0) dX7_pass_49 rfl (by decide) ?_
      obtain ⟨s6, q7, H⟩ := zltd H
      refine aw_iast (q := 51) dX7_pass_50 rfl (by decide) (o_X7a0 sg s4) (zin_in (by decide)) ((p_X7a0).trans (congrArg (fun z => zT sg z) q7.symm)) ?_
      refine aw_aload_n (q := 52) dX7_pass_51 rfl rfl ?_
      refine aw_cv (M' := M_X7_weekday) (as := []) (q := 55) dX7_pass_52 rfl W_X7_weekday k_X7_86 i_X7_weekday v_X7_weekday (by decide) (o_X7 sg s6) rfl rfl rfl (by decide) (Nat.le_of_ble_eq_true rfl) (c_X7_weekday sg s6) (Nat.le_refl _) (Nat.le_refl _) ?_
      rintro r9 h9 ⟨rfl, rfl⟩
      cases H
      exact aw_ret dX7_pass_55 rfl rfl rfl rfl ⟨rfl, rfl⟩
    · replace H := zf h2 H
      refine aw_ldc (q := 29) dX7_pass_27 rfl q_X7_57 ?_
      cases H
      exact aw_ret dX7_pass_29 rfl rfl rfl rfl ⟨rfl, rfl⟩
  · replace H := zf h1 H
    refine aw_ldc (q := 12) dX7_pass_10 rfl q_X7_53 ?_
    cases H
    exact aw_ret dX7_pass_12 rfl rfl rfl rfl ⟨rfl, rfl⟩
def f_X7_suspects (s : zr) : Int32 :=
  s 1 7
set_option maxHeartbeats 4000000 in
set_option maxRecDepth 100000 in
theorem c_X7_suspects {G : zG} {sl : Nat} (sg : zs) (s : zr)   : zMv G 0 M_X7_suspects [.ref 120] sl (zT sg s) (fun r h' => r = some (.int (f_X7_suspects s)) ∧ h' = (zT sg s)) := by
  generalize H : f_X7_suspects s = r0
  unfold f_X7_suspects at H
  refine zMv_of (L := [some (.ref 120)]) (by decide) rfl (Nat.le_of_ble_eq_true rfl) rfl ?_
  refine aw_aload_n (q := 1) dX7_suspects_0 rfl rfl ?_
  refine aw_getr (q := 4) dX7_suspects_1 rfl e_X7_7 (by decide) (o_X7 sg s) rfl ?_
  refine aw_bipush (q := 6) (v := 7) dX7_suspects_4 rfl (by decide) ?_
  refine aw_iald' (q := 7) (v := s 1 7) dX7_suspects_6 rfl (by decide) (o_X7a0 sg s) (zin_in (by decide)) rfl ?_
  subst H
  exact aw_ret dX7_suspects_7 rfl rfl rfl rfl ⟨rfl, rfl⟩
def f_X7_worstOn_13 : Nat → zr → Int32 → Int32 → Option (Int32)
  | 0, _, _, _ => none
  | k + 1, s, x2, x3 =>
    if (10 : Int32) < x3 then (
      some x2
    ) else (
      if f_X7_has (s 1 7) x3 = true then (
        Option.bind (f_X7_likeSet s x3) fun v3 =>
        Option.bind (f_X7_ones (v3 &&& (s 1 7))) fun v4 =>
        if v4 ≤ x2 then (
          f_X7_worstOn_13 k s x2 (x3 + 1)
        ) else (
          f_X7_worstOn_13 k s v4 (x3 + 1)
        )
      ) else (
        f_X7_worstOn_13 k s x2 (x3 + 1)
      )
    )
set_option maxHeartbeats 4000000 in
set_option maxRecDepth 100000 in
theorem L_X7_worstOn_13 {G : zG} {sl : Nat} {P : Option Value → zH → Prop} (sg : zs)  : ∀ (k : Nat) (s : zr) (x2 : Int32) (x3 : Int32) (e : Int32), f_X7_worstOn_13 k s x2 x3 = some e → (AV G M_X7_worstOn 9 sl P 70 [none, none, some (.int e), none, none] [] (zT sg s)) → AV G M_X7_worstOn 9 sl P 13 [some (.ref 120), none, some (.int x2), some (.int x3), none] [] (zT sg s) := by
  intro k
  induction k with
  | zero =>
    intro s x2 x3 e H
    unfold f_X7_worstOn_13 at H
    cases H
  | succ k ih =>
    intro s x2 x3 e H KE
    unfold f_X7_worstOn_13 at H
    refine aw_iload_n (q := 14) dX7_worstOn_13 rfl rfl ?_
    refine aw_bipush (q := 16) (v := 10) dX7_worstOn_14 rfl (by decide) ?_
    refine aw_icmp_gt (q := 19) (t := 70) dX7_worstOn_16 rfl (by decide) (fun h1 => ?_) (fun h1 => ?_)
    · replace H := zt h1 H
      cases H
      exact aw_fewer (L' := [none, none, some (.int x2), none, none]) ⟨rfl, trivial⟩ KE
    · replace H := zf h1 H
      refine aw_aload_n (q := 20) dX7_worstOn_19 rfl rfl ?_
      refine aw_getr (q := 23) dX7_worstOn_20 rfl e_X7_7 (by decide) (o_X7 sg s) rfl ?_
      refine aw_bipush (q := 25) (v := 7) dX7_worstOn_23 rfl (by decide) ?_
      refine aw_iald' (q := 26) (v := s 1 7) dX7_worstOn_25 rfl (by decide) (o_X7a0 sg s) (zin_in (by decide)) rfl ?_
      refine aw_iload_n (q := 27) dX7_worstOn_26 rfl rfl ?_
      refine aw_cs (M' := M_X7_has) (as := [.int (s 1 7), .int x3]) (q := 30) dX7_worstOn_27 rfl W_X7_has k_X7_36 s_X7_has rfl rfl (by decide) (Nat.le_of_ble_eq_true rfl) (c_X7_has (zT sg s) (s 1 7) x3) (Nat.le_refl _) (Nat.le_refl _) ?_
      rintro r9 h9 ⟨rfl, rfl⟩
      refine aw_ifeqB (q := 33) (t := 64) dX7_worstOn_30 rfl (by decide) (fun h2 => ?_) (fun h2 => ?_)
      · replace H := zt h2 H
        refine aw_aload_n (q := 34) dX7_worstOn_33 rfl rfl ?_
        refine aw_iload_n (q := 35) dX7_worstOn_34 rfl rfl ?_
        obtain ⟨v3, hv3, H⟩ := zbd H
        refine aw_cv (M' := M_X7_likeSet) (as := [.int x3]) (q := 38) dX7_worstOn_35 rfl W_X7_likeSet k_X7_160 i_X7_likeSet v_X7_likeSet (by decide) (o_X7 sg s) rfl rfl rfl (by decide) (Nat.le_of_ble_eq_true rfl) (c_X7_likeSet sg s x3 hv3) (Nat.le_refl _) (Nat.le_refl _) ?_
        rintro r9 h9 ⟨rfl, rfl⟩
        refine aw_aload_n (q := 39) dX7_worstOn_38 rfl rfl ?_
        refine aw_getr (q := 42) dX7_worstOn_39 rfl e_X7_7 (by decide) (o_X7 sg s) rfl ?_
        refine aw_bipush (q := 44) (v := 7) dX7_worstOn_42 rfl (by decide) ?_
        refine aw_iald' (q := 45) (v := s 1 7) dX7_worstOn_44 rfl (by decide) (o_X7a0 sg s) (zin_in (by decide)) rfl ?_
        refine aw_iand (q := 46) dX7_worstOn_45 rfl ?_
        obtain ⟨v4, hv4, H⟩ := zbd H
        refine aw_cs (M' := M_X7_ones) (as := [.int (v3 &&& (s 1 7))]) (q := 49) dX7_worstOn_46 rfl W_X7_ones k_X7_49 s_X7_ones rfl rfl (by decide) (Nat.le_of_ble_eq_true rfl) (c_X7_ones (zT sg s) (v3 &&& (s 1 7)) hv4) (Nat.le_refl _) (Nat.le_refl _) ?_
        rintro r9 h9 ⟨rfl, rfl⟩
        refine aw_istore (q := 51) (L' := [some (.ref 120), none, some (.int x2), some (.int x3), some (.int v4)]) dX7_worstOn_49 rfl (by decide) rfl rfl ?_
        refine aw_iload (q := 53) dX7_worstOn_51 rfl rfl ?_
        refine aw_iload_n (q := 54) dX7_worstOn_53 rfl rfl ?_
        refine aw_icmp_le (q := 57) (t := 62) dX7_worstOn_54 rfl (by decide) (fun h5 => ?_) (fun h5 => ?_)
        · replace H := zt h5 H
          refine aw_iload_n (q := 63) dX7_worstOn_62 rfl rfl ?_
          refine aw_istore_n (q := 64) (L' := [some (.ref 120), none, some (.int x2), some (.int x3), some (.int v4)]) dX7_worstOn_63 rfl (by decide) rfl rfl ?_
          refine aw_iinc (q := 67) (v := x3 + 1) (L' := [some (.ref 120), none, some (.int x2), some (.int (x3 + 1)), some (.int v4)]) dX7_worstOn_64 rfl rfl (by first | rfl | decide) (by decide) rfl rfl ?_
          refine aw_goto (q := 13) dX7_worstOn_67 (by decide) ?_
          exact aw_fewer (L' := [some (.ref 120), none, some (.int x2), some (.int (x3 + 1)), none]) ⟨rfl, ⟨rfl, ⟨rfl, trivial⟩⟩⟩ (ih s x2 (x3 + 1) _ H KE)
        · replace H := zf h5 H
          refine aw_iload (q := 59) dX7_worstOn_57 rfl rfl ?_
          refine aw_goto (q := 63) dX7_worstOn_59 (by decide) ?_
          refine aw_istore_n (q := 64) (L' := [some (.ref 120), none, some (.int v4), some (.int x3), some (.int v4)]) dX7_worstOn_63 rfl (by decide) rfl rfl ?_
          refine aw_iinc (q := 67) (v := x3 + 1) (L' := [some (.ref 120), none, some (.int v4), some (.int (x3 + 1)), some (.int v4)]) dX7_worstOn_64 rfl rfl (by first | rfl | decide) (by decide) rfl rfl ?_
          refine aw_goto (q := 13) dX7_worstOn_67 (by decide) ?_
          exact aw_fewer (L' := [some (.ref 120), none, some (.int v4), some (.int (x3 + 1)), none]) ⟨rfl, ⟨rfl, ⟨rfl, trivial⟩⟩⟩ (ih s v4 (x3 + 1) _ H KE)
      · replace H := zf h2 H
        refine aw_iinc (q := 67) (v := x3 + 1) (L' := [some (.ref 120), none, some (.int x2), some (.int (x3 + 1)), none]) dX7_worstOn_64 rfl rfl (by first | rfl | decide) (by decide) rfl rfl ?_
        refine aw_goto (q := 13) dX7_worstOn_67 (by decide) ?_
        exact aw_fewer (L' := [some (.ref 120), none, some (.int x2), some (.int (x3 + 1)), none]) ⟨rfl, ⟨rfl, ⟨rfl, trivial⟩⟩⟩ (ih s x2 (x3 + 1) _ H KE)
def f_X7_worstOn (s : zr) (x1 : Int32) : Option (Int32 × zr) :=
  Option.bind (f_X7_touchedOn s x1) fun v1 =>
  Option.bind (f_X7_measures s v1) fun v2 =>
  Option.bind (f_X7_worstOn_13 zFu v2 0 0) fun e3 =>
  some (e3, v2)
set_option maxHeartbeats 4000000 in
set_option maxRecDepth 100000 in
theorem c_X7_worstOn {G : zG} {sl : Nat} (sg : zs) (s : zr) (x1 : Int32) {v9 : (Int32 × zr)} (H : f_X7_worstOn s x1 = some v9) : zMv G 9 M_X7_worstOn [.ref 120, .int x1] sl (zT sg s) (fun r h' => r = some (.int v9.1) ∧ h' = zT sg v9.2) := by
  unfold f_X7_worstOn at H
  refine zMv_of (L := [some (.ref 120), some (.int x1), none, none, none]) (by decide) rfl (Nat.le_of_ble_eq_true rfl) rfl ?_
  refine aw_aload_n (q := 1) dX7_worstOn_0 rfl rfl ?_
  refine aw_aload_n (q := 2) dX7_worstOn_1 rfl rfl ?_
  refine aw_iload_n (q := 3) dX7_worstOn_2 rfl rfl ?_
  obtain ⟨v1, hv1, H⟩ := zbd H
  refine aw_cv (M' := M_X7_touchedOn) (as := [.int x1]) (q := 6) dX7_worstOn_3 rfl W_X7_touchedOn k_X7_90 i_X7_touchedOn v_X7_touchedOn (by decide) (o_X7 sg s) rfl rfl rfl (by decide) (Nat.le_of_ble_eq_true rfl) (c_X7_touchedOn sg s x1 hv1) (Nat.le_refl _) (Nat.le_refl _) ?_
  rintro r9 h9 ⟨rfl, rfl⟩
  obtain ⟨v2, hv2, H⟩ := zbd H
  refine aw_cv (M' := M_X7_measures) (as := [.int v1]) (q := 9) dX7_worstOn_6 rfl W_X7_measures k_X7_156 i_X7_measures v_X7_measures (by decide) (o_X7 sg s) rfl rfl rfl (by decide) (Nat.le_of_ble_eq_true rfl) (c_X7_measures sg s v1 hv2) (Nat.le_refl _) (Nat.le_refl _) ?_
  rintro r9 h9 ⟨rfl, rfl⟩
  refine aw_iconst (q := 10) (v := 0) dX7_worstOn_9 rfl (by decide) ?_
  refine aw_istore_n (q := 11) (L' := [some (.ref 120), some (.int x1), some (.int 0), none, none]) dX7_worstOn_10 rfl (by decide) rfl rfl ?_
  refine aw_iconst (q := 12) (v := 0) dX7_worstOn_11 rfl (by decide) ?_
  refine aw_istore_n (q := 13) (L' := [some (.ref 120), some (.int x1), some (.int 0), some (.int 0), none]) dX7_worstOn_12 rfl (by decide) rfl rfl ?_
  obtain ⟨e3, he3, H⟩ := zbd H
  refine aw_fewer (L' := [some (.ref 120), none, some (.int 0), some (.int 0), none]) ⟨rfl, ⟨rfl, ⟨rfl, trivial⟩⟩⟩ ?_
  refine L_X7_worstOn_13 sg  zFu v2 0 0 e3 he3 ?_
  refine aw_iload_n (q := 71) dX7_worstOn_70 rfl rfl ?_
  cases H
  exact aw_ret dX7_worstOn_71 rfl rfl rfl rfl ⟨rfl, rfl⟩
def f_X7_bestDay_26 : Nat → zr → Int32 → Int32 → Int32 → Int32 → Option (zr × Int32 × Int32)
  | 0, _, _, _, _, _ => none
  | k + 1, s, x1, x2, x3, x4 =>
    if (7 : Int32) ≤ x4 then (
      some (s, x2, x3)
    ) else (
      zlt (((f_X7_weekday s) + x4) - ((f_X7_weekday s) + x4) / 7 * 7 : Int32) fun y2 =>
      Option.bind (f_X7_worstOn s y2) fun v4 =>
      if x3 ≤ v4.1 then (
        f_X7_bestDay_26 k v4.2 x1 x2 x3 (x4 + 1)
      ) else (
        f_X7_bestDay_26 k v4.2 x1 y2 v4.1 (x4 + 1)
      )
    )
set_option maxHeartbeats 4000000 in
set_option maxRecDepth 100000 in
theorem L_X7_bestDay_26 {G : zG} {sl : Nat} {P : Option Value → zH → Prop} (sg : zs) (x1 : Int32) : ∀ (k : Nat) (s : zr) (x2 : Int32) (x3 : Int32) (x4 : Int32) (e : zr × Int32 × Int32), f_X7_bestDay_26 k s x1 x2 x3 x4 = some e → (AV G M_X7_bestDay 10 sl P 85 [none, some (.int x1), some (.int e.2.1), some (.int e.2.2), none, none, none] [] (zT sg e.1)) → AV G M_X7_bestDay 10 sl P 26 [some (.ref 120), some (.int x1), some (.int x2), some (.int x3), some (.int x4), none, none] [] (zT sg s) := by
  intro k
  induction k with
  | zero =>
    intro s x2 x3 x4 e H
    unfold f_X7_bestDay_26 at H
    cases H
  | succ k ih =>
    intro s x2 x3 x4 e H KE
    unfold f_X7_bestDay_26 at H
    refine aw_iload (q := 28) dX7_bestDay_26 rfl rfl ?_
    refine aw_bipush (q := 30) (v := 7) dX7_bestDay_28 rfl (by decide) ?_
    refine aw_icmp_ge (q := 33) (t := 85) dX7_bestDay_30 rfl (by decide) (fun h1 => ?_) (fun h1 => ?_)
    · replace H := zt h1 H
      cases H
      exact aw_fewer (L' := [none, some (.int x1), some (.int x2), some (.int x3), none, none, none]) ⟨rfl, ⟨rfl, ⟨rfl, trivial⟩⟩⟩ KE
    · replace H := zf h1 H
      refine aw_aload_n (q := 34) dX7_bestDay_33 rfl rfl ?_
      refine aw_cv (M' := M_X7_weekday) (as := []) (q := 37) dX7_bestDay_34 rfl W_X7_weekday k_X7_86 i_X7_weekday v_X7_weekday (by decide) (o_X7 sg s) rfl rfl rfl (by decide) (Nat.le_of_ble_eq_true rfl) (c_X7_weekday sg s) (Nat.le_refl _) (Nat.le_refl _) ?_
      rintro r9 h9 ⟨rfl, rfl⟩
      refine aw_iload (q := 39) dX7_bestDay_37 rfl rfl ?_
      refine aw_iadd (q := 40) dX7_bestDay_39 rfl ?_
      refine aw_bipush (q := 42) (v := 7) dX7_bestDay_40 rfl (by decide) ?_
      refine aw_irem (q := 43) dX7_bestDay_42 rfl (by decide) ?_
      obtain ⟨y2, q3, H⟩ := zltd H
      refine aw_nm q3 ?_
      refine aw_istore (q := 45) (L' := [some (.ref 120), some (.int x1), some (.int x2), some (.int x3), some (.int x4), some (.int y2), none]) dX7_bestDay_43 rfl (by decide) rfl rfl ?_
      refine aw_aload_n (q := 46) dX7_bestDay_45 rfl rfl ?_
      refine aw_iload (q := 48) dX7_bestDay_46 rfl rfl ?_
      obtain ⟨v4, hv4, H⟩ := zbd H
      refine aw_cv (M' := M_X7_worstOn) (as := [.int y2]) (q := 51) dX7_bestDay_48 rfl W_X7_worstOn k_X7_185 i_X7_worstOn v_X7_worstOn (by decide) (o_X7 sg s) rfl rfl rfl (by decide) (Nat.le_of_ble_eq_true rfl) (c_X7_worstOn sg s y2 hv4) (Nat.le_refl _) (Nat.le_refl _) ?_
      rintro r9 h9 ⟨rfl, rfl⟩
      refine aw_istore (q := 53) (L' := [some (.ref 120), some (.int x1), some (.int x2), some (.int x3), some (.int x4), some (.int y2), some (.int v4.1)]) dX7_bestDay_51 rfl (by decide) rfl rfl ?_
      refine aw_iload (q := 55) dX7_bestDay_53 rfl rfl ?_
      refine aw_iload_n (q := 56) dX7_bestDay_55 rfl rfl ?_
      refine aw_icmp_ge (q := 59) (t := 64) dX7_bestDay_56 rfl (by decide) (fun h5 => ?_) (fun h5 => ?_)
      · replace H := zt h5 H
        refine aw_iload_n (q := 65) dX7_bestDay_64 rfl rfl ?_
        refine aw_istore_n (q := 66) (L' := [some (.ref 120), some (.int x1), some (.int x2), some (.int x3), some (.int x4), some (.int y2), some (.int v4.1)]) dX7_bestDay_65 rfl (by decide) rfl rfl ?_
        refine aw_iload (q := 68) dX7_bestDay_66 rfl rfl ?_
        refine aw_iload_n (q := 69) dX7_bestDay_68 rfl rfl ?_
        refine aw_icmp_ge (q := 72) (t := 77) dX7_bestDay_69 rfl (by decide) (fun _ => ?_) (fun z => absurd h5 z)
        refine aw_iload_n (q := 78) dX7_bestDay_77 rfl rfl ?_
        refine aw_istore_n (q := 79) (L' := [some (.ref 120), some (.int x1), some (.int x2), some (.int x3), some (.int x4), some (.int y2), some (.int v4.1)]) dX7_bestDay_78 rfl (by decide) rfl rfl ?_
        refine aw_iinc (q := 82) (v := x4 + 1) (L' := [some (.ref 120), some (.int x1), some (.int x2), some (.int x3), some (.int (x4 + 1)), some (.int y2), some (.int v4.1)]) dX7_bestDay_79 rfl rfl (by first | rfl | decide) (by decide) rfl rfl ?_
        refine aw_goto (q := 26) dX7_bestDay_82 (by decide) ?_
        exact aw_fewer (L' := [some (.ref 120), some (.int x1), some (.int x2), some (.int x3), some (.int (x4 + 1)), none, none]) ⟨rfl, ⟨rfl, ⟨rfl, ⟨rfl, ⟨rfl, trivial⟩⟩⟩⟩⟩ (ih v4.2 x2 x3 (x4 + 1) _ H KE)
      · replace H := zf h5 H
        refine aw_iload (q := 61) dX7_bestDay_59 rfl rfl ?_
        refine aw_goto (q := 65) dX7_bestDay_61 (by decide) ?_
        refine aw_istore_n (q := 66) (L' := [some (.ref 120), some (.int x1), some (.int y2), some (.int x3), some (.int x4), some (.int y2), some (.int v4.1)]) dX7_bestDay_65 rfl (by decide) rfl rfl ?_
        refine aw_iload (q := 68) dX7_bestDay_66 rfl rfl ?_
        refine aw_iload_n (q := 69) dX7_bestDay_68 rfl rfl ?_
        refine aw_icmp_ge (q := 72) (t := 77) dX7_bestDay_69 rfl (by decide) (fun z => absurd z h5) (fun _ => ?_)
        refine aw_iload (q := 74) dX7_bestDay_72 rfl rfl ?_
        refine aw_goto (q := 78) dX7_bestDay_74 (by decide) ?_
        refine aw_istore_n (q := 79) (L' := [some (.ref 120), some (.int x1), some (.int y2), some (.int v4.1), some (.int x4), some (.int y2), some (.int v4.1)]) dX7_bestDay_78 rfl (by decide) rfl rfl ?_
        refine aw_iinc (q := 82) (v := x4 + 1) (L' := [some (.ref 120), some (.int x1), some (.int y2), some (.int v4.1), some (.int (x4 + 1)), some (.int y2), some (.int v4.1)]) dX7_bestDay_79 rfl rfl (by first | rfl | decide) (by decide) rfl rfl ?_
        refine aw_goto (q := 26) dX7_bestDay_82 (by decide) ?_
        exact aw_fewer (L' := [some (.ref 120), some (.int x1), some (.int y2), some (.int v4.1), some (.int (x4 + 1)), none, none]) ⟨rfl, ⟨rfl, ⟨rfl, ⟨rfl, ⟨rfl, trivial⟩⟩⟩⟩⟩ (ih v4.2 y2 v4.1 (x4 + 1) _ H KE)
def f_X7_bestDay (s : zr) (x1 : Int32) : Option (Int32 × zr) :=
  if f_X7_isIn x1 0 1 = true then (
    zlt (f_X7_weekday s : Int32) fun y2 =>
    Option.bind (f_X7_worstOn s y2) fun v4 =>
    Option.bind (f_X7_bestDay_26 zFu v4.2 x1 y2 v4.1 1) fun e5 =>
    if x1 = 0 then (
      some (e5.2.1, e5.1)
    ) else (
      some (e5.2.2, e5.1)
    )
  ) else (
    some ((-1000001), s)
  )
set_option maxHeartbeats 4000000 in
set_option maxRecDepth 100000 in
theorem c_X7_bestDay {G : zG} {sl : Nat} (sg : zs) (s : zr) (x1 : Int32) {v9 : (Int32 × zr)} (H : f_X7_bestDay s x1 = some v9) : zMv G 10 M_X7_bestDay [.ref 120, .int x1] sl (zT sg s) (fun r h' => r = some (.int v9.1) ∧ h' = zT sg v9.2) := by
  unfold f_X7_bestDay at H
  refine zMv_of (L := [some (.ref 120), some (.int x1), none, none, none, none, none]) (by decide) rfl (Nat.le_of_ble_eq_true rfl) rfl ?_
  refine aw_iload_n (q := 1) dX7_bestDay_0 rfl rfl ?_
  refine aw_iconst (q := 2) (v := 0) dX7_bestDay_1 rfl (by decide) ?_
  refine aw_iconst (q := 3) (v := 1) dX7_bestDay_2 rfl (by decide) ?_
  refine aw_cs (M' := M_X7_isIn) (as := [.int x1, .int 0, .int 1]) (q := 6) dX7_bestDay_3 rfl W_X7_isIn k_X7_45 s_X7_isIn rfl rfl (by decide) (Nat.le_of_ble_eq_true rfl) (c_X7_isIn (zT sg s) x1 0 1) (Nat.le_refl _) (Nat.le_refl _) ?_
  rintro r9 h9 ⟨rfl, rfl⟩
  refine aw_ifneB (q := 9) (t := 12) dX7_bestDay_6 rfl (by decide) (fun h1 => ?_) (fun h1 => ?_)
  · replace H := zt h1 H
    refine aw_aload_n (q := 13) dX7_bestDay_12 rfl rfl ?_
    refine aw_cv (M' := M_X7_weekday) (as := []) (q := 16) dX7_bestDay_13 rfl W_X7_weekday k_X7_86 i_X7_weekday v_X7_weekday (by decide) (o_X7 sg s) rfl rfl rfl (by decide) (Nat.le_of_ble_eq_true rfl) (c_X7_weekday sg s) (Nat.le_refl _) (Nat.le_refl _) ?_
    rintro r9 h9 ⟨rfl, rfl⟩
    obtain ⟨y2, q3, H⟩ := zltd H
    refine aw_nm q3 ?_
    refine aw_istore_n (q := 17) (L' := [some (.ref 120), some (.int x1), some (.int y2), none, none, none, none]) dX7_bestDay_16 rfl (by decide) rfl rfl ?_
    refine aw_aload_n (q := 18) dX7_bestDay_17 rfl rfl ?_
    refine aw_iload_n (q := 19) dX7_bestDay_18 rfl rfl ?_
    obtain ⟨v4, hv4, H⟩ := zbd H
    refine aw_cv (M' := M_X7_worstOn) (as := [.int y2]) (q := 22) dX7_bestDay_19 rfl W_X7_worstOn k_X7_185 i_X7_worstOn v_X7_worstOn (by decide) (o_X7 sg s) rfl rfl rfl (by decide) (Nat.le_of_ble_eq_true rfl) (c_X7_worstOn sg s y2 hv4) (Nat.le_refl _) (Nat.le_refl _) ?_
    rintro r9 h9 ⟨rfl, rfl⟩
    refine aw_istore_n (q := 23) (L' := [some (.ref 120), some (.int x1), some (.int y2), some (.int v4.1), none, none, none]) dX7_bestDay_22 rfl (by decide) rfl rfl ?_
    refine aw_iconst (q := 24) (v := 1) dX7_bestDay_23 rfl (by decide) ?_
    refine aw_istore (q := 26) (L' := [some (.ref 120), some (.int x1), some (.int y2), some (.int v4.1), some (.int 1), none, none]) dX7_bestDay_24 rfl (by decide) rfl rfl ?_
    obtain ⟨e5, he5, H⟩ := zbd H
    refine aw_fewer (L' := [some (.ref 120), some (.int x1), some (.int y2), some (.int v4.1), some (.int 1), none, none]) ⟨rfl, ⟨rfl, ⟨rfl, ⟨rfl, ⟨rfl, trivial⟩⟩⟩⟩⟩ ?_
    refine L_X7_bestDay_26 sg x1 zFu v4.2 y2 v4.1 1 e5 he5 ?_
    refine aw_iload_n (q := 86) dX7_bestDay_85 rfl rfl ?_
    refine aw_if_neP (q := 89) (t := 93) dX7_bestDay_86 rfl (by decide) (fun h6 => ?_) (fun h6 => ?_)
    · replace H := zt h6 H
      refine aw_iload_n (q := 90) dX7_bestDay_89 rfl rfl ?_
      refine aw_goto (q := 94) dX7_bestDay_90 (by decide) ?_
      cases H
      exact aw_ret dX7_bestDay_94 rfl rfl rfl rfl ⟨rfl, rfl⟩
    · replace H := zf h6 H
      refine aw_iload_n (q := 94) dX7_bestDay_93 rfl rfl ?_
      cases H
      exact aw_ret dX7_bestDay_94 rfl rfl rfl rfl ⟨rfl, rfl⟩
  · replace H := zf h1 H
    refine aw_ldc (q := 11) dX7_bestDay_9 rfl q_X7_53 ?_
    cases H
    exact aw_ret dX7_bestDay_11 rfl rfl rfl rfl ⟨rfl, rfl⟩
def f_X7_inDrawer_4 : Nat → zr → Int32 → Int32 → Int32 → Option (Int32)
  | 0, _, _, _, _ => none
  | k + 1, s, x1, x2, x3 =>
    if (s 1 2) ≤ x3 then (
      some x2
    ) else (
      if zin ((62 : Int32) + x3) 88 = true then
      if (s 1 (((62 : Int32) + x3).toNatClampNeg)) = x1 then (
        zlt (x2 + 1 : Int32) fun y4 =>
        f_X7_inDrawer_4 k s x1 y4 (x3 + 1)
      ) else (
        zlt (x2 + 0 : Int32) fun y6 =>
        f_X7_inDrawer_4 k s x1 y6 (x3 + 1)
      )
      else none
    )
set_option maxHeartbeats 4000000 in
set_option maxRecDepth 100000 in
theorem L_X7_inDrawer_4 {G : zG} {sl : Nat} {P : Option Value → zH → Prop} (sg : zs) (x1 : Int32) : ∀ (k : Nat) (s : zr) (x2 : Int32) (x3 : Int32) (e : Int32), f_X7_inDrawer_4 k s x1 x2 x3 = some e → (AV G M_X7_inDrawer 0 sl P 41 [none, none, some (.int e), none] [] (zT sg s)) → AV G M_X7_inDrawer 0 sl P 4 [some (.ref 120), some (.int x1), some (.int x2), some (.int x3)] [] (zT sg s) := by
  intro k
  induction k with
  | zero =>
    intro s x2 x3 e H
    unfold f_X7_inDrawer_4 at H
    cases H
  | succ k ih =>
    intro s x2 x3 e H KE
    unfold f_X7_inDrawer_4 at H
    refine aw_iload_n (q := 5) dX7_inDrawer_4 rfl rfl ?_
    refine aw_aload_n (q := 6) dX7_inDrawer_5 rfl rfl ?_
    refine aw_getr (q := 9) dX7_inDrawer_6 rfl e_X7_7 (by decide) (o_X7 sg s) rfl ?_
    refine aw_iconst (q := 10) (v := 2) dX7_inDrawer_9 rfl (by decide) ?_
    refine aw_iald' (q := 11) (v := s 1 2) dX7_inDrawer_10 rfl (by decide) (o_X7a0 sg s) (zin_in (by decide)) rfl ?_
    refine aw_icmp_ge (q := 14) (t := 41) dX7_inDrawer_11 rfl (by decide) (fun h1 => ?_) (fun h1 => ?_)
    · replace H := zt h1 H
      cases H
      exact aw_fewer (L' := [none, none, some (.int x2), none]) ⟨rfl, trivial⟩ KE
    · replace H := zf h1 H
      refine aw_iload_n (q := 15) dX7_inDrawer_14 rfl rfl ?_
      refine aw_aload_n (q := 16) dX7_inDrawer_15 rfl rfl ?_
      refine aw_getr (q := 19) dX7_inDrawer_16 rfl e_X7_7 (by decide) (o_X7 sg s) rfl ?_
      refine aw_bipush (q := 21) (v := 62) dX7_inDrawer_19 rfl (by decide) ?_
      refine aw_iload_n (q := 22) dX7_inDrawer_21 rfl rfl ?_
      refine aw_iadd (q := 23) dX7_inDrawer_22 rfl ?_
      obtain ⟨h2, H⟩ := zio H
      refine aw_iald' (q := 24) (v := s 1 (((62 : Int32) + x3).toNatClampNeg)) dX7_inDrawer_23 rfl (by decide) (o_X7a0 sg s) (zin_in h2) rfl ?_
      refine aw_iload_n (q := 25) dX7_inDrawer_24 rfl rfl ?_
      refine aw_icmp_neP (q := 28) (t := 32) dX7_inDrawer_25 rfl (by decide) (fun h3 => ?_) (fun h3 => ?_)
      · replace H := zt h3 H
        refine aw_iconst (q := 29) (v := 1) dX7_inDrawer_28 rfl (by decide) ?_
        refine aw_goto (q := 33) dX7_inDrawer_29 (by decide) ?_
        refine aw_iadd (q := 34) dX7_inDrawer_33 rfl ?_
        obtain ⟨y4, q5, H⟩ := zltd H
        refine aw_nm q5 ?_
        refine aw_istore_n (q := 35) (L' := [some (.ref 120), some (.int x1), some (.int y4), some (.int x3)]) dX7_inDrawer_34 rfl (by decide) rfl rfl ?_
        refine aw_iinc (q := 38) (v := x3 + 1) (L' := [some (.ref 120), some (.int x1), some (.int y4), some (.int (x3 + 1))]) dX7_inDrawer_35 rfl rfl (by first | rfl | decide) (by decide) rfl rfl ?_
        refine aw_goto (q := 4) dX7_inDrawer_38 (by decide) ?_
        exact aw_fewer (L' := [some (.ref 120), some (.int x1), some (.int y4), some (.int (x3 + 1))]) ⟨rfl, ⟨rfl, ⟨rfl, ⟨rfl, trivial⟩⟩⟩⟩ (ih s y4 (x3 + 1) _ H KE)
      · replace H := zf h3 H
        refine aw_iconst (q := 33) (v := 0) dX7_inDrawer_32 rfl (by decide) ?_
        refine aw_iadd (q := 34) dX7_inDrawer_33 rfl ?_
        obtain ⟨y6, q7, H⟩ := zltd H
        refine aw_nm q7 ?_
        refine aw_istore_n (q := 35) (L' := [some (.ref 120), some (.int x1), some (.int y6), some (.int x3)]) dX7_inDrawer_34 rfl (by decide) rfl rfl ?_
        refine aw_iinc (q := 38) (v := x3 + 1) (L' := [some (.ref 120), some (.int x1), some (.int y6), some (.int (x3 + 1))]) dX7_inDrawer_35 rfl rfl (by first | rfl | decide) (by decide) rfl rfl ?_
        refine aw_goto (q := 4) dX7_inDrawer_38 (by decide) ?_
        exact aw_fewer (L' := [some (.ref 120), some (.int x1), some (.int y6), some (.int (x3 + 1))]) ⟨rfl, ⟨rfl, ⟨rfl, ⟨rfl, trivial⟩⟩⟩⟩ (ih s y6 (x3 + 1) _ H KE)
def f_X7_inDrawer (s : zr) (x1 : Int32) : Option Int32 :=
  Option.bind (f_X7_inDrawer_4 zFu s x1 0 0) fun e1 =>
  some e1
set_option maxHeartbeats 4000000 in
set_option maxRecDepth 100000 in
theorem c_X7_inDrawer {G : zG} {sl : Nat} (sg : zs) (s : zr) (x1 : Int32) {v9 : Int32} (H : f_X7_inDrawer s x1 = some v9) : zMv G 0 M_X7_inDrawer [.ref 120, .int x1] sl (zT sg s) (fun r h' => r = some (.int v9) ∧ h' = (zT sg s)) := by
  unfold f_X7_inDrawer at H
  refine zMv_of (L := [some (.ref 120), some (.int x1), none, none]) (by decide) rfl (Nat.le_of_ble_eq_true rfl) rfl ?_
  refine aw_iconst (q := 1) (v := 0) dX7_inDrawer_0 rfl (by decide) ?_
  refine aw_istore_n (q := 2) (L' := [some (.ref 120), some (.int x1), some (.int 0), none]) dX7_inDrawer_1 rfl (by decide) rfl rfl ?_
  refine aw_iconst (q := 3) (v := 0) dX7_inDrawer_2 rfl (by decide) ?_
  refine aw_istore_n (q := 4) (L' := [some (.ref 120), some (.int x1), some (.int 0), some (.int 0)]) dX7_inDrawer_3 rfl (by decide) rfl rfl ?_
  obtain ⟨e1, he1, H⟩ := zbd H
  refine aw_fewer (L' := [some (.ref 120), some (.int x1), some (.int 0), some (.int 0)]) ⟨rfl, ⟨rfl, ⟨rfl, ⟨rfl, trivial⟩⟩⟩⟩ ?_
  refine L_X7_inDrawer_4 sg x1 zFu s 0 0 e1 he1 ?_
  refine aw_iload_n (q := 42) dX7_inDrawer_41 rfl rfl ?_
  cases H
  exact aw_ret dX7_inDrawer_42 rfl rfl rfl rfl ⟨rfl, rfl⟩
def f_X7_file (s : zr) (x1 : Int32) (x2 : Int32) : Option (Int32 × zr) :=
  if f_X7_isFault s x1 = true then (
    if f_X7_isIn x2 0 4 = true then (
      if zin ((62 : Int32) + x1) 88 = true then
      if (s 1 (((62 : Int32) + x1).toNatClampNeg)) = (-1) then (
        if zin ((32 : Int32) + x1) 88 = true then
        if (s 1 (((32 : Int32) + x1).toNatClampNeg)) = x2 then (
          Option.bind (f_X7_inDrawer s x2) fun v7 =>
          if v7 = 3 then (
            some ((-1000003), s)
          ) else (
            Option.bind (f_X7_records s) fun v9 =>
            zlt (zm v9 1 (((62 : Int32) + x1).toNatClampNeg) x2) fun s10 =>
            Option.bind (f_X7_inDrawer s10 x2) fun v12 =>
            some (v12, s10)
          )
        ) else (
          some ((-1000002), s)
        )
        else none
      ) else (
        some ((-1000002), s)
      )
      else none
    ) else (
      some ((-1000001), s)
    )
  ) else (
    some ((-1000001), s)
  )
set_option maxHeartbeats 4000000 in
set_option maxRecDepth 100000 in
theorem c_X7_file {G : zG} {sl : Nat} (sg : zs) (s : zr) (x1 : Int32) (x2 : Int32) {v9 : (Int32 × zr)} (H : f_X7_file s x1 x2 = some v9) : zMv G 2 M_X7_file [.ref 120, .int x1, .int x2] sl (zT sg s) (fun r h' => r = some (.int v9.1) ∧ h' = zT sg v9.2) := by
  unfold f_X7_file at H
  refine zMv_of (L := [some (.ref 120), some (.int x1), some (.int x2)]) (by decide) rfl (Nat.le_of_ble_eq_true rfl) rfl ?_
  refine aw_aload_n (q := 1) dX7_file_0 rfl rfl ?_
  refine aw_iload_n (q := 2) dX7_file_1 rfl rfl ?_
  refine aw_cv (M' := M_X7_isFault) (as := [.int x1]) (q := 5) dX7_file_2 rfl W_X7_isFault k_X7_100 i_X7_isFault v_X7_isFault (by decide) (o_X7 sg s) rfl rfl rfl (by decide) (Nat.le_of_ble_eq_true rfl) (c_X7_isFault sg s x1) (Nat.le_refl _) (Nat.le_refl _) ?_
  rintro r9 h9 ⟨rfl, rfl⟩
  refine aw_ifeqB (q := 8) (t := 17) dX7_file_5 rfl (by decide) (fun h1 => ?_) (fun h1 => ?_)
  · replace H := zt h1 H
    refine aw_iload_n (q := 9) dX7_file_8 rfl rfl ?_
    refine aw_iconst (q := 10) (v := 0) dX7_file_9 rfl (by decide) ?_
    refine aw_iconst (q := 11) (v := 4) dX7_file_10 rfl (by decide) ?_
    refine aw_cs (M' := M_X7_isIn) (as := [.int x2, .int 0, .int 4]) (q := 14) dX7_file_11 rfl W_X7_isIn k_X7_45 s_X7_isIn rfl rfl (by decide) (Nat.le_of_ble_eq_true rfl) (c_X7_isIn (zT sg s) x2 0 4) (Nat.le_refl _) (Nat.le_refl _) ?_
    rintro r9 h9 ⟨rfl, rfl⟩
    refine aw_ifneB (q := 17) (t := 20) dX7_file_14 rfl (by decide) (fun h2 => ?_) (fun h2 => ?_)
    · replace H := zt h2 H
      refine aw_aload_n (q := 21) dX7_file_20 rfl rfl ?_
      refine aw_getr (q := 24) dX7_file_21 rfl e_X7_7 (by decide) (o_X7 sg s) rfl ?_
      refine aw_bipush (q := 26) (v := 62) dX7_file_24 rfl (by decide) ?_
      refine aw_iload_n (q := 27) dX7_file_26 rfl rfl ?_
      refine aw_iadd (q := 28) dX7_file_27 rfl ?_
      obtain ⟨h3, H⟩ := zio H
      refine aw_iald' (q := 29) (v := s 1 (((62 : Int32) + x1).toNatClampNeg)) dX7_file_28 rfl (by decide) (o_X7a0 sg s) (zin_in h3) rfl ?_
      refine aw_iconst (q := 30) (v := (-1)) dX7_file_29 rfl (by decide) ?_
      refine aw_icmp_neP (q := 33) (t := 46) dX7_file_30 rfl (by decide) (fun h4 => ?_) (fun h4 => ?_)
      · replace H := zt h4 H
        refine aw_aload_n (q := 34) dX7_file_33 rfl rfl ?_
        refine aw_getr (q := 37) dX7_file_34 rfl e_X7_7 (by decide) (o_X7 sg s) rfl ?_
        refine aw_bipush (q := 39) (v := 32) dX7_file_37 rfl (by decide) ?_
        refine aw_iload_n (q := 40) dX7_file_39 rfl rfl ?_
        refine aw_iadd (q := 41) dX7_file_40 rfl ?_
        obtain ⟨h5, H⟩ := zio H
        refine aw_iald' (q := 42) (v := s 1 (((32 : Int32) + x1).toNatClampNeg)) dX7_file_41 rfl (by decide) (o_X7a0 sg s) (zin_in h5) rfl ?_
        refine aw_iload_n (q := 43) dX7_file_42 rfl rfl ?_
        refine aw_icmp_eq (q := 46) (t := 49) dX7_file_43 rfl (by decide) (fun h6 => ?_) (fun h6 => ?_)
        · replace H := zt h6 H
          refine aw_aload_n (q := 50) dX7_file_49 rfl rfl ?_
          refine aw_iload_n (q := 51) dX7_file_50 rfl rfl ?_
          obtain ⟨v7, hv7, H⟩ := zbd H
          refine aw_cv (M' := M_X7_inDrawer) (as := [.int x2]) (q := 54) dX7_file_51 rfl W_X7_inDrawer k_X7_188 i_X7_inDrawer v_X7_inDrawer (by decide) (o_X7 sg s) rfl rfl rfl (by decide) (Nat.le_of_ble_eq_true rfl) (c_X7_inDrawer sg s x2 hv7) (Nat.le_refl _) (Nat.le_refl _) ?_
          rintro r9 h9 ⟨rfl, rfl⟩
          refine aw_iconst (q := 55) (v := 3) dX7_file_54 rfl (by decide) ?_
          refine aw_icmp_neP (q := 58) (t := 61) dX7_file_55 rfl (by decide) (fun h8 => ?_) (fun h8 => ?_)
          · replace H := zt h8 H
            refine aw_ldc (q := 60) dX7_file_58 rfl q_X7_57 ?_
            cases H
            exact aw_ret dX7_file_60 rfl rfl rfl rfl ⟨rfl, rfl⟩
          · replace H := zf h8 H
            refine aw_aload_n (q := 62) dX7_file_61 rfl rfl ?_
            obtain ⟨v9, hv9, H⟩ := zbd H
            refine aw_cv (M' := M_X7_records) (as := []) (q := 65) dX7_file_62 rfl W_X7_records k_X7_61 i_X7_records v_X7_records (by decide) (o_X7 sg s) rfl rfl rfl (by decide) (Nat.le_of_ble_eq_true rfl) (c_X7_records sg s hv9) (Nat.le_refl _) (Nat.le_refl _) ?_
            rintro r9 h9 ⟨rfl, rfl⟩
            refine aw_aload_n (q := 66) dX7_file_65 rfl rfl ?_
            refine aw_getr (q := 69) dX7_file_66 rfl e_X7_7 (by decide) (o_X7 sg v9) rfl ?_
            refine aw_bipush (q := 71) (v := 62) dX7_file_69 rfl (by decide) ?_
            refine aw_iload_n (q := 72) dX7_file_71 rfl rfl ?_
            refine aw_iadd (q := 73) dX7_file_72 rfl ?_
            refine aw_iload_n (q := 74) dX7_file_73 rfl rfl ?_
            obtain ⟨s10, q11, H⟩ := zltd H
            refine aw_iast (q := 75) dX7_file_74 rfl (by decide) (o_X7a0 sg v9) (zin_in h3) ((p_X7a0).trans (congrArg (fun z => zT sg z) q11.symm)) ?_
            refine aw_aload_n (q := 76) dX7_file_75 rfl rfl ?_
            refine aw_iload_n (q := 77) dX7_file_76 rfl rfl ?_
            obtain ⟨v12, hv12, H⟩ := zbd H
            refine aw_cv (M' := M_X7_inDrawer) (as := [.int x2]) (q := 80) dX7_file_77 rfl W_X7_inDrawer k_X7_188 i_X7_inDrawer v_X7_inDrawer (by decide) (o_X7 sg s10) rfl rfl rfl (by decide) (Nat.le_of_ble_eq_true rfl) (c_X7_inDrawer sg s10 x2 hv12) (Nat.le_refl _) (Nat.le_refl _) ?_
            rintro r9 h9 ⟨rfl, rfl⟩
            cases H
            exact aw_ret dX7_file_80 rfl rfl rfl rfl ⟨rfl, rfl⟩
        · replace H := zf h6 H
          refine aw_ldc (q := 48) dX7_file_46 rfl q_X7_35 ?_
          cases H
          exact aw_ret dX7_file_48 rfl rfl rfl rfl ⟨rfl, rfl⟩
      · replace H := zf h4 H
        refine aw_ldc (q := 48) dX7_file_46 rfl q_X7_35 ?_
        cases H
        exact aw_ret dX7_file_48 rfl rfl rfl rfl ⟨rfl, rfl⟩
    · replace H := zf h2 H
      refine aw_ldc (q := 19) dX7_file_17 rfl q_X7_53 ?_
      cases H
      exact aw_ret dX7_file_19 rfl rfl rfl rfl ⟨rfl, rfl⟩
  · replace H := zf h1 H
    refine aw_ldc (q := 19) dX7_file_17 rfl q_X7_53 ?_
    cases H
    exact aw_ret dX7_file_19 rfl rfl rfl rfl ⟨rfl, rfl⟩
def f_X7_count (s : zr) (x1 : Int32) : Option Int32 :=
  if x1 = 0 then (
    some (s 1 0)
  ) else (
    if x1 = 1 then (
      some (s 1 1)
    ) else (
      if x1 = 2 then (
        some (s 1 2)
      ) else (
        if x1 = 3 then (
          some (s 1 3)
        ) else (
          if x1 = 4 then (
            some (f_X7_weekday s)
          ) else (
            if x1 = 5 then (
              some (s 1 4)
            ) else (
              if x1 = 6 then (
                Option.bind (f_X7_touchedNow s) fun v12 =>
                Option.bind (f_X7_ones v12) fun v13 =>
                some v13
              ) else (
                if x1 = 7 then (
                  Option.bind (f_X7_touchedNow s) fun v14 =>
                  Option.bind (f_X7_reachedBy s (-1) v14) fun v15 =>
                  Option.bind (f_X7_ones v15) fun v16 =>
                  some v16
                ) else (
                  if x1 = 8 then (
                    some (s 1 8)
                  ) else (
                    if x1 = 9 then (
                      some (s 0 3)
                    ) else (
                      if x1 = 10 then (
                        some (s 0 7)
                      ) else (
                        if f_X7_isIn x1 11 15 = true then (
                          Option.bind (f_X7_inDrawer s (x1 - 11)) fun v18 =>
                          some v18
                        ) else (
                          some (-1000001)
                        )
                      )
                    )
                  )
                )
              )
            )
          )
        )
      )
    )
  )
set_option maxHeartbeats 4000000 in
set_option maxRecDepth 100000 in
theorem c_X7_count {G : zG} {sl : Nat} (sg : zs) (s : zr) (x1 : Int32) {v9 : Int32} (H : f_X7_count s x1 = some v9) : zMv G 7 M_X7_count [.ref 120, .int x1] sl (zT sg s) (fun r h' => r = some (.int v9) ∧ h' = (zT sg s)) := by
  unfold f_X7_count at H
  refine zMv_of (L := [some (.ref 120), some (.int x1)]) (by decide) rfl (Nat.le_of_ble_eq_true rfl) rfl ?_
  refine aw_iload_n (q := 1) dX7_count_0 rfl rfl ?_
  by_cases h1 : x1 = 0
  · replace H := zt h1 H
    refine aw_tabIn (q := 60) (off := 59) dX7_count_1 (by rw [h1]; decide) (by rw [h1]; decide) (by rw [h1]; rfl) (by decide) ?_
    refine aw_aload_n (q := 61) dX7_count_60 rfl rfl ?_
    refine aw_getr (q := 64) dX7_count_61 rfl e_X7_7 (by decide) (o_X7 sg s) rfl ?_
    refine aw_iconst (q := 65) (v := 0) dX7_count_64 rfl (by decide) ?_
    refine aw_iald' (q := 66) (v := s 1 0) dX7_count_65 rfl (by decide) (o_X7a0 sg s) (zin_in (by decide)) rfl ?_
    cases H
    exact aw_ret dX7_count_66 rfl rfl rfl rfl ⟨rfl, rfl⟩
  · replace H := zf h1 H
    by_cases h2 : x1 = 1
    · replace H := zt h2 H
      refine aw_tabIn (q := 67) (off := 66) dX7_count_1 (by rw [h2]; decide) (by rw [h2]; decide) (by rw [h2]; rfl) (by decide) ?_
      refine aw_aload_n (q := 68) dX7_count_67 rfl rfl ?_
      refine aw_getr (q := 71) dX7_count_68 rfl e_X7_7 (by decide) (o_X7 sg s) rfl ?_
      refine aw_iconst (q := 72) (v := 1) dX7_count_71 rfl (by decide) ?_
      refine aw_iald' (q := 73) (v := s 1 1) dX7_count_72 rfl (by decide) (o_X7a0 sg s) (zin_in (by decide)) rfl ?_
      cases H
      exact aw_ret dX7_count_73 rfl rfl rfl rfl ⟨rfl, rfl⟩
    · replace H := zf h2 H
      by_cases h3 : x1 = 2
      · replace H := zt h3 H
        refine aw_tabIn (q := 74) (off := 73) dX7_count_1 (by rw [h3]; decide) (by rw [h3]; decide) (by rw [h3]; rfl) (by decide) ?_
        refine aw_aload_n (q := 75) dX7_count_74 rfl rfl ?_
        refine aw_getr (q := 78) dX7_count_75 rfl e_X7_7 (by decide) (o_X7 sg s) rfl ?_
        refine aw_iconst (q := 79) (v := 2) dX7_count_78 rfl (by decide) ?_
        refine aw_iald' (q := 80) (v := s 1 2) dX7_count_79 rfl (by decide) (o_X7a0 sg s) (zin_in (by decide)) rfl ?_
        cases H
        exact aw_ret dX7_count_80 rfl rfl rfl rfl ⟨rfl, rfl⟩
      · replace H := zf h3 H
        by_cases h4 : x1 = 3
        · replace H := zt h4 H
          refine aw_tabIn (q := 81) (off := 80) dX7_count_1 (by rw [h4]; decide) (by rw [h4]; decide) (by rw [h4]; rfl) (by decide) ?_
          refine aw_aload_n (q := 82) dX7_count_81 rfl rfl ?_
          refine aw_getr (q := 85) dX7_count_82 rfl e_X7_7 (by decide) (o_X7 sg s) rfl ?_
          refine aw_iconst (q := 86) (v := 3) dX7_count_85 rfl (by decide) ?_
          refine aw_iald' (q := 87) (v := s 1 3) dX7_count_86 rfl (by decide) (o_X7a0 sg s) (zin_in (by decide)) rfl ?_
          cases H
          exact aw_ret dX7_count_87 rfl rfl rfl rfl ⟨rfl, rfl⟩
        · replace H := zf h4 H
          by_cases h5 : x1 = 4
          · replace H := zt h5 H
            refine aw_tabIn (q := 88) (off := 87) dX7_count_1 (by rw [h5]; decide) (by rw [h5]; decide) (by rw [h5]; rfl) (by decide) ?_
            refine aw_aload_n (q := 89) dX7_count_88 rfl rfl ?_
            refine aw_cv (M' := M_X7_weekday) (as := []) (q := 92) dX7_count_89 rfl W_X7_weekday k_X7_86 i_X7_weekday v_X7_weekday (by decide) (o_X7 sg s) rfl rfl rfl (by decide) (Nat.le_of_ble_eq_true rfl) (c_X7_weekday sg s) (Nat.le_refl _) (Nat.le_refl _) ?_
            rintro r9 h9 ⟨rfl, rfl⟩
            cases H
            exact aw_ret dX7_count_92 rfl rfl rfl rfl ⟨rfl, rfl⟩
          · replace H := zf h5 H
            by_cases h6 : x1 = 5
            · replace H := zt h6 H
              refine aw_tabIn (q := 93) (off := 92) dX7_count_1 (by rw [h6]; decide) (by rw [h6]; decide) (by rw [h6]; rfl) (by decide) ?_
              refine aw_aload_n (q := 94) dX7_count_93 rfl rfl ?_
              refine aw_getr (q := 97) dX7_count_94 rfl e_X7_7 (by decide) (o_X7 sg s) rfl ?_
              refine aw_iconst (q := 98) (v := 4) dX7_count_97 rfl (by decide) ?_
              refine aw_iald' (q := 99) (v := s 1 4) dX7_count_98 rfl (by decide) (o_X7a0 sg s) (zin_in (by decide)) rfl ?_
              cases H
              exact aw_ret dX7_count_99 rfl rfl rfl rfl ⟨rfl, rfl⟩
            · replace H := zf h6 H
              by_cases h7 : x1 = 6
              · replace H := zt h7 H
                refine aw_tabIn (q := 100) (off := 99) dX7_count_1 (by rw [h7]; decide) (by rw [h7]; decide) (by rw [h7]; rfl) (by decide) ?_
                refine aw_aload_n (q := 101) dX7_count_100 rfl rfl ?_
                obtain ⟨v12, hv12, H⟩ := zbd H
                refine aw_cv (M' := M_X7_touchedNow) (as := []) (q := 104) dX7_count_101 rfl W_X7_touchedNow k_X7_97 i_X7_touchedNow v_X7_touchedNow (by decide) (o_X7 sg s) rfl rfl rfl (by decide) (Nat.le_of_ble_eq_true rfl) (c_X7_touchedNow sg s hv12) (Nat.le_refl _) (Nat.le_refl _) ?_
                rintro r9 h9 ⟨rfl, rfl⟩
                obtain ⟨v13, hv13, H⟩ := zbd H
                refine aw_cs (M' := M_X7_ones) (as := [.int v12]) (q := 107) dX7_count_104 rfl W_X7_ones k_X7_49 s_X7_ones rfl rfl (by decide) (Nat.le_of_ble_eq_true rfl) (c_X7_ones (zT sg s) v12 hv13) (Nat.le_refl _) (Nat.le_refl _) ?_
                rintro r9 h9 ⟨rfl, rfl⟩
                cases H
                exact aw_ret dX7_count_107 rfl rfl rfl rfl ⟨rfl, rfl⟩
              · replace H := zf h7 H
                by_cases h8 : x1 = 7
                · replace H := zt h8 H
                  refine aw_tabIn (q := 108) (off := 107) dX7_count_1 (by rw [h8]; decide) (by rw [h8]; decide) (by rw [h8]; rfl) (by decide) ?_
                  refine aw_aload_n (q := 109) dX7_count_108 rfl rfl ?_
                  refine aw_iconst (q := 110) (v := (-1)) dX7_count_109 rfl (by decide) ?_
                  refine aw_aload_n (q := 111) dX7_count_110 rfl rfl ?_
                  obtain ⟨v14, hv14, H⟩ := zbd H
                  refine aw_cv (M' := M_X7_touchedNow) (as := []) (q := 114) dX7_count_111 rfl W_X7_touchedNow k_X7_97 i_X7_touchedNow v_X7_touchedNow (by decide) (o_X7 sg s) rfl rfl rfl (by decide) (Nat.le_of_ble_eq_true rfl) (c_X7_touchedNow sg s hv14) (Nat.le_refl _) (Nat.le_refl _) ?_
                  rintro r9 h9 ⟨rfl, rfl⟩
                  obtain ⟨v15, hv15, H⟩ := zbd H
                  refine aw_cv (M' := M_X7_reachedBy) (as := [.int (-1), .int v14]) (q := 117) dX7_count_114 rfl W_X7_reachedBy k_X7_128 i_X7_reachedBy v_X7_reachedBy (by decide) (o_X7 sg s) rfl rfl rfl (by decide) (Nat.le_of_ble_eq_true rfl) (c_X7_reachedBy sg s (-1) v14 hv15) (Nat.le_refl _) (Nat.le_refl _) ?_
                  rintro r9 h9 ⟨rfl, rfl⟩
                  obtain ⟨v16, hv16, H⟩ := zbd H
                  refine aw_cs (M' := M_X7_ones) (as := [.int v15]) (q := 120) dX7_count_117 rfl W_X7_ones k_X7_49 s_X7_ones rfl rfl (by decide) (Nat.le_of_ble_eq_true rfl) (c_X7_ones (zT sg s) v15 hv16) (Nat.le_refl _) (Nat.le_refl _) ?_
                  rintro r9 h9 ⟨rfl, rfl⟩
                  cases H
                  exact aw_ret dX7_count_120 rfl rfl rfl rfl ⟨rfl, rfl⟩
                · replace H := zf h8 H
                  by_cases h9 : x1 = 8
                  · replace H := zt h9 H
                    refine aw_tabIn (q := 121) (off := 120) dX7_count_1 (by rw [h9]; decide) (by rw [h9]; decide) (by rw [h9]; rfl) (by decide) ?_
                    refine aw_aload_n (q := 122) dX7_count_121 rfl rfl ?_
                    refine aw_getr (q := 125) dX7_count_122 rfl e_X7_7 (by decide) (o_X7 sg s) rfl ?_
                    refine aw_bipush (q := 127) (v := 8) dX7_count_125 rfl (by decide) ?_
                    refine aw_iald' (q := 128) (v := s 1 8) dX7_count_127 rfl (by decide) (o_X7a0 sg s) (zin_in (by decide)) rfl ?_
                    cases H
                    exact aw_ret dX7_count_128 rfl rfl rfl rfl ⟨rfl, rfl⟩
                  · replace H := zf h9 H
                    by_cases h10 : x1 = 9
                    · replace H := zt h10 H
                      refine aw_tabIn (q := 129) (off := 128) dX7_count_1 (by rw [h10]; decide) (by rw [h10]; decide) (by rw [h10]; rfl) (by decide) ?_
                      refine aw_aload_n (q := 130) dX7_count_129 rfl rfl ?_
                      refine aw_getr (q := 133) dX7_count_130 rfl e_X7_31 (by decide) (o_X7 sg s) rfl ?_
                      cases H
                      exact aw_ret dX7_count_133 rfl rfl rfl rfl ⟨rfl, rfl⟩
                    · replace H := zf h10 H
                      by_cases h11 : x1 = 10
                      · replace H := zt h11 H
                        refine aw_tabIn (q := 134) (off := 133) dX7_count_1 (by rw [h11]; decide) (by rw [h11]; decide) (by rw [h11]; rfl) (by decide) ?_
                        refine aw_aload_n (q := 135) dX7_count_134 rfl rfl ?_
                        refine aw_getr (q := 138) dX7_count_135 rfl e_X7_191 (by decide) (o_X7 sg s) rfl ?_
                        cases H
                        exact aw_ret dX7_count_138 rfl rfl rfl rfl ⟨rfl, rfl⟩
                      · replace H := zf h11 H
                        refine aw_tabOut (q := 139) dX7_count_1 (by have w0 : ¬ x1.toInt = 0 := zne h1; have w1 : ¬ x1.toInt = 1 := zne h2; have w2 : ¬ x1.toInt = 2 := zne h3; have w3 : ¬ x1.toInt = 3 := zne h4; have w4 : ¬ x1.toInt = 4 := zne h5; have w5 : ¬ x1.toInt = 5 := zne h6; have w6 : ¬ x1.toInt = 6 := zne h7; have w7 : ¬ x1.toInt = 7 := zne h8; have w8 : ¬ x1.toInt = 8 := zne h9; have w9 : ¬ x1.toInt = 9 := zne h10; have w10 : ¬ x1.toInt = 10 := zne h11; omega) (by decide) ?_
                        refine aw_iload_n (q := 140) dX7_count_139 rfl rfl ?_
                        refine aw_bipush (q := 142) (v := 11) dX7_count_140 rfl (by decide) ?_
                        refine aw_bipush (q := 144) (v := 15) dX7_count_142 rfl (by decide) ?_
                        refine aw_cs (M' := M_X7_isIn) (as := [.int x1, .int 11, .int 15]) (q := 147) dX7_count_144 rfl W_X7_isIn k_X7_45 s_X7_isIn rfl rfl (by decide) (Nat.le_of_ble_eq_true rfl) (c_X7_isIn (zT sg s) x1 11 15) (Nat.le_refl _) (Nat.le_refl _) ?_
                        rintro r9 h9 ⟨rfl, rfl⟩
                        refine aw_ifeqB (q := 150) (t := 161) dX7_count_147 rfl (by decide) (fun h17 => ?_) (fun h17 => ?_)
                        · replace H := zt h17 H
                          refine aw_aload_n (q := 151) dX7_count_150 rfl rfl ?_
                          refine aw_iload_n (q := 152) dX7_count_151 rfl rfl ?_
                          refine aw_bipush (q := 154) (v := 11) dX7_count_152 rfl (by decide) ?_
                          refine aw_isub (q := 155) dX7_count_154 rfl ?_
                          obtain ⟨v18, hv18, H⟩ := zbd H
                          refine aw_cv (M' := M_X7_inDrawer) (as := [.int (x1 - 11)]) (q := 158) dX7_count_155 rfl W_X7_inDrawer k_X7_188 i_X7_inDrawer v_X7_inDrawer (by decide) (o_X7 sg s) rfl rfl rfl (by decide) (Nat.le_of_ble_eq_true rfl) (c_X7_inDrawer sg s (x1 - 11) hv18) (Nat.le_refl _) (Nat.le_refl _) ?_
                          rintro r9 h9 ⟨rfl, rfl⟩
                          refine aw_goto (q := 163) dX7_count_158 (by decide) ?_
                          cases H
                          exact aw_ret dX7_count_163 rfl rfl rfl rfl ⟨rfl, rfl⟩
                        · replace H := zf h17 H
                          refine aw_ldc (q := 163) dX7_count_161 rfl q_X7_53 ?_
                          cases H
                          exact aw_ret dX7_count_163 rfl rfl rfl rfl ⟨rfl, rfl⟩
def f_X7_type (s : zr) (x1 : Int32) : Option (Int32 × zr) :=
  if f_X7_isIn x1 32 126 = true then (
    if (s 0 7) = 100 then (
      some ((-1000003), s)
    ) else (
      if zin (s 0 7) 100 = true then
      zlt (zm s 6 ((s 0 7).toNatClampNeg) x1) fun s4 =>
      zlt (zm s4 0 7 ((s4 0 7) + 1)) fun s6 =>
      some (s6 0 7, s6)
      else none
    )
  ) else (
    some ((-1000001), s)
  )
set_option maxHeartbeats 4000000 in
set_option maxRecDepth 100000 in
theorem c_X7_type {G : zG} {sl : Nat} (sg : zs) (s : zr) (x1 : Int32) {v9 : (Int32 × zr)} (H : f_X7_type s x1 = some v9) : zMv G 1 M_X7_type [.ref 120, .int x1] sl (zT sg s) (fun r h' => r = some (.int v9.1) ∧ h' = zT sg v9.2) := by
  unfold f_X7_type at H
  refine zMv_of (L := [some (.ref 120), some (.int x1)]) (by decide) rfl (Nat.le_of_ble_eq_true rfl) rfl ?_
  refine aw_iload_n (q := 1) dX7_type_0 rfl rfl ?_
  refine aw_bipush (q := 3) (v := 32) dX7_type_1 rfl (by decide) ?_
  refine aw_bipush (q := 5) (v := 126) dX7_type_3 rfl (by decide) ?_
  refine aw_cs (M' := M_X7_isIn) (as := [.int x1, .int 32, .int 126]) (q := 8) dX7_type_5 rfl W_X7_isIn k_X7_45 s_X7_isIn rfl rfl (by decide) (Nat.le_of_ble_eq_true rfl) (c_X7_isIn (zT sg s) x1 32 126) (Nat.le_refl _) (Nat.le_refl _) ?_
  rintro r9 h9 ⟨rfl, rfl⟩
  refine aw_ifneB (q := 11) (t := 14) dX7_type_8 rfl (by decide) (fun h1 => ?_) (fun h1 => ?_)
  · replace H := zt h1 H
    refine aw_aload_n (q := 15) dX7_type_14 rfl rfl ?_
    refine aw_getr (q := 18) dX7_type_15 rfl e_X7_191 (by decide) (o_X7 sg s) rfl ?_
    refine aw_bipush (q := 20) (v := 100) dX7_type_18 rfl (by decide) ?_
    refine aw_icmp_neP (q := 23) (t := 26) dX7_type_20 rfl (by decide) (fun h2 => ?_) (fun h2 => ?_)
    · replace H := zt h2 H
      refine aw_ldc (q := 25) dX7_type_23 rfl q_X7_57 ?_
      cases H
      exact aw_ret dX7_type_25 rfl rfl rfl rfl ⟨rfl, rfl⟩
    · replace H := zf h2 H
      refine aw_aload_n (q := 27) dX7_type_26 rfl rfl ?_
      refine aw_getr (q := 30) dX7_type_27 rfl e_X7_25 (by decide) (o_X7 sg s) rfl ?_
      refine aw_aload_n (q := 31) dX7_type_30 rfl rfl ?_
      refine aw_getr (q := 34) dX7_type_31 rfl e_X7_191 (by decide) (o_X7 sg s) rfl ?_
      refine aw_iload_n (q := 35) dX7_type_34 rfl rfl ?_
      obtain ⟨h3, H⟩ := zio H
      obtain ⟨s4, q5, H⟩ := zltd H
      refine aw_iast (q := 36) dX7_type_35 rfl (by decide) (o_X7a6 sg s) (zin_in h3) ((p_X7a6).trans (congrArg (fun z => zT sg z) q5.symm)) ?_
      refine aw_aload_n (q := 37) dX7_type_36 rfl rfl ?_
      refine aw_dup (q := 38) dX7_type_37 rfl rfl ?_
      refine aw_getr (q := 41) dX7_type_38 rfl e_X7_191 (by decide) (o_X7 sg s4) rfl ?_
      refine aw_iconst (q := 42) (v := 1) dX7_type_41 rfl (by decide) ?_
      refine aw_iadd (q := 43) dX7_type_42 rfl ?_
      obtain ⟨s6, q7, H⟩ := zltd H
      refine aw_put (q := 46) dX7_type_43 rfl f_X7_191 (by decide) (o_X7 sg s4) rfl rfl (Nat.le_of_ble_eq_true rfl) ((p_X7_7).trans (congrArg (fun z => zT sg z) q7.symm)) ?_
      refine aw_aload_n (q := 47) dX7_type_46 rfl rfl ?_
      refine aw_getr (q := 50) dX7_type_47 rfl e_X7_191 (by decide) (o_X7 sg s6) rfl ?_
      cases H
      exact aw_ret dX7_type_50 rfl rfl rfl rfl ⟨rfl, rfl⟩
  · replace H := zf h1 H
    refine aw_ldc (q := 13) dX7_type_11 rfl q_X7_53 ?_
    cases H
    exact aw_ret dX7_type_13 rfl rfl rfl rfl ⟨rfl, rfl⟩
def f_X7_clearText (s : zr) : Option (Int32 × zr) :=
  zlt (s 0 7 : Int32) fun y1 =>
  zlt (zm s 0 7 0) fun s3 =>
  some (y1, s3)
set_option maxHeartbeats 4000000 in
set_option maxRecDepth 100000 in
theorem c_X7_clearText {G : zG} {sl : Nat} (sg : zs) (s : zr)  {v9 : (Int32 × zr)} (H : f_X7_clearText s = some v9) : zMv G 0 M_X7_clearText [.ref 120] sl (zT sg s) (fun r h' => r = some (.int v9.1) ∧ h' = zT sg v9.2) := by
  unfold f_X7_clearText at H
  refine zMv_of (L := [some (.ref 120), none]) (by decide) rfl (Nat.le_of_ble_eq_true rfl) rfl ?_
  refine aw_aload_n (q := 1) dX7_clearText_0 rfl rfl ?_
  refine aw_getr (q := 4) dX7_clearText_1 rfl e_X7_191 (by decide) (o_X7 sg s) rfl ?_
  obtain ⟨y1, q2, H⟩ := zltd H
  refine aw_nm q2 ?_
  refine aw_istore_n (q := 5) (L' := [some (.ref 120), some (.int y1)]) dX7_clearText_4 rfl (by decide) rfl rfl ?_
  refine aw_aload_n (q := 6) dX7_clearText_5 rfl rfl ?_
  refine aw_iconst (q := 7) (v := 0) dX7_clearText_6 rfl (by decide) ?_
  obtain ⟨s3, q4, H⟩ := zltd H
  refine aw_put (q := 10) dX7_clearText_7 rfl f_X7_191 (by decide) (o_X7 sg s) rfl rfl (Nat.le_of_ble_eq_true rfl) ((p_X7_7).trans (congrArg (fun z => zT sg z) q4.symm)) ?_
  refine aw_iload_n (q := 11) dX7_clearText_10 rfl rfl ?_
  cases H
  exact aw_ret dX7_clearText_11 rfl rfl rfl rfl ⟨rfl, rfl⟩
def f_X7_isHere (s : zr) (x1 : Int32) (x2 : Int32) : Option Bool :=
  if (s 0 7) ≤ (s 0 8) then (
    some false
  ) else (
    if zin (s 0 8) 100 = true then
    if f_X7_isIn (s 6 ((s 0 8).toNatClampNeg)) x1 x2 = true then (
      some true
    ) else (
      some false
    )
    else none
  )
set_option maxHeartbeats 4000000 in
set_option maxRecDepth 100000 in
theorem c_X7_isHere {G : zG} {sl : Nat} (sg : zs) (s : zr) (x1 : Int32) (x2 : Int32) {v9 : Bool} (H : f_X7_isHere s x1 x2 = some v9) : zMv G 1 M_X7_isHere [.ref 120, .int x1, .int x2] sl (zT sg s) (fun r h' => r = some (.int (zb v9)) ∧ h' = (zT sg s)) := by
  unfold f_X7_isHere at H
  refine zMv_of (L := [some (.ref 120), some (.int x1), some (.int x2)]) (by decide) rfl (Nat.le_of_ble_eq_true rfl) rfl ?_
  refine aw_aload_n (q := 1) dX7_isHere_0 rfl rfl ?_
  refine aw_getr (q := 4) dX7_isHere_1 rfl e_X7_194 (by decide) (o_X7 sg s) rfl ?_
  refine aw_aload_n (q := 5) dX7_isHere_4 rfl rfl ?_
  refine aw_getr (q := 8) dX7_isHere_5 rfl e_X7_191 (by decide) (o_X7 sg s) rfl ?_
  refine aw_icmp_ge (q := 11) (t := 32) dX7_isHere_8 rfl (by decide) (fun h1 => ?_) (fun h1 => ?_)
  · replace H := zt h1 H
    refine aw_iconst (q := 33) (v := 0) dX7_isHere_32 rfl (by decide) ?_
    cases H
    exact aw_ret dX7_isHere_33 rfl rfl rfl rfl ⟨rfl, rfl⟩
  · replace H := zf h1 H
    refine aw_aload_n (q := 12) dX7_isHere_11 rfl rfl ?_
    refine aw_getr (q := 15) dX7_isHere_12 rfl e_X7_25 (by decide) (o_X7 sg s) rfl ?_
    refine aw_aload_n (q := 16) dX7_isHere_15 rfl rfl ?_
    refine aw_getr (q := 19) dX7_isHere_16 rfl e_X7_194 (by decide) (o_X7 sg s) rfl ?_
    obtain ⟨h2, H⟩ := zio H
    refine aw_iald' (q := 20) (v := s 6 ((s 0 8).toNatClampNeg)) dX7_isHere_19 rfl (by decide) (o_X7a6 sg s) (zin_in h2) rfl ?_
    refine aw_iload_n (q := 21) dX7_isHere_20 rfl rfl ?_
    refine aw_iload_n (q := 22) dX7_isHere_21 rfl rfl ?_
    refine aw_cs (M' := M_X7_isIn) (as := [.int (s 6 ((s 0 8).toNatClampNeg)), .int x1, .int x2]) (q := 25) dX7_isHere_22 rfl W_X7_isIn k_X7_45 s_X7_isIn rfl rfl (by decide) (Nat.le_of_ble_eq_true rfl) (c_X7_isIn (zT sg s) (s 6 ((s 0 8).toNatClampNeg)) x1 x2) (Nat.le_refl _) (Nat.le_refl _) ?_
    rintro r9 h9 ⟨rfl, rfl⟩
    refine aw_ifeqB (q := 28) (t := 32) dX7_isHere_25 rfl (by decide) (fun h3 => ?_) (fun h3 => ?_)
    · replace H := zt h3 H
      refine aw_iconst (q := 29) (v := 1) dX7_isHere_28 rfl (by decide) ?_
      refine aw_goto (q := 33) dX7_isHere_29 (by decide) ?_
      cases H
      exact aw_ret dX7_isHere_33 rfl rfl rfl rfl ⟨rfl, rfl⟩
    · replace H := zf h3 H
      refine aw_iconst (q := 33) (v := 0) dX7_isHere_32 rfl (by decide) ?_
      cases H
      exact aw_ret dX7_isHere_33 rfl rfl rfl rfl ⟨rfl, rfl⟩
def f_X7_passesSpaces_0 : Nat → zr → Option (zr)
  | 0, _ => none
  | k + 1, s =>
    Option.bind (f_X7_isHere s 32 32) fun v1 =>
    if v1 = true then (
      zlt (zm s 0 8 ((s 0 8) + 1)) fun s3 =>
      f_X7_passesSpaces_0 k s3
    ) else (
      some s
    )
set_option maxHeartbeats 4000000 in
set_option maxRecDepth 100000 in
theorem L_X7_passesSpaces_0 {G : zG} {sl : Nat} {P : Option Value → zH → Prop} (sg : zs)  : ∀ (k : Nat) (s : zr)  (e : zr), f_X7_passesSpaces_0 k s = some e → (AV G M_X7_passesSpaces 2 sl P 24 [none] [] (zT sg e)) → AV G M_X7_passesSpaces 2 sl P 0 [some (.ref 120)] [] (zT sg s) := by
  intro k
  induction k with
  | zero =>
    intro s  e H
    unfold f_X7_passesSpaces_0 at H
    cases H
  | succ k ih =>
    intro s  e H KE
    unfold f_X7_passesSpaces_0 at H
    refine aw_aload_n (q := 1) dX7_passesSpaces_0 rfl rfl ?_
    refine aw_bipush (q := 3) (v := 32) dX7_passesSpaces_1 rfl (by decide) ?_
    refine aw_bipush (q := 5) (v := 32) dX7_passesSpaces_3 rfl (by decide) ?_
    obtain ⟨v1, hv1, H⟩ := zbd H
    refine aw_cv (M' := M_X7_isHere) (as := [.int 32, .int 32]) (q := 8) dX7_passesSpaces_5 rfl W_X7_isHere k_X7_197 i_X7_isHere v_X7_isHere (by decide) (o_X7 sg s) rfl rfl rfl (by decide) (Nat.le_of_ble_eq_true rfl) (c_X7_isHere sg s 32 32 hv1) (Nat.le_refl _) (Nat.le_refl _) ?_
    rintro r9 h9 ⟨rfl, rfl⟩
    refine aw_ifeqB (q := 11) (t := 24) dX7_passesSpaces_8 rfl (by decide) (fun h2 => ?_) (fun h2 => ?_)
    · replace H := zt h2 H
      refine aw_aload_n (q := 12) dX7_passesSpaces_11 rfl rfl ?_
      refine aw_dup (q := 13) dX7_passesSpaces_12 rfl rfl ?_
      refine aw_getr (q := 16) dX7_passesSpaces_13 rfl e_X7_194 (by decide) (o_X7 sg s) rfl ?_
      refine aw_iconst (q := 17) (v := 1) dX7_passesSpaces_16 rfl (by decide) ?_
      refine aw_iadd (q := 18) dX7_passesSpaces_17 rfl ?_
      obtain ⟨s3, q4, H⟩ := zltd H
      refine aw_put (q := 21) dX7_passesSpaces_18 rfl f_X7_194 (by decide) (o_X7 sg s) rfl rfl (Nat.le_of_ble_eq_true rfl) ((p_X7_8).trans (congrArg (fun z => zT sg z) q4.symm)) ?_
      refine aw_goto (q := 0) dX7_passesSpaces_21 (by decide) ?_
      exact aw_fewer (L' := [some (.ref 120)]) ⟨rfl, trivial⟩ (ih s3  _ H KE)
    · replace H := zf h2 H
      cases H
      exact aw_fewer (L' := [none]) trivial KE
def f_X7_passesSpaces (s : zr) : Option zr :=
  Option.bind (f_X7_passesSpaces_0 zFu s) fun e1 =>
  some e1
set_option maxHeartbeats 4000000 in
set_option maxRecDepth 100000 in
theorem c_X7_passesSpaces {G : zG} {sl : Nat} (sg : zs) (s : zr)  {v9 : zr} (H : f_X7_passesSpaces s = some v9) : zMv G 2 M_X7_passesSpaces [.ref 120] sl (zT sg s) (fun r h' => r = none ∧ h' = zT sg v9) := by
  unfold f_X7_passesSpaces at H
  refine zMv_of (L := [some (.ref 120)]) (by decide) rfl (Nat.le_of_ble_eq_true rfl) rfl ?_
  obtain ⟨e1, he1, H⟩ := zbd H
  refine aw_fewer (L' := [some (.ref 120)]) ⟨rfl, trivial⟩ ?_
  refine L_X7_passesSpaces_0 sg  zFu s  e1 he1 ?_
  cases H
  exact aw_vret dX7_passesSpaces_24 rfl rfl rfl ⟨rfl, rfl⟩
def f_X7_isEnded (s : zr) : Option Bool :=
  Option.bind (f_X7_isHere s 32 32) fun v1 =>
  if v1 = true then (
    some true
  ) else (
    Option.bind (f_X7_isHere s 59 59) fun v3 =>
    if v3 = true then (
      some true
    ) else (
      some false
    )
  )
set_option maxHeartbeats 4000000 in
set_option maxRecDepth 100000 in
theorem c_X7_isEnded {G : zG} {sl : Nat} (sg : zs) (s : zr)  {v9 : Bool} (H : f_X7_isEnded s = some v9) : zMv G 2 M_X7_isEnded [.ref 120] sl (zT sg s) (fun r h' => r = some (.int (zb v9)) ∧ h' = (zT sg s)) := by
  unfold f_X7_isEnded at H
  refine zMv_of (L := [some (.ref 120)]) (by decide) rfl (Nat.le_of_ble_eq_true rfl) rfl ?_
  refine aw_aload_n (q := 1) dX7_isEnded_0 rfl rfl ?_
  refine aw_bipush (q := 3) (v := 32) dX7_isEnded_1 rfl (by decide) ?_
  refine aw_bipush (q := 5) (v := 32) dX7_isEnded_3 rfl (by decide) ?_
  obtain ⟨v1, hv1, H⟩ := zbd H
  refine aw_cv (M' := M_X7_isHere) (as := [.int 32, .int 32]) (q := 8) dX7_isEnded_5 rfl W_X7_isHere k_X7_197 i_X7_isHere v_X7_isHere (by decide) (o_X7 sg s) rfl rfl rfl (by decide) (Nat.le_of_ble_eq_true rfl) (c_X7_isHere sg s 32 32 hv1) (Nat.le_refl _) (Nat.le_refl _) ?_
  rintro r9 h9 ⟨rfl, rfl⟩
  refine aw_ifneB (q := 11) (t := 22) dX7_isEnded_8 rfl (by decide) (fun h2 => ?_) (fun h2 => ?_)
  · replace H := zt h2 H
    refine aw_iconst (q := 23) (v := 1) dX7_isEnded_22 rfl (by decide) ?_
    refine aw_goto (q := 27) dX7_isEnded_23 (by decide) ?_
    cases H
    exact aw_ret dX7_isEnded_27 rfl rfl rfl rfl ⟨rfl, rfl⟩
  · replace H := zf h2 H
    refine aw_aload_n (q := 12) dX7_isEnded_11 rfl rfl ?_
    refine aw_bipush (q := 14) (v := 59) dX7_isEnded_12 rfl (by decide) ?_
    refine aw_bipush (q := 16) (v := 59) dX7_isEnded_14 rfl (by decide) ?_
    obtain ⟨v3, hv3, H⟩ := zbd H
    refine aw_cv (M' := M_X7_isHere) (as := [.int 59, .int 59]) (q := 19) dX7_isEnded_16 rfl W_X7_isHere k_X7_197 i_X7_isHere v_X7_isHere (by decide) (o_X7 sg s) rfl rfl rfl (by decide) (Nat.le_of_ble_eq_true rfl) (c_X7_isHere sg s 59 59 hv3) (Nat.le_refl _) (Nat.le_refl _) ?_
    rintro r9 h9 ⟨rfl, rfl⟩
    refine aw_ifeqB (q := 22) (t := 26) dX7_isEnded_19 rfl (by decide) (fun h4 => ?_) (fun h4 => ?_)
    · replace H := zt h4 H
      refine aw_iconst (q := 23) (v := 1) dX7_isEnded_22 rfl (by decide) ?_
      refine aw_goto (q := 27) dX7_isEnded_23 (by decide) ?_
      cases H
      exact aw_ret dX7_isEnded_27 rfl rfl rfl rfl ⟨rfl, rfl⟩
    · replace H := zf h4 H
      refine aw_iconst (q := 27) (v := 0) dX7_isEnded_26 rfl (by decide) ?_
      cases H
      exact aw_ret dX7_isEnded_27 rfl rfl rfl rfl ⟨rfl, rfl⟩
def f_X7_readsWord_4 : Nat → zr → Int32 → Int32 → Option (zr × Int32 × Int32)
  | 0, _, _, _ => none
  | k + 1, s, x1, x2 =>
    Option.bind (f_X7_isHere s 97 122) fun v1 =>
    if v1 = true then (
      if (5 : Int32) ≤ x2 then (
        zlt (zm s 0 8 ((s 0 8) + 1)) fun s4 =>
        f_X7_readsWord_4 k s4 0 (x2 + 1)
      ) else (
        if zin (s 0 8) 100 = true then
        zlt (((((27 : Int32) * x1) + (s 6 ((s 0 8).toNatClampNeg))) - 97) + 1 : Int32) fun y7 =>
        zlt (zm s 0 8 ((s 0 8) + 1)) fun s9 =>
        f_X7_readsWord_4 k s9 y7 (x2 + 1)
        else none
      )
    ) else (
      some (s, x1, x2)
    )
set_option maxHeartbeats 4000000 in
set_option maxRecDepth 100000 in
theorem L_X7_readsWord_4 {G : zG} {sl : Nat} {P : Option Value → zH → Prop} (sg : zs)  : ∀ (k : Nat) (s : zr) (x1 : Int32) (x2 : Int32) (e : zr × Int32 × Int32), f_X7_readsWord_4 k s x1 x2 = some e → (AV G M_X7_readsWord 2 sl P 60 [none, some (.int e.2.1), some (.int e.2.2)] [] (zT sg e.1)) → AV G M_X7_readsWord 2 sl P 4 [some (.ref 120), some (.int x1), some (.int x2)] [] (zT sg s) := by
  intro k
  induction k with
  | zero =>
    intro s x1 x2 e H
    unfold f_X7_readsWord_4 at H
    cases H
  | succ k ih =>
    intro s x1 x2 e H KE
    unfold f_X7_readsWord_4 at H
    refine aw_aload_n (q := 5) dX7_readsWord_4 rfl rfl ?_
    refine aw_bipush (q := 7) (v := 97) dX7_readsWord_5 rfl (by decide) ?_
    refine aw_bipush (q := 9) (v := 122) dX7_readsWord_7 rfl (by decide) ?_
    obtain ⟨v1, hv1, H⟩ := zbd H
    refine aw_cv (M' := M_X7_isHere) (as := [.int 97, .int 122]) (q := 12) dX7_readsWord_9 rfl W_X7_isHere k_X7_197 i_X7_isHere v_X7_isHere (by decide) (o_X7 sg s) rfl rfl rfl (by decide) (Nat.le_of_ble_eq_true rfl) (c_X7_isHere sg s 97 122 hv1) (Nat.le_refl _) (Nat.le_refl _) ?_
    rintro r9 h9 ⟨rfl, rfl⟩
    refine aw_ifeqB (q := 15) (t := 60) dX7_readsWord_12 rfl (by decide) (fun h2 => ?_) (fun h2 => ?_)
    · replace H := zt h2 H
      refine aw_iload_n (q := 16) dX7_readsWord_15 rfl rfl ?_
      refine aw_iconst (q := 17) (v := 5) dX7_readsWord_16 rfl (by decide) ?_
      refine aw_icmp_ge (q := 20) (t := 42) dX7_readsWord_17 rfl (by decide) (fun h3 => ?_) (fun h3 => ?_)
      · replace H := zt h3 H
        refine aw_iconst (q := 43) (v := 0) dX7_readsWord_42 rfl (by decide) ?_
        refine aw_istore_n (q := 44) (L' := [some (.ref 120), some (.int 0), some (.int x2)]) dX7_readsWord_43 rfl (by decide) rfl rfl ?_
        refine aw_iinc (q := 47) (v := x2 + 1) (L' := [some (.ref 120), some (.int 0), some (.int (x2 + 1))]) dX7_readsWord_44 rfl rfl (by first | rfl | decide) (by decide) rfl rfl ?_
        refine aw_aload_n (q := 48) dX7_readsWord_47 rfl rfl ?_
        refine aw_dup (q := 49) dX7_readsWord_48 rfl rfl ?_
        refine aw_getr (q := 52) dX7_readsWord_49 rfl e_X7_194 (by decide) (o_X7 sg s) rfl ?_
        refine aw_iconst (q := 53) (v := 1) dX7_readsWord_52 rfl (by decide) ?_
        refine aw_iadd (q := 54) dX7_readsWord_53 rfl ?_
        obtain ⟨s4, q5, H⟩ := zltd H
        refine aw_put (q := 57) dX7_readsWord_54 rfl f_X7_194 (by decide) (o_X7 sg s) rfl rfl (Nat.le_of_ble_eq_true rfl) ((p_X7_8).trans (congrArg (fun z => zT sg z) q5.symm)) ?_
        refine aw_goto (q := 4) dX7_readsWord_57 (by decide) ?_
        exact aw_fewer (L' := [some (.ref 120), some (.int 0), some (.int (x2 + 1))]) ⟨rfl, ⟨rfl, ⟨rfl, trivial⟩⟩⟩ (ih s4 0 (x2 + 1) _ H KE)
      · replace H := zf h3 H
        refine aw_bipush (q := 22) (v := 27) dX7_readsWord_20 rfl (by decide) ?_
        refine aw_iload_n (q := 23) dX7_readsWord_22 rfl rfl ?_
        refine aw_imul (q := 24) dX7_readsWord_23 rfl ?_
        refine aw_aload_n (q := 25) dX7_readsWord_24 rfl rfl ?_
        refine aw_getr (q := 28) dX7_readsWord_25 rfl e_X7_25 (by decide) (o_X7 sg s) rfl ?_
        refine aw_aload_n (q := 29) dX7_readsWord_28 rfl rfl ?_
        refine aw_getr (q := 32) dX7_readsWord_29 rfl e_X7_194 (by decide) (o_X7 sg s) rfl ?_
        obtain ⟨h6, H⟩ := zio H
        refine aw_iald' (q := 33) (v := s 6 ((s 0 8).toNatClampNeg)) dX7_readsWord_32 rfl (by decide) (o_X7a6 sg s) (zin_in h6) rfl ?_
        refine aw_iadd (q := 34) dX7_readsWord_33 rfl ?_
        refine aw_bipush (q := 36) (v := 97) dX7_readsWord_34 rfl (by decide) ?_
        refine aw_isub (q := 37) dX7_readsWord_36 rfl ?_
        refine aw_iconst (q := 38) (v := 1) dX7_readsWord_37 rfl (by decide) ?_
        refine aw_iadd (q := 39) dX7_readsWord_38 rfl ?_
        refine aw_goto (q := 43) dX7_readsWord_39 (by decide) ?_
        obtain ⟨y7, q8, H⟩ := zltd H
        refine aw_nm q8 ?_
        refine aw_istore_n (q := 44) (L' := [some (.ref 120), some (.int y7), some (.int x2)]) dX7_readsWord_43 rfl (by decide) rfl rfl ?_
        refine aw_iinc (q := 47) (v := x2 + 1) (L' := [some (.ref 120), some (.int y7), some (.int (x2 + 1))]) dX7_readsWord_44 rfl rfl (by first | rfl | decide) (by decide) rfl rfl ?_
        refine aw_aload_n (q := 48) dX7_readsWord_47 rfl rfl ?_
        refine aw_dup (q := 49) dX7_readsWord_48 rfl rfl ?_
        refine aw_getr (q := 52) dX7_readsWord_49 rfl e_X7_194 (by decide) (o_X7 sg s) rfl ?_
        refine aw_iconst (q := 53) (v := 1) dX7_readsWord_52 rfl (by decide) ?_
        refine aw_iadd (q := 54) dX7_readsWord_53 rfl ?_
        obtain ⟨s9, q10, H⟩ := zltd H
        refine aw_put (q := 57) dX7_readsWord_54 rfl f_X7_194 (by decide) (o_X7 sg s) rfl rfl (Nat.le_of_ble_eq_true rfl) ((p_X7_8).trans (congrArg (fun z => zT sg z) q10.symm)) ?_
        refine aw_goto (q := 4) dX7_readsWord_57 (by decide) ?_
        exact aw_fewer (L' := [some (.ref 120), some (.int y7), some (.int (x2 + 1))]) ⟨rfl, ⟨rfl, ⟨rfl, trivial⟩⟩⟩ (ih s9 y7 (x2 + 1) _ H KE)
    · replace H := zf h2 H
      cases H
      exact aw_fewer (L' := [none, some (.int x1), some (.int x2)]) ⟨rfl, ⟨rfl, trivial⟩⟩ KE
def f_X7_readsWord (s : zr) : Option (Int32 × zr) :=
  Option.bind (f_X7_readsWord_4 zFu s 0 0) fun e1 =>
  if e1.2.2 ≤ 5 then (
    some (e1.2.1, e1.1)
  ) else (
    some (0, e1.1)
  )
set_option maxHeartbeats 4000000 in
set_option maxRecDepth 100000 in
theorem c_X7_readsWord {G : zG} {sl : Nat} (sg : zs) (s : zr)  {v9 : (Int32 × zr)} (H : f_X7_readsWord s = some v9) : zMv G 2 M_X7_readsWord [.ref 120] sl (zT sg s) (fun r h' => r = some (.int v9.1) ∧ h' = zT sg v9.2) := by
  unfold f_X7_readsWord at H
  refine zMv_of (L := [some (.ref 120), none, none]) (by decide) rfl (Nat.le_of_ble_eq_true rfl) rfl ?_
  refine aw_iconst (q := 1) (v := 0) dX7_readsWord_0 rfl (by decide) ?_
  refine aw_istore_n (q := 2) (L' := [some (.ref 120), some (.int 0), none]) dX7_readsWord_1 rfl (by decide) rfl rfl ?_
  refine aw_iconst (q := 3) (v := 0) dX7_readsWord_2 rfl (by decide) ?_
  refine aw_istore_n (q := 4) (L' := [some (.ref 120), some (.int 0), some (.int 0)]) dX7_readsWord_3 rfl (by decide) rfl rfl ?_
  obtain ⟨e1, he1, H⟩ := zbd H
  refine aw_fewer (L' := [some (.ref 120), some (.int 0), some (.int 0)]) ⟨rfl, ⟨rfl, ⟨rfl, trivial⟩⟩⟩ ?_
  refine L_X7_readsWord_4 sg  zFu s 0 0 e1 he1 ?_
  refine aw_iload_n (q := 61) dX7_readsWord_60 rfl rfl ?_
  refine aw_iconst (q := 62) (v := 5) dX7_readsWord_61 rfl (by decide) ?_
  refine aw_icmp_le (q := 65) (t := 69) dX7_readsWord_62 rfl (by decide) (fun h2 => ?_) (fun h2 => ?_)
  · replace H := zt h2 H
    refine aw_iload_n (q := 70) dX7_readsWord_69 rfl rfl ?_
    cases H
    exact aw_ret dX7_readsWord_70 rfl rfl rfl rfl ⟨rfl, rfl⟩
  · replace H := zf h2 H
    refine aw_iconst (q := 66) (v := 0) dX7_readsWord_65 rfl (by decide) ?_
    refine aw_goto (q := 70) dX7_readsWord_66 (by decide) ?_
    cases H
    exact aw_ret dX7_readsWord_70 rfl rfl rfl rfl ⟨rfl, rfl⟩
def f_X7_readsNumber_4 : Nat → zr → Int32 → Int32 → Option (zr × Int32)
  | 0, _, _, _ => none
  | k + 1, s, x1, x2 =>
    if (2 : Int32) ≤ x2 then (
      some (s, x1)
    ) else (
      Option.bind (f_X7_isHere s 48 57) fun v2 =>
      if v2 = true then (
        if x1 = (-1) then (
          if zin (s 0 8) 100 = true then
          zlt (((0 : Int32) + (s 6 ((s 0 8).toNatClampNeg))) - 48 : Int32) fun y6 =>
          zlt (zm s 0 8 ((s 0 8) + 1)) fun s8 =>
          f_X7_readsNumber_4 k s8 y6 (x2 + 1)
          else none
        ) else (
          if zin (s 0 8) 100 = true then
          zlt ((((10 : Int32) * x1) + (s 6 ((s 0 8).toNatClampNeg))) - 48 : Int32) fun y11 =>
          zlt (zm s 0 8 ((s 0 8) + 1)) fun s13 =>
          f_X7_readsNumber_4 k s13 y11 (x2 + 1)
          else none
        )
      ) else (
        some (s, x1)
      )
    )
set_option maxHeartbeats 4000000 in
set_option maxRecDepth 100000 in
theorem L_X7_readsNumber_4 {G : zG} {sl : Nat} {P : Option Value → zH → Prop} (sg : zs)  : ∀ (k : Nat) (s : zr) (x1 : Int32) (x2 : Int32) (e : zr × Int32), f_X7_readsNumber_4 k s x1 x2 = some e → (AV G M_X7_readsNumber 3 sl P 63 [some (.ref 120), some (.int e.2), none] [] (zT sg e.1)) → AV G M_X7_readsNumber 3 sl P 4 [some (.ref 120), some (.int x1), some (.int x2)] [] (zT sg s) := by
  intro k
  induction k with
  | zero =>
    intro s x1 x2 e H
    unfold f_X7_readsNumber_4 at H
    cases H
  | succ k ih =>
    intro s x1 x2 e H KE
    unfold f_X7_readsNumber_4 at H
    refine aw_iload_n (q := 5) dX7_readsNumber_4 rfl rfl ?_
    refine aw_iconst (q := 6) (v := 2) dX7_readsNumber_5 rfl (by decide) ?_
    refine aw_icmp_ge (q := 9) (t := 63) dX7_readsNumber_6 rfl (by decide) (fun h1 => ?_) (fun h1 => ?_)
    · replace H := zt h1 H
      cases H
      exact aw_fewer (L' := [some (.ref 120), some (.int x1), none]) ⟨rfl, ⟨rfl, trivial⟩⟩ KE
    · replace H := zf h1 H
      refine aw_aload_n (q := 10) dX7_readsNumber_9 rfl rfl ?_
      refine aw_bipush (q := 12) (v := 48) dX7_readsNumber_10 rfl (by decide) ?_
      refine aw_bipush (q := 14) (v := 57) dX7_readsNumber_12 rfl (by decide) ?_
      obtain ⟨v2, hv2, H⟩ := zbd H
      refine aw_cv (M' := M_X7_isHere) (as := [.int 48, .int 57]) (q := 17) dX7_readsNumber_14 rfl W_X7_isHere k_X7_197 i_X7_isHere v_X7_isHere (by decide) (o_X7 sg s) rfl rfl rfl (by decide) (Nat.le_of_ble_eq_true rfl) (c_X7_isHere sg s 48 57 hv2) (Nat.le_refl _) (Nat.le_refl _) ?_
      rintro r9 h9 ⟨rfl, rfl⟩
      refine aw_ifeqB (q := 20) (t := 63) dX7_readsNumber_17 rfl (by decide) (fun h3 => ?_) (fun h3 => ?_)
      · replace H := zt h3 H
        refine aw_iload_n (q := 21) dX7_readsNumber_20 rfl rfl ?_
        refine aw_iconst (q := 22) (v := (-1)) dX7_readsNumber_21 rfl (by decide) ?_
        refine aw_icmp_neP (q := 25) (t := 29) dX7_readsNumber_22 rfl (by decide) (fun h4 => ?_) (fun h4 => ?_)
        · replace H := zt h4 H
          refine aw_iconst (q := 26) (v := 0) dX7_readsNumber_25 rfl (by decide) ?_
          refine aw_goto (q := 33) dX7_readsNumber_26 (by decide) ?_
          refine aw_aload_n (q := 34) dX7_readsNumber_33 rfl rfl ?_
          refine aw_getr (q := 37) dX7_readsNumber_34 rfl e_X7_25 (by decide) (o_X7 sg s) rfl ?_
          refine aw_aload_n (q := 38) dX7_readsNumber_37 rfl rfl ?_
          refine aw_getr (q := 41) dX7_readsNumber_38 rfl e_X7_194 (by decide) (o_X7 sg s) rfl ?_
          obtain ⟨h5, H⟩ := zio H
          refine aw_iald' (q := 42) (v := s 6 ((s 0 8).toNatClampNeg)) dX7_readsNumber_41 rfl (by decide) (o_X7a6 sg s) (zin_in h5) rfl ?_
          refine aw_iadd (q := 43) dX7_readsNumber_42 rfl ?_
          refine aw_bipush (q := 45) (v := 48) dX7_readsNumber_43 rfl (by decide) ?_
          refine aw_isub (q := 46) dX7_readsNumber_45 rfl ?_
          obtain ⟨y6, q7, H⟩ := zltd H
          refine aw_nm q7 ?_
          refine aw_istore_n (q := 47) (L' := [some (.ref 120), some (.int y6), some (.int x2)]) dX7_readsNumber_46 rfl (by decide) rfl rfl ?_
          refine aw_aload_n (q := 48) dX7_readsNumber_47 rfl rfl ?_
          refine aw_dup (q := 49) dX7_readsNumber_48 rfl rfl ?_
          refine aw_getr (q := 52) dX7_readsNumber_49 rfl e_X7_194 (by decide) (o_X7 sg s) rfl ?_
          refine aw_iconst (q := 53) (v := 1) dX7_readsNumber_52 rfl (by decide) ?_
          refine aw_iadd (q := 54) dX7_readsNumber_53 rfl ?_
          obtain ⟨s8, q9, H⟩ := zltd H
          refine aw_put (q := 57) dX7_readsNumber_54 rfl f_X7_194 (by decide) (o_X7 sg s) rfl rfl (Nat.le_of_ble_eq_true rfl) ((p_X7_8).trans (congrArg (fun z => zT sg z) q9.symm)) ?_
          refine aw_iinc (q := 60) (v := x2 + 1) (L' := [some (.ref 120), some (.int y6), some (.int (x2 + 1))]) dX7_readsNumber_57 rfl rfl (by first | rfl | decide) (by decide) rfl rfl ?_
          refine aw_goto (q := 4) dX7_readsNumber_60 (by decide) ?_
          exact aw_fewer (L' := [some (.ref 120), some (.int y6), some (.int (x2 + 1))]) ⟨rfl, ⟨rfl, ⟨rfl, trivial⟩⟩⟩ (ih s8 y6 (x2 + 1) _ H KE)
        · replace H := zf h4 H
          refine aw_bipush (q := 31) (v := 10) dX7_readsNumber_29 rfl (by decide) ?_
          refine aw_iload_n (q := 32) dX7_readsNumber_31 rfl rfl ?_
          refine aw_imul (q := 33) dX7_readsNumber_32 rfl ?_
          refine aw_aload_n (q := 34) dX7_readsNumber_33 rfl rfl ?_
          refine aw_getr (q := 37) dX7_readsNumber_34 rfl e_X7_25 (by decide) (o_X7 sg s) rfl ?_
          refine aw_aload_n (q := 38) dX7_readsNumber_37 rfl rfl ?_
          refine aw_getr (q := 41) dX7_readsNumber_38 rfl e_X7_194 (by decide) (o_X7 sg s) rfl ?_
          obtain ⟨h10, H⟩ := zio H
          refine aw_iald' (q := 42) (v := s 6 ((s 0 8).toNatClampNeg)) dX7_readsNumber_41 rfl (by decide) (o_X7a6 sg s) (zin_in h10) rfl ?_
          refine aw_iadd (q := 43) dX7_readsNumber_42 rfl ?_
          refine aw_bipush (q := 45) (v := 48) dX7_readsNumber_43 rfl (by decide) ?_
          refine aw_isub (q := 46) dX7_readsNumber_45 rfl ?_
          obtain ⟨y11, q12, H⟩ := zltd H
          refine aw_nm q12 ?_
          refine aw_istore_n (q := 47) (L' := [some (.ref 120), some (.int y11), some (.int x2)]) dX7_readsNumber_46 rfl (by decide) rfl rfl ?_
          refine aw_aload_n (q := 48) dX7_readsNumber_47 rfl rfl ?_
          refine aw_dup (q := 49) dX7_readsNumber_48 rfl rfl ?_
          refine aw_getr (q := 52) dX7_readsNumber_49 rfl e_X7_194 (by decide) (o_X7 sg s) rfl ?_
          refine aw_iconst (q := 53) (v := 1) dX7_readsNumber_52 rfl (by decide) ?_
          refine aw_iadd (q := 54) dX7_readsNumber_53 rfl ?_
          obtain ⟨s13, q14, H⟩ := zltd H
          refine aw_put (q := 57) dX7_readsNumber_54 rfl f_X7_194 (by decide) (o_X7 sg s) rfl rfl (Nat.le_of_ble_eq_true rfl) ((p_X7_8).trans (congrArg (fun z => zT sg z) q14.symm)) ?_
          refine aw_iinc (q := 60) (v := x2 + 1) (L' := [some (.ref 120), some (.int y11), some (.int (x2 + 1))]) dX7_readsNumber_57 rfl rfl (by first | rfl | decide) (by decide) rfl rfl ?_
          refine aw_goto (q := 4) dX7_readsNumber_60 (by decide) ?_
          exact aw_fewer (L' := [some (.ref 120), some (.int y11), some (.int (x2 + 1))]) ⟨rfl, ⟨rfl, ⟨rfl, trivial⟩⟩⟩ (ih s13 y11 (x2 + 1) _ H KE)
      · replace H := zf h3 H
        cases H
        exact aw_fewer (L' := [some (.ref 120), some (.int x1), none]) ⟨rfl, ⟨rfl, trivial⟩⟩ KE
def f_X7_readsNumber (s : zr) : Option (Int32 × zr) :=
  Option.bind (f_X7_readsNumber_4 zFu s (-1) 0) fun e1 =>
  Option.bind (f_X7_isEnded e1.1) fun v2 =>
  if v2 = true then (
    some (e1.2, e1.1)
  ) else (
    some ((-1), e1.1)
  )
set_option maxHeartbeats 4000000 in
set_option maxRecDepth 100000 in
theorem c_X7_readsNumber {G : zG} {sl : Nat} (sg : zs) (s : zr)  {v9 : (Int32 × zr)} (H : f_X7_readsNumber s = some v9) : zMv G 3 M_X7_readsNumber [.ref 120] sl (zT sg s) (fun r h' => r = some (.int v9.1) ∧ h' = zT sg v9.2) := by
  unfold f_X7_readsNumber at H
  refine zMv_of (L := [some (.ref 120), none, none]) (by decide) rfl (Nat.le_of_ble_eq_true rfl) rfl ?_
  refine aw_iconst (q := 1) (v := (-1)) dX7_readsNumber_0 rfl (by decide) ?_
  refine aw_istore_n (q := 2) (L' := [some (.ref 120), some (.int (-1)), none]) dX7_readsNumber_1 rfl (by decide) rfl rfl ?_
  refine aw_iconst (q := 3) (v := 0) dX7_readsNumber_2 rfl (by decide) ?_
  refine aw_istore_n (q := 4) (L' := [some (.ref 120), some (.int (-1)), some (.int 0)]) dX7_readsNumber_3 rfl (by decide) rfl rfl ?_
  obtain ⟨e1, he1, H⟩ := zbd H
  refine aw_fewer (L' := [some (.ref 120), some (.int (-1)), some (.int 0)]) ⟨rfl, ⟨rfl, ⟨rfl, trivial⟩⟩⟩ ?_
  refine L_X7_readsNumber_4 sg  zFu s (-1) 0 e1 he1 ?_
  refine aw_aload_n (q := 64) dX7_readsNumber_63 rfl rfl ?_
  obtain ⟨v2, hv2, H⟩ := zbd H
  refine aw_cv (M' := M_X7_isEnded) (as := []) (q := 67) dX7_readsNumber_64 rfl W_X7_isEnded k_X7_200 i_X7_isEnded v_X7_isEnded (by decide) (o_X7 sg e1.1) rfl rfl rfl (by decide) (Nat.le_of_ble_eq_true rfl) (c_X7_isEnded sg e1.1 hv2) (Nat.le_refl _) (Nat.le_refl _) ?_
  rintro r9 h9 ⟨rfl, rfl⟩
  refine aw_ifeqB (q := 70) (t := 74) dX7_readsNumber_67 rfl (by decide) (fun h3 => ?_) (fun h3 => ?_)
  · replace H := zt h3 H
    refine aw_iload_n (q := 71) dX7_readsNumber_70 rfl rfl ?_
    refine aw_goto (q := 75) dX7_readsNumber_71 (by decide) ?_
    cases H
    exact aw_ret dX7_readsNumber_75 rfl rfl rfl rfl ⟨rfl, rfl⟩
  · replace H := zf h3 H
    refine aw_iconst (q := 75) (v := (-1)) dX7_readsNumber_74 rfl (by decide) ?_
    cases H
    exact aw_ret dX7_readsNumber_75 rfl rfl rfl rfl ⟨rfl, rfl⟩
