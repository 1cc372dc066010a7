def f_X6_alike (s : zs) (x1 : Int32) (x2 : Int32) : Option (Int32 × zs) :=
  if f_X6_isFaultOrNone s x1 = true then (
    if f_X6_isFaultOrNone s x2 = true then (
      Option.bind (f_X2_measureWeek s) fun v3 =>
      Option.bind (f_X2_daysAlike v3 (f_X6_suspectFor x1) (f_X6_suspectFor x2)) fun v4 =>
      some (v4, v3)
    ) else (
      some ((-1000001), s)
    )
  ) else (
    some ((-1000001), s)
  )
set_option maxHeartbeats 4000000 in
set_option maxRecDepth 100000 in
theorem c_X6_alike {G : zG} {sl : Nat} (s : zs) (R : zr) (x1 : Int32) (x2 : Int32) {v9 : (Int32 × zs)} (H : f_X6_alike s x1 x2 = some v9) : zMv G 6 M_X6_alike [.ref 0, .int x1, .int x2] sl (zT s R) (fun r h' => r = some (.int v9.1) ∧ h' = zT v9.2 R) := by
  unfold f_X6_alike at H
  refine zMv_of (L := [some (.ref 0), some (.int x1), some (.int x2)]) (by decide) rfl (Nat.le_of_ble_eq_true rfl) rfl ?_
  refine aw_aload_n (q := 1) dX6_alike_0 rfl rfl ?_
  refine aw_iload_n (q := 2) dX6_alike_1 rfl rfl ?_
  refine aw_cv (M' := M_X6_isFaultOrNone) (as := [.int x1]) (q := 5) dX6_alike_2 rfl W_X6_isFaultOrNone k_X6_122 i_X6_isFaultOrNone v_X6_isFaultOrNone (by decide) (o_X6 s R) rfl rfl rfl (by decide) (Nat.le_of_ble_eq_true rfl) (c_X6_isFaultOrNone s R x1) (Nat.le_refl _) (Nat.le_refl _) ?_
  rintro r9 h9 ⟨rfl, rfl⟩
  refine aw_ifeqB (q := 8) (t := 16) dX6_alike_5 rfl (by decide) (fun h1 => ?_) (fun h1 => ?_)
  · replace H := zt h1 H
    refine aw_aload_n (q := 9) dX6_alike_8 rfl rfl ?_
    refine aw_iload_n (q := 10) dX6_alike_9 rfl rfl ?_
    refine aw_cv (M' := M_X6_isFaultOrNone) (as := [.int x2]) (q := 13) dX6_alike_10 rfl W_X6_isFaultOrNone k_X6_122 i_X6_isFaultOrNone v_X6_isFaultOrNone (by decide) (o_X6 s R) rfl rfl rfl (by decide) (Nat.le_of_ble_eq_true rfl) (c_X6_isFaultOrNone s R x2) (Nat.le_refl _) (Nat.le_refl _) ?_
    rintro r9 h9 ⟨rfl, rfl⟩
    refine aw_ifneB (q := 16) (t := 19) dX6_alike_13 rfl (by decide) (fun h2 => ?_) (fun h2 => ?_)
    · replace H := zt h2 H
      refine aw_aload_n (q := 20) dX6_alike_19 rfl rfl ?_
      refine aw_getr (q := 23) dX6_alike_20 rfl e_X6_38 (by decide) (o_X6 s R) rfl ?_
      obtain ⟨v3, hv3, H⟩ := zbd H
      refine aw_cv (M' := M_X2_measureWeek) (as := []) (q := 26) dX6_alike_23 rfl W_X2_measureWeek k_X6_154 i_X2_measureWeek v_X2_measureWeek (by decide) (o_X2 s R) rfl rfl rfl (by decide) (Nat.le_of_ble_eq_true rfl) (c_X2_measureWeek s R hv3) (Nat.le_refl _) (Nat.le_refl _) ?_
      rintro r9 h9 ⟨rfl, rfl⟩
      refine aw_aload_n (q := 27) dX6_alike_26 rfl rfl ?_
      refine aw_getr (q := 30) dX6_alike_27 rfl e_X6_38 (by decide) (o_X6 v3 R) rfl ?_
      refine aw_iload_n (q := 31) dX6_alike_30 rfl rfl ?_
      refine aw_cs (M' := M_X6_suspectFor) (as := [.int x1]) (q := 34) dX6_alike_31 rfl W_X6_suspectFor k_X6_125 s_X6_suspectFor rfl rfl (by decide) (Nat.le_of_ble_eq_true rfl) (c_X6_suspectFor (zT v3 R) x1) (Nat.le_refl _) (Nat.le_refl _) ?_
      rintro r9 h9 ⟨rfl, rfl⟩
      refine aw_iload_n (q := 35) dX6_alike_34 rfl rfl ?_
      refine aw_cs (M' := M_X6_suspectFor) (as := [.int x2]) (q := 38) dX6_alike_35 rfl W_X6_suspectFor k_X6_125 s_X6_suspectFor rfl rfl (by decide) (Nat.le_of_ble_eq_true rfl) (c_X6_suspectFor (zT v3 R) x2) (Nat.le_refl _) (Nat.le_refl _) ?_
      rintro r9 h9 ⟨rfl, rfl⟩
      obtain ⟨v4, hv4, H⟩ := zbd H
      refine aw_cv (M' := M_X2_daysAlike) (as := [.int (f_X6_suspectFor x1), .int (f_X6_suspectFor x2)]) (q := 41) dX6_alike_38 rfl W_X2_daysAlike k_X6_160 i_X2_daysAlike v_X2_daysAlike (by decide) (o_X2 v3 R) rfl rfl rfl (by decide) (Nat.le_of_ble_eq_true rfl) (c_X2_daysAlike v3 R (f_X6_suspectFor x1) (f_X6_suspectFor x2) hv4) (Nat.le_refl _) (Nat.le_refl _) ?_
      rintro r9 h9 ⟨rfl, rfl⟩
      cases H
      exact aw_ret dX6_alike_41 rfl rfl rfl rfl ⟨rfl, rfl⟩
    · replace H := zf h2 H
      refine aw_ldc (q := 18) dX6_alike_16 rfl q_X6_74 ?_
      cases H
      exact aw_ret dX6_alike_18 rfl rfl rfl rfl ⟨rfl, rfl⟩
  · replace H := zf h1 H
    refine aw_ldc (q := 18) dX6_alike_16 rfl q_X6_74 ?_
    cases H
    exact aw_ret dX6_alike_18 rfl rfl rfl rfl ⟨rfl, rfl⟩
def f_X6_twin_26 : Nat → zs → Int32 → Int32 → Option ((Unit) ⊕ (Int32 × zs))
  | 0, _, _, _ => none
  | k + 1, s, x1, x2 =>
    if (s.1 (sB 74) 11) ≤ x2 then (
      some (Sum.inl ())
    ) else (
      if x2 = x1 then (
        f_X6_twin_26 k s x1 (x2 + 1)
      ) else (
        Option.bind (f_X2_daysAlike s x1 x2) fun v3 =>
        if v3 = 127 then (
          some (Sum.inr (x2, s))
        ) else (
          f_X6_twin_26 k s x1 (x2 + 1)
        )
      )
    )
set_option maxHeartbeats 4000000 in
set_option maxRecDepth 100000 in
theorem L_X6_twin_26 {G : zG} {sl : Nat} {P : Option Value → zH → Prop} (R : zr) (x1 : Int32) : ∀ (k : Nat) (s : zs) (x2 : Int32) (e : (Unit) ⊕ (Int32 × zs)), f_X6_twin_26 k s x1 x2 = some e → (∀ x9, e = Sum.inl x9 → AV G M_X6_twin 6 sl P 67 [some (.ref 0), some (.int x1), none] [] (zT s R)) → (∀ v9, e = Sum.inr v9 → P (some (.int v9.1)) (zT v9.2 R)) → AV G M_X6_twin 6 sl P 26 [some (.ref 0), some (.int x1), some (.int x2)] [] (zT s R) := by
  intro k
  induction k with
  | zero =>
    intro s x2 e H
    unfold f_X6_twin_26 at H
    cases H
  | succ k ih =>
    intro s x2 e H KE KR
    unfold f_X6_twin_26 at H
    refine aw_iload_n (q := 27) dX6_twin_26 rfl rfl ?_
    refine aw_aload_n (q := 28) dX6_twin_27 rfl rfl ?_
    refine aw_getr (q := 31) dX6_twin_28 rfl e_X6_31 (by decide) (o_X6 s R) rfl ?_
    refine aw_getr (q := 34) dX6_twin_31 rfl e_X6_42 (zX4_lt zX4_74) (o_X4 zX4_74 s R) rfl ?_
    refine aw_getr (q := 37) dX6_twin_34 rfl e_X6_163 (zB_lt0 (zX4_B zX4_74)) (o_X0 (zX4_B zX4_74) s R) rfl ?_
    refine aw_icmp_ge (q := 40) (t := 67) dX6_twin_37 rfl (by decide) (fun h1 => ?_) (fun h1 => ?_)
    · replace H := zt h1 H
      cases H
      exact aw_fewer (L' := [some (.ref 0), some (.int x1), none]) ⟨rfl, ⟨rfl, trivial⟩⟩ (KE _ rfl)
    · replace H := zf h1 H
      refine aw_iload_n (q := 41) dX6_twin_40 rfl rfl ?_
      refine aw_iload_n (q := 42) dX6_twin_41 rfl rfl ?_
      refine aw_icmp_eq (q := 45) (t := 61) dX6_twin_42 rfl (by decide) (fun h2 => ?_) (fun h2 => ?_)
      · replace H := zt h2 H
        refine aw_iinc (q := 64) (v := x2 + 1) (L' := [some (.ref 0), some (.int x1), some (.int (x2 + 1))]) dX6_twin_61 rfl rfl (by first | rfl | decide) (by decide) rfl rfl ?_
        refine aw_goto (q := 26) dX6_twin_64 (by decide) ?_
        exact aw_fewer (L' := [some (.ref 0), some (.int x1), some (.int (x2 + 1))]) ⟨rfl, ⟨rfl, ⟨rfl, trivial⟩⟩⟩ (ih s (x2 + 1) _ H KE KR)
      · replace H := zf h2 H
        refine aw_aload_n (q := 46) dX6_twin_45 rfl rfl ?_
        refine aw_getr (q := 49) dX6_twin_46 rfl e_X6_38 (by decide) (o_X6 s R) rfl ?_
        refine aw_iload_n (q := 50) dX6_twin_49 rfl rfl ?_
        refine aw_iload_n (q := 51) dX6_twin_50 rfl rfl ?_
        obtain ⟨v3, hv3, H⟩ := zbd H
        refine aw_cv (M' := M_X2_daysAlike) (as := [.int x1, .int x2]) (q := 54) dX6_twin_51 rfl W_X2_daysAlike k_X6_160 i_X2_daysAlike v_X2_daysAlike (by decide) (o_X2 s R) rfl rfl rfl (by decide) (Nat.le_of_ble_eq_true rfl) (c_X2_daysAlike s R x1 x2 hv3) (Nat.le_refl _) (Nat.le_refl _) ?_
        rintro r9 h9 ⟨rfl, rfl⟩
        refine aw_bipush (q := 56) (v := 127) dX6_twin_54 rfl (by decide) ?_
        refine aw_icmp_neP (q := 59) (t := 61) dX6_twin_56 rfl (by decide) (fun h4 => ?_) (fun h4 => ?_)
        · replace H := zt h4 H
          refine aw_iload_n (q := 60) dX6_twin_59 rfl rfl ?_
          cases H
          exact aw_ret dX6_twin_60 rfl rfl rfl rfl (KR _ rfl)
        · replace H := zf h4 H
          refine aw_iinc (q := 64) (v := x2 + 1) (L' := [some (.ref 0), some (.int x1), some (.int (x2 + 1))]) dX6_twin_61 rfl rfl (by first | rfl | decide) (by decide) rfl rfl ?_
          refine aw_goto (q := 26) dX6_twin_64 (by decide) ?_
          exact aw_fewer (L' := [some (.ref 0), some (.int x1), some (.int (x2 + 1))]) ⟨rfl, ⟨rfl, ⟨rfl, trivial⟩⟩⟩ (ih s (x2 + 1) _ H KE KR)
def f_X6_twin (s : zs) (x1 : Int32) : Option (Int32 × zs) :=
  if f_X0_isFault s (sB 74) x1 = true then (
    Option.bind (f_X2_measureWeek s) fun v2 =>
    Option.bind (f_X6_twin_26 zFu v2 x1 0) fun e3 => match e3 with
    | Sum.inr r6 => some r6
    | Sum.inl e3i =>
    Option.bind (f_X2_daysAlike v2 x1 10) fun v7 =>
    if v7 = 127 then (
      some ((-1), v2)
    ) else (
      some ((-1000004), v2)
    )
  ) else (
    some ((-1000001), s)
  )
set_option maxHeartbeats 4000000 in
set_option maxRecDepth 100000 in
theorem c_X6_twin {G : zG} {sl : Nat} (s : zs) (R : zr) (x1 : Int32) {v9 : (Int32 × zs)} (H : f_X6_twin s x1 = some v9) : zMv G 6 M_X6_twin [.ref 0, .int x1] sl (zT s R) (fun r h' => r = some (.int v9.1) ∧ h' = zT v9.2 R) := by
  unfold f_X6_twin at H
  refine zMv_of (L := [some (.ref 0), some (.int x1), none]) (by decide) rfl (Nat.le_of_ble_eq_true rfl) rfl ?_
  refine aw_aload_n (q := 1) dX6_twin_0 rfl rfl ?_
  refine aw_getr (q := 4) dX6_twin_1 rfl e_X6_31 (by decide) (o_X6 s R) rfl ?_
  refine aw_getr (q := 7) dX6_twin_4 rfl e_X6_42 (zX4_lt zX4_74) (o_X4 zX4_74 s R) rfl ?_
  refine aw_iload_n (q := 8) dX6_twin_7 rfl rfl ?_
  refine aw_cv (M' := M_X0_isFault) (as := [.int x1]) (q := 11) dX6_twin_8 rfl W_X0_isFault k_X6_103 i_X0_isFault v_X0_isFault (zB_lt0 (zX4_B zX4_74)) (o_X0 (zX4_B zX4_74) s R) rfl rfl rfl (by decide) (Nat.le_of_ble_eq_true rfl) (c_X0_isFault s R (zX4_B zX4_74) x1) (Nat.le_refl _) (Nat.le_refl _) ?_
  rintro r9 h9 ⟨rfl, rfl⟩
  refine aw_ifneB (q := 14) (t := 17) dX6_twin_11 rfl (by decide) (fun h1 => ?_) (fun h1 => ?_)
  · replace H := zt h1 H
    refine aw_aload_n (q := 18) dX6_twin_17 rfl rfl ?_
    refine aw_getr (q := 21) dX6_twin_18 rfl e_X6_38 (by decide) (o_X6 s R) rfl ?_
    obtain ⟨v2, hv2, H⟩ := zbd H
    refine aw_cv (M' := M_X2_measureWeek) (as := []) (q := 24) dX6_twin_21 rfl W_X2_measureWeek k_X6_154 i_X2_measureWeek v_X2_measureWeek (by decide) (o_X2 s R) rfl rfl rfl (by decide) (Nat.le_of_ble_eq_true rfl) (c_X2_measureWeek s R hv2) (Nat.le_refl _) (Nat.le_refl _) ?_
    rintro r9 h9 ⟨rfl, rfl⟩
    refine aw_iconst (q := 25) (v := 0) dX6_twin_24 rfl (by decide) ?_
    refine aw_istore_n (q := 26) (L' := [some (.ref 0), some (.int x1), some (.int 0)]) dX6_twin_25 rfl (by decide) rfl rfl ?_
    obtain ⟨e3, he3, H⟩ := zbd H
    refine aw_fewer (L' := [some (.ref 0), some (.int x1), some (.int 0)]) ⟨rfl, ⟨rfl, ⟨rfl, trivial⟩⟩⟩ ?_
    refine L_X6_twin_26 R x1 zFu v2 0 e3 he3 (fun e3i h9 => ?_) (fun r6 h9 => ?_)
    · subst h9
      replace H : _ = _ := H
      refine aw_aload_n (q := 68) dX6_twin_67 rfl rfl ?_
      refine aw_getr (q := 71) dX6_twin_68 rfl e_X6_38 (by decide) (o_X6 v2 R) rfl ?_
      refine aw_iload_n (q := 72) dX6_twin_71 rfl rfl ?_
      refine aw_bipush (q := 74) (v := 10) dX6_twin_72 rfl (by decide) ?_
      obtain ⟨v7, hv7, H⟩ := zbd H
      refine aw_cv (M' := M_X2_daysAlike) (as := [.int x1, .int 10]) (q := 77) dX6_twin_74 rfl W_X2_daysAlike k_X6_160 i_X2_daysAlike v_X2_daysAlike (by decide) (o_X2 v2 R) rfl rfl rfl (by decide) (Nat.le_of_ble_eq_true rfl) (c_X2_daysAlike v2 R x1 10 hv7) (Nat.le_refl _) (Nat.le_refl _) ?_
      rintro r9 h9 ⟨rfl, rfl⟩
      refine aw_bipush (q := 79) (v := 127) dX6_twin_77 rfl (by decide) ?_
      refine aw_icmp_neP (q := 82) (t := 86) dX6_twin_79 rfl (by decide) (fun h8 => ?_) (fun h8 => ?_)
      · replace H := zt h8 H
        refine aw_iconst (q := 83) (v := (-1)) dX6_twin_82 rfl (by decide) ?_
        refine aw_goto (q := 88) dX6_twin_83 (by decide) ?_
        cases H
        exact aw_ret dX6_twin_88 rfl rfl rfl rfl ⟨rfl, rfl⟩
      · replace H := zf h8 H
        refine aw_ldc (q := 88) dX6_twin_86 rfl q_X6_115 ?_
        cases H
        exact aw_ret dX6_twin_88 rfl rfl rfl rfl ⟨rfl, rfl⟩
    · subst h9
      cases H
      exact ⟨rfl, rfl⟩
  · replace H := zf h1 H
    refine aw_ldc (q := 16) dX6_twin_14 rfl q_X6_74 ?_
    cases H
    exact aw_ret dX6_twin_16 rfl rfl rfl rfl ⟨rfl, rfl⟩
def f_X6_outcomes (s : zs) (x1 : Int32) : Option (Int32 × zs) :=
  if f_X6_isDay x1 = true then (
    Option.bind (f_X2_measureWeek s) fun v2 =>
    Option.bind (f_X2_unlikeOutcomes v2 x1) fun v3 =>
    some (v3, v2)
  ) else (
    some ((-1000001), s)
  )
set_option maxHeartbeats 4000000 in
set_option maxRecDepth 100000 in
theorem c_X6_outcomes {G : zG} {sl : Nat} (s : zs) (R : zr) (x1 : Int32) {v9 : (Int32 × zs)} (H : f_X6_outcomes s x1 = some v9) : zMv G 6 M_X6_outcomes [.ref 0, .int x1] sl (zT s R) (fun r h' => r = some (.int v9.1) ∧ h' = zT v9.2 R) := by
  unfold f_X6_outcomes at H
  refine zMv_of (L := [some (.ref 0), some (.int x1)]) (by decide) rfl (Nat.le_of_ble_eq_true rfl) rfl ?_
  refine aw_iload_n (q := 1) dX6_outcomes_0 rfl rfl ?_
  refine aw_cs (M' := M_X6_isDay) (as := [.int x1]) (q := 4) dX6_outcomes_1 rfl W_X6_isDay k_X6_119 s_X6_isDay rfl rfl (by decide) (Nat.le_of_ble_eq_true rfl) (c_X6_isDay (zT s R) x1) (Nat.le_refl _) (Nat.le_refl _) ?_
  rintro r9 h9 ⟨rfl, rfl⟩
  refine aw_ifneB (q := 7) (t := 10) dX6_outcomes_4 rfl (by decide) (fun h1 => ?_) (fun h1 => ?_)
  · replace H := zt h1 H
    refine aw_aload_n (q := 11) dX6_outcomes_10 rfl rfl ?_
    refine aw_getr (q := 14) dX6_outcomes_11 rfl e_X6_38 (by decide) (o_X6 s R) rfl ?_
    obtain ⟨v2, hv2, H⟩ := zbd H
    refine aw_cv (M' := M_X2_measureWeek) (as := []) (q := 17) dX6_outcomes_14 rfl W_X2_measureWeek k_X6_154 i_X2_measureWeek v_X2_measureWeek (by decide) (o_X2 s R) rfl rfl rfl (by decide) (Nat.le_of_ble_eq_true rfl) (c_X2_measureWeek s R hv2) (Nat.le_refl _) (Nat.le_refl _) ?_
    rintro r9 h9 ⟨rfl, rfl⟩
    refine aw_aload_n (q := 18) dX6_outcomes_17 rfl rfl ?_
    refine aw_getr (q := 21) dX6_outcomes_18 rfl e_X6_38 (by decide) (o_X6 v2 R) rfl ?_
    refine aw_iload_n (q := 22) dX6_outcomes_21 rfl rfl ?_
    obtain ⟨v3, hv3, H⟩ := zbd H
    refine aw_cv (M' := M_X2_unlikeOutcomes) (as := [.int x1]) (q := 25) dX6_outcomes_22 rfl W_X2_unlikeOutcomes k_X6_166 i_X2_unlikeOutcomes v_X2_unlikeOutcomes (by decide) (o_X2 v2 R) rfl rfl rfl (by decide) (Nat.le_of_ble_eq_true rfl) (c_X2_unlikeOutcomes v2 R x1 hv3) (Nat.le_refl _) (Nat.le_refl _) ?_
    rintro r9 h9 ⟨rfl, rfl⟩
    cases H
    exact aw_ret dX6_outcomes_25 rfl rfl rfl rfl ⟨rfl, rfl⟩
  · replace H := zf h1 H
    refine aw_ldc (q := 9) dX6_outcomes_7 rfl q_X6_74 ?_
    cases H
    exact aw_ret dX6_outcomes_9 rfl rfl rfl rfl ⟨rfl, rfl⟩
def f_X6_likes (s : zs) (x1 : Int32) (x2 : Int32) : Option (Int32 × zs) :=
  if f_X6_isDay x1 = true then (
    if f_X6_isFaultOrNone s x2 = true then (
      Option.bind (f_X2_measureWeek s) fun v3 =>
      Option.bind (f_X2_suspectsLike v3 x1 (f_X6_suspectFor x2)) fun v4 =>
      some (v4, v3)
    ) else (
      some ((-1000001), s)
    )
  ) else (
    some ((-1000001), s)
  )
set_option maxHeartbeats 4000000 in
set_option maxRecDepth 100000 in
theorem c_X6_likes {G : zG} {sl : Nat} (s : zs) (R : zr) (x1 : Int32) (x2 : Int32) {v9 : (Int32 × zs)} (H : f_X6_likes s x1 x2 = some v9) : zMv G 6 M_X6_likes [.ref 0, .int x1, .int x2] sl (zT s R) (fun r h' => r = some (.int v9.1) ∧ h' = zT v9.2 R) := by
  unfold f_X6_likes at H
  refine zMv_of (L := [some (.ref 0), some (.int x1), some (.int x2)]) (by decide) rfl (Nat.le_of_ble_eq_true rfl) rfl ?_
  refine aw_iload_n (q := 1) dX6_likes_0 rfl rfl ?_
  refine aw_cs (M' := M_X6_isDay) (as := [.int x1]) (q := 4) dX6_likes_1 rfl W_X6_isDay k_X6_119 s_X6_isDay rfl rfl (by decide) (Nat.le_of_ble_eq_true rfl) (c_X6_isDay (zT s R) x1) (Nat.le_refl _) (Nat.le_refl _) ?_
  rintro r9 h9 ⟨rfl, rfl⟩
  refine aw_ifeqB (q := 7) (t := 15) dX6_likes_4 rfl (by decide) (fun h1 => ?_) (fun h1 => ?_)
  · replace H := zt h1 H
    refine aw_aload_n (q := 8) dX6_likes_7 rfl rfl ?_
    refine aw_iload_n (q := 9) dX6_likes_8 rfl rfl ?_
    refine aw_cv (M' := M_X6_isFaultOrNone) (as := [.int x2]) (q := 12) dX6_likes_9 rfl W_X6_isFaultOrNone k_X6_122 i_X6_isFaultOrNone v_X6_isFaultOrNone (by decide) (o_X6 s R) rfl rfl rfl (by decide) (Nat.le_of_ble_eq_true rfl) (c_X6_isFaultOrNone s R x2) (Nat.le_refl _) (Nat.le_refl _) ?_
    rintro r9 h9 ⟨rfl, rfl⟩
    refine aw_ifneB (q := 15) (t := 18) dX6_likes_12 rfl (by decide) (fun h2 => ?_) (fun h2 => ?_)
    · replace H := zt h2 H
      refine aw_aload_n (q := 19) dX6_likes_18 rfl rfl ?_
      refine aw_getr (q := 22) dX6_likes_19 rfl e_X6_38 (by decide) (o_X6 s R) rfl ?_
      obtain ⟨v3, hv3, H⟩ := zbd H
      refine aw_cv (M' := M_X2_measureWeek) (as := []) (q := 25) dX6_likes_22 rfl W_X2_measureWeek k_X6_154 i_X2_measureWeek v_X2_measureWeek (by decide) (o_X2 s R) rfl rfl rfl (by decide) (Nat.le_of_ble_eq_true rfl) (c_X2_measureWeek s R hv3) (Nat.le_refl _) (Nat.le_refl _) ?_
      rintro r9 h9 ⟨rfl, rfl⟩
      refine aw_aload_n (q := 26) dX6_likes_25 rfl rfl ?_
      refine aw_getr (q := 29) dX6_likes_26 rfl e_X6_38 (by decide) (o_X6 v3 R) rfl ?_
      refine aw_iload_n (q := 30) dX6_likes_29 rfl rfl ?_
      refine aw_iload_n (q := 31) dX6_likes_30 rfl rfl ?_
      refine aw_cs (M' := M_X6_suspectFor) (as := [.int x2]) (q := 34) dX6_likes_31 rfl W_X6_suspectFor k_X6_125 s_X6_suspectFor rfl rfl (by decide) (Nat.le_of_ble_eq_true rfl) (c_X6_suspectFor (zT v3 R) x2) (Nat.le_refl _) (Nat.le_refl _) ?_
      rintro r9 h9 ⟨rfl, rfl⟩
      obtain ⟨v4, hv4, H⟩ := zbd H
      refine aw_cv (M' := M_X2_suspectsLike) (as := [.int x1, .int (f_X6_suspectFor x2)]) (q := 37) dX6_likes_34 rfl W_X2_suspectsLike k_X6_169 i_X2_suspectsLike v_X2_suspectsLike (by decide) (o_X2 v3 R) rfl rfl rfl (by decide) (Nat.le_of_ble_eq_true rfl) (c_X2_suspectsLike v3 R x1 (f_X6_suspectFor x2) hv4) (Nat.le_refl _) (Nat.le_refl _) ?_
      rintro r9 h9 ⟨rfl, rfl⟩
      cases H
      exact aw_ret dX6_likes_37 rfl rfl rfl rfl ⟨rfl, rfl⟩
    · replace H := zf h2 H
      refine aw_ldc (q := 17) dX6_likes_15 rfl q_X6_74 ?_
      cases H
      exact aw_ret dX6_likes_17 rfl rfl rfl rfl ⟨rfl, rfl⟩
  · replace H := zf h1 H
    refine aw_ldc (q := 17) dX6_likes_15 rfl q_X6_74 ?_
    cases H
    exact aw_ret dX6_likes_17 rfl rfl rfl rfl ⟨rfl, rfl⟩
def f_X6_sizeOrSet (x0 : Int32) (x1 : Int32) : Int32 :=
  if x1 = 0 then (
    f_J6_bitCount_0f7a4 x0
  ) else (
    x0
  )
set_option maxHeartbeats 4000000 in
set_option maxRecDepth 100000 in
theorem c_X6_sizeOrSet {G : zG} {sl : Nat} (h : zH) (x0 : Int32) (x1 : Int32)  : zMv G 1 M_X6_sizeOrSet [.int x0, .int x1] sl h (fun r h' => r = some (.int (f_X6_sizeOrSet x0 x1)) ∧ h' = h) := by
  generalize H : f_X6_sizeOrSet x0 x1 = r0
  unfold f_X6_sizeOrSet at H
  refine zMv_of (L := [some (.int x0), some (.int x1)]) (by decide) rfl (Nat.le_of_ble_eq_true rfl) rfl ?_
  refine aw_iload_n (q := 1) dX6_sizeOrSet_0 rfl rfl ?_
  refine aw_if_neP (q := 4) (t := 11) dX6_sizeOrSet_1 rfl (by decide) (fun h1 => ?_) (fun h1 => ?_)
  · replace H := zt h1 H
    refine aw_iload_n (q := 5) dX6_sizeOrSet_4 rfl rfl ?_
    refine aw_cs (M' := M_J6_bitCount_0f7a4) (as := [.int x0]) (q := 8) dX6_sizeOrSet_5 rfl W_J6_bitCount_0f7a4 k_X6_186 s_J6_bitCount_0f7a4 rfl rfl (by decide) (Nat.le_of_ble_eq_true rfl) (c_J6_bitCount_0f7a4 h x0) (Nat.le_refl _) (Nat.le_refl _) ?_
    rintro r9 h9 ⟨rfl, rfl⟩
    refine aw_goto (q := 12) dX6_sizeOrSet_8 (by decide) ?_
    subst H
    exact aw_ret dX6_sizeOrSet_12 rfl rfl rfl rfl ⟨rfl, rfl⟩
  · replace H := zf h1 H
    refine aw_iload_n (q := 12) dX6_sizeOrSet_11 rfl rfl ?_
    subst H
    exact aw_ret dX6_sizeOrSet_12 rfl rfl rfl rfl ⟨rfl, rfl⟩
def f_X6_fewestDays (s : zs) (x1 : Int32) (x2 : Int32) : Option (Int32 × zs) :=
  if f_X6_isZeroOrOne x1 = true then (
    if f_X6_isZeroOrOne x2 = true then (
      Option.bind (f_X2_measureWeek s) fun v3 =>
      if x1 = 1 then (
        Option.bind (f_X2_fewestDaysFor v3 true) fun v5 =>
        some (f_X6_sizeOrSet v5.1 x2, v5.2)
      ) else (
        Option.bind (f_X2_fewestDaysFor v3 false) fun v6 =>
        some (f_X6_sizeOrSet v6.1 x2, v6.2)
      )
    ) else (
      some ((-1000001), s)
    )
  ) else (
    some ((-1000001), s)
  )
set_option maxHeartbeats 4000000 in
set_option maxRecDepth 100000 in
theorem c_X6_fewestDays {G : zG} {sl : Nat} (s : zs) (R : zr) (x1 : Int32) (x2 : Int32) {v9 : (Int32 × zs)} (H : f_X6_fewestDays s x1 x2 = some v9) : zMv G 6 M_X6_fewestDays [.ref 0, .int x1, .int x2] sl (zT s R) (fun r h' => r = some (.int v9.1) ∧ h' = zT v9.2 R) := by
  unfold f_X6_fewestDays at H
  refine zMv_of (L := [some (.ref 0), some (.int x1), some (.int x2)]) (by decide) rfl (Nat.le_of_ble_eq_true rfl) rfl ?_
  refine aw_iload_n (q := 1) dX6_fewestDays_0 rfl rfl ?_
  refine aw_cs (M' := M_X6_isZeroOrOne) (as := [.int x1]) (q := 4) dX6_fewestDays_1 rfl W_X6_isZeroOrOne k_X6_148 s_X6_isZeroOrOne rfl rfl (by decide) (Nat.le_of_ble_eq_true rfl) (c_X6_isZeroOrOne (zT s R) x1) (Nat.le_refl _) (Nat.le_refl _) ?_
  rintro r9 h9 ⟨rfl, rfl⟩
  refine aw_ifeqB (q := 7) (t := 14) dX6_fewestDays_4 rfl (by decide) (fun h1 => ?_) (fun h1 => ?_)
  · replace H := zt h1 H
    refine aw_iload_n (q := 8) dX6_fewestDays_7 rfl rfl ?_
    refine aw_cs (M' := M_X6_isZeroOrOne) (as := [.int x2]) (q := 11) dX6_fewestDays_8 rfl W_X6_isZeroOrOne k_X6_148 s_X6_isZeroOrOne rfl rfl (by decide) (Nat.le_of_ble_eq_true rfl) (c_X6_isZeroOrOne (zT s R) x2) (Nat.le_refl _) (Nat.le_refl _) ?_
    rintro r9 h9 ⟨rfl, rfl⟩
    refine aw_ifneB (q := 14) (t := 17) dX6_fewestDays_11 rfl (by decide) (fun h2 => ?_) (fun h2 => ?_)
    · replace H := zt h2 H
      refine aw_aload_n (q := 18) dX6_fewestDays_17 rfl rfl ?_
      refine aw_getr (q := 21) dX6_fewestDays_18 rfl e_X6_38 (by decide) (o_X6 s R) rfl ?_
      obtain ⟨v3, hv3, H⟩ := zbd H
      refine aw_cv (M' := M_X2_measureWeek) (as := []) (q := 24) dX6_fewestDays_21 rfl W_X2_measureWeek k_X6_154 i_X2_measureWeek v_X2_measureWeek (by decide) (o_X2 s R) rfl rfl rfl (by decide) (Nat.le_of_ble_eq_true rfl) (c_X2_measureWeek s R hv3) (Nat.le_refl _) (Nat.le_refl _) ?_
      rintro r9 h9 ⟨rfl, rfl⟩
      refine aw_aload_n (q := 25) dX6_fewestDays_24 rfl rfl ?_
      refine aw_getr (q := 28) dX6_fewestDays_25 rfl e_X6_38 (by decide) (o_X6 v3 R) rfl ?_
      refine aw_iload_n (q := 29) dX6_fewestDays_28 rfl rfl ?_
      refine aw_iconst (q := 30) (v := 1) dX6_fewestDays_29 rfl (by decide) ?_
      refine aw_icmp_neP (q := 33) (t := 37) dX6_fewestDays_30 rfl (by decide) (fun h4 => ?_) (fun h4 => ?_)
      · replace H := zt h4 H
        refine aw_iconst (q := 34) (v := 1) dX6_fewestDays_33 rfl (by decide) ?_
        refine aw_goto (q := 38) dX6_fewestDays_34 (by decide) ?_
        obtain ⟨v5, hv5, H⟩ := zbd H
        refine aw_cv (M' := M_X2_fewestDaysFor) (as := [.int (zb true)]) (q := 41) dX6_fewestDays_38 rfl W_X2_fewestDaysFor k_X6_172 i_X2_fewestDaysFor v_X2_fewestDaysFor (by decide) (o_X2 v3 R) rfl rfl rfl (by decide) (Nat.le_of_ble_eq_true rfl) (c_X2_fewestDaysFor v3 R true hv5) (Nat.le_refl _) (Nat.le_refl _) ?_
        rintro r9 h9 ⟨rfl, rfl⟩
        refine aw_iload_n (q := 42) dX6_fewestDays_41 rfl rfl ?_
        refine aw_cs (M' := M_X6_sizeOrSet) (as := [.int v5.1, .int x2]) (q := 45) dX6_fewestDays_42 rfl W_X6_sizeOrSet k_X6_176 s_X6_sizeOrSet rfl rfl (by decide) (Nat.le_of_ble_eq_true rfl) (c_X6_sizeOrSet (zT v5.2 R) v5.1 x2) (Nat.le_refl _) (Nat.le_refl _) ?_
        rintro r9 h9 ⟨rfl, rfl⟩
        cases H
        exact aw_ret dX6_fewestDays_45 rfl rfl rfl rfl ⟨rfl, rfl⟩
      · replace H := zf h4 H
        refine aw_iconst (q := 38) (v := 0) dX6_fewestDays_37 rfl (by decide) ?_
        obtain ⟨v6, hv6, H⟩ := zbd H
        refine aw_cv (M' := M_X2_fewestDaysFor) (as := [.int (zb false)]) (q := 41) dX6_fewestDays_38 rfl W_X2_fewestDaysFor k_X6_172 i_X2_fewestDaysFor v_X2_fewestDaysFor (by decide) (o_X2 v3 R) rfl rfl rfl (by decide) (Nat.le_of_ble_eq_true rfl) (c_X2_fewestDaysFor v3 R false hv6) (Nat.le_refl _) (Nat.le_refl _) ?_
        rintro r9 h9 ⟨rfl, rfl⟩
        refine aw_iload_n (q := 42) dX6_fewestDays_41 rfl rfl ?_
        refine aw_cs (M' := M_X6_sizeOrSet) (as := [.int v6.1, .int x2]) (q := 45) dX6_fewestDays_42 rfl W_X6_sizeOrSet k_X6_176 s_X6_sizeOrSet rfl rfl (by decide) (Nat.le_of_ble_eq_true rfl) (c_X6_sizeOrSet (zT v6.2 R) v6.1 x2) (Nat.le_refl _) (Nat.le_refl _) ?_
        rintro r9 h9 ⟨rfl, rfl⟩
        cases H
        exact aw_ret dX6_fewestDays_45 rfl rfl rfl rfl ⟨rfl, rfl⟩
    · replace H := zf h2 H
      refine aw_ldc (q := 16) dX6_fewestDays_14 rfl q_X6_74 ?_
      cases H
      exact aw_ret dX6_fewestDays_16 rfl rfl rfl rfl ⟨rfl, rfl⟩
  · replace H := zf h1 H
    refine aw_ldc (q := 16) dX6_fewestDays_14 rfl q_X6_74 ?_
    cases H
    exact aw_ret dX6_fewestDays_16 rfl rfl rfl rfl ⟨rfl, rfl⟩
def f_X6_wanted (s : zs) (x1 : Int32) (x2 : Int32) (x3 : Int32) : Option (Int32 × zs) :=
  if f_X0_isFault s (sB 74) x1 = true then (
    if f_X6_isDay x2 = true then (
      if f_X6_isZeroOrOne x3 = true then (
        Option.bind (f_X0_blessedOn s (sB 74) x2) fun v4 =>
        Option.bind (f_X2_fewestPinsTelling s v4 x1) fun v5 =>
        if v5.1 = (-1) then (
          some ((-1000004), v5.2)
        ) else (
          some (f_X6_sizeOrSet v5.1 x3, v5.2)
        )
      ) else (
        some ((-1000001), s)
      )
    ) else (
      some ((-1000001), s)
    )
  ) else (
    some ((-1000001), s)
  )
set_option maxHeartbeats 4000000 in
set_option maxRecDepth 100000 in
theorem c_X6_wanted {G : zG} {sl : Nat} (s : zs) (R : zr) (x1 : Int32) (x2 : Int32) (x3 : Int32) {v9 : (Int32 × zs)} (H : f_X6_wanted s x1 x2 x3 = some v9) : zMv G 6 M_X6_wanted [.ref 0, .int x1, .int x2, .int x3] sl (zT s R) (fun r h' => r = some (.int v9.1) ∧ h' = zT v9.2 R) := by
  unfold f_X6_wanted at H
  refine zMv_of (L := [some (.ref 0), some (.int x1), some (.int x2), some (.int x3), none]) (by decide) rfl (Nat.le_of_ble_eq_true rfl) rfl ?_
  refine aw_aload_n (q := 1) dX6_wanted_0 rfl rfl ?_
  refine aw_getr (q := 4) dX6_wanted_1 rfl e_X6_31 (by decide) (o_X6 s R) rfl ?_
  refine aw_getr (q := 7) dX6_wanted_4 rfl e_X6_42 (zX4_lt zX4_74) (o_X4 zX4_74 s R) rfl ?_
  refine aw_iload_n (q := 8) dX6_wanted_7 rfl rfl ?_
  refine aw_cv (M' := M_X0_isFault) (as := [.int x1]) (q := 11) dX6_wanted_8 rfl W_X0_isFault k_X6_103 i_X0_isFault v_X0_isFault (zB_lt0 (zX4_B zX4_74)) (o_X0 (zX4_B zX4_74) s R) rfl rfl rfl (by decide) (Nat.le_of_ble_eq_true rfl) (c_X0_isFault s R (zX4_B zX4_74) x1) (Nat.le_refl _) (Nat.le_refl _) ?_
  rintro r9 h9 ⟨rfl, rfl⟩
  refine aw_ifeqB (q := 14) (t := 28) dX6_wanted_11 rfl (by decide) (fun h1 => ?_) (fun h1 => ?_)
  · replace H := zt h1 H
    refine aw_iload_n (q := 15) dX6_wanted_14 rfl rfl ?_
    refine aw_cs (M' := M_X6_isDay) (as := [.int x2]) (q := 18) dX6_wanted_15 rfl W_X6_isDay k_X6_119 s_X6_isDay rfl rfl (by decide) (Nat.le_of_ble_eq_true rfl) (c_X6_isDay (zT s R) x2) (Nat.le_refl _) (Nat.le_refl _) ?_
    rintro r9 h9 ⟨rfl, rfl⟩
    refine aw_ifeqB (q := 21) (t := 28) dX6_wanted_18 rfl (by decide) (fun h2 => ?_) (fun h2 => ?_)
    · replace H := zt h2 H
      refine aw_iload_n (q := 22) dX6_wanted_21 rfl rfl ?_
      refine aw_cs (M' := M_X6_isZeroOrOne) (as := [.int x3]) (q := 25) dX6_wanted_22 rfl W_X6_isZeroOrOne k_X6_148 s_X6_isZeroOrOne rfl rfl (by decide) (Nat.le_of_ble_eq_true rfl) (c_X6_isZeroOrOne (zT s R) x3) (Nat.le_refl _) (Nat.le_refl _) ?_
      rintro r9 h9 ⟨rfl, rfl⟩
      refine aw_ifneB (q := 28) (t := 31) dX6_wanted_25 rfl (by decide) (fun h3 => ?_) (fun h3 => ?_)
      · replace H := zt h3 H
        refine aw_aload_n (q := 32) dX6_wanted_31 rfl rfl ?_
        refine aw_getr (q := 35) dX6_wanted_32 rfl e_X6_38 (by decide) (o_X6 s R) rfl ?_
        refine aw_aload_n (q := 36) dX6_wanted_35 rfl rfl ?_
        refine aw_getr (q := 39) dX6_wanted_36 rfl e_X6_31 (by decide) (o_X6 s R) rfl ?_
        refine aw_getr (q := 42) dX6_wanted_39 rfl e_X6_42 (zX4_lt zX4_74) (o_X4 zX4_74 s R) rfl ?_
        refine aw_iload_n (q := 43) dX6_wanted_42 rfl rfl ?_
        obtain ⟨v4, hv4, H⟩ := zbd H
        refine aw_cv (M' := M_X0_blessedOn) (as := [.int x2]) (q := 46) dX6_wanted_43 rfl W_X0_blessedOn k_X6_132 i_X0_blessedOn v_X0_blessedOn (zB_lt0 (zX4_B zX4_74)) (o_X0 (zX4_B zX4_74) s R) rfl rfl rfl (by decide) (Nat.le_of_ble_eq_true rfl) (c_X0_blessedOn s R (zX4_B zX4_74) x2 hv4) (Nat.le_refl _) (Nat.le_refl _) ?_
        rintro r9 h9 ⟨rfl, rfl⟩
        refine aw_iload_n (q := 47) dX6_wanted_46 rfl rfl ?_
        obtain ⟨v5, hv5, H⟩ := zbd H
        refine aw_cv (M' := M_X2_fewestPinsTelling) (as := [.int v4, .int x1]) (q := 50) dX6_wanted_47 rfl W_X2_fewestPinsTelling k_X6_179 i_X2_fewestPinsTelling v_X2_fewestPinsTelling (by decide) (o_X2 s R) rfl rfl rfl (by decide) (Nat.le_of_ble_eq_true rfl) (c_X2_fewestPinsTelling s R v4 x1 hv5) (Nat.le_refl _) (Nat.le_refl _) ?_
        rintro r9 h9 ⟨rfl, rfl⟩
        refine aw_istore (q := 52) (L' := [some (.ref 0), some (.int x1), some (.int x2), some (.int x3), some (.int v5.1)]) dX6_wanted_50 rfl (by decide) rfl rfl ?_
        refine aw_iload (q := 54) dX6_wanted_52 rfl rfl ?_
        refine aw_iconst (q := 55) (v := (-1)) dX6_wanted_54 rfl (by decide) ?_
        refine aw_icmp_neP (q := 58) (t := 63) dX6_wanted_55 rfl (by decide) (fun h6 => ?_) (fun h6 => ?_)
        · replace H := zt h6 H
          refine aw_ldc (q := 60) dX6_wanted_58 rfl q_X6_115 ?_
          refine aw_goto (q := 69) dX6_wanted_60 (by decide) ?_
          cases H
          exact aw_ret dX6_wanted_69 rfl rfl rfl rfl ⟨rfl, rfl⟩
        · replace H := zf h6 H
          refine aw_iload (q := 65) dX6_wanted_63 rfl rfl ?_
          refine aw_iload_n (q := 66) dX6_wanted_65 rfl rfl ?_
          refine aw_cs (M' := M_X6_sizeOrSet) (as := [.int v5.1, .int x3]) (q := 69) dX6_wanted_66 rfl W_X6_sizeOrSet k_X6_176 s_X6_sizeOrSet rfl rfl (by decide) (Nat.le_of_ble_eq_true rfl) (c_X6_sizeOrSet (zT v5.2 R) v5.1 x3) (Nat.le_refl _) (Nat.le_refl _) ?_
          rintro r9 h9 ⟨rfl, rfl⟩
          cases H
          exact aw_ret dX6_wanted_69 rfl rfl rfl rfl ⟨rfl, rfl⟩
      · replace H := zf h3 H
        refine aw_ldc (q := 30) dX6_wanted_28 rfl q_X6_74 ?_
        cases H
        exact aw_ret dX6_wanted_30 rfl rfl rfl rfl ⟨rfl, rfl⟩
    · replace H := zf h2 H
      refine aw_ldc (q := 30) dX6_wanted_28 rfl q_X6_74 ?_
      cases H
      exact aw_ret dX6_wanted_30 rfl rfl rfl rfl ⟨rfl, rfl⟩
  · replace H := zf h1 H
    refine aw_ldc (q := 30) dX6_wanted_28 rfl q_X6_74 ?_
    cases H
    exact aw_ret dX6_wanted_30 rfl rfl rfl rfl ⟨rfl, rfl⟩
def f_X6_bitsOf_13 : Nat → UInt32 → Int32 → Option (UInt32 × Int32)
  | 0, _, _ => none
  | k + 1, x1, x2 =>
    if (0 : Int32) ≤ (Op.cmpValue (FP.fcmp x1 1065353216) CmpOp.g) then (
      some (x1, x2)
    ) else (
      if x2 ≤ 1 then (
        some (x1, x2)
      ) else (
        if isNaN32 (FP.fmul x1 1073741824) = false then
        f_X6_bitsOf_13 k (FP.fmul x1 1073741824) (x2 + (-1))
        else none
      )
    )
set_option maxHeartbeats 4000000 in
set_option maxRecDepth 100000 in
theorem L_X6_bitsOf_13 {G : zG} {sl : Nat} {P : Option Value → zH → Prop} (h : zH)  : ∀ (k : Nat)  (x1 : UInt32) (x2 : Int32) (e : UInt32 × Int32), f_X6_bitsOf_13 k x1 x2 = some e → (AV G M_X6_bitsOf 0 sl P 34 [none, some (.float e.1), some (.int e.2)] [] h) → AV G M_X6_bitsOf 0 sl P 13 [none, some (.float x1), some (.int x2)] [] h := by
  intro k
  induction k with
  | zero =>
    intro  x1 x2 e H
    unfold f_X6_bitsOf_13 at H
    cases H
  | succ k ih =>
    intro  x1 x2 e H KE
    unfold f_X6_bitsOf_13 at H
    refine aw_fload_n (q := 14) dX6_bitsOf_13 rfl rfl ?_
    refine aw_fconst1 (q := 15) (v := 1065353216) dX6_bitsOf_14 rfl (by decide) ?_
    refine aw_fcmp (q := 16) dX6_bitsOf_15 rfl ?_
    refine aw_if_ge (q := 19) (t := 34) dX6_bitsOf_16 rfl (by decide) (fun h1 => ?_) (fun h1 => ?_)
    · replace H := zt h1 H
      cases H
      exact aw_fewer (L' := [none, some (.float x1), some (.int x2)]) ⟨rfl, ⟨rfl, trivial⟩⟩ KE
    · replace H := zf h1 H
      refine aw_iload_n (q := 20) dX6_bitsOf_19 rfl rfl ?_
      refine aw_iconst (q := 21) (v := 1) dX6_bitsOf_20 rfl (by decide) ?_
      refine aw_icmp_le (q := 24) (t := 34) dX6_bitsOf_21 rfl (by decide) (fun h2 => ?_) (fun h2 => ?_)
      · replace H := zt h2 H
        cases H
        exact aw_fewer (L' := [none, some (.float x1), some (.int x2)]) ⟨rfl, ⟨rfl, trivial⟩⟩ KE
      · replace H := zf h2 H
        refine aw_fload_n (q := 25) dX6_bitsOf_24 rfl rfl ?_
        refine aw_fconst2 (q := 26) (v := 1073741824) dX6_bitsOf_25 rfl (by decide) ?_
        obtain ⟨h3, H⟩ := zio H
        refine aw_fmul (q := 27) dX6_bitsOf_26 rfl (zn32 h3) ?_
        refine aw_fstore_n (q := 28) (L' := [none, some (.float (FP.fmul x1 1073741824)), some (.int x2)]) dX6_bitsOf_27 rfl (by decide) rfl rfl ?_
        refine aw_iinc (q := 31) (v := x2 + (-1)) (L' := [none, some (.float (FP.fmul x1 1073741824)), some (.int (x2 + (-1)))]) dX6_bitsOf_28 rfl rfl (by first | rfl | decide) (by decide) rfl rfl ?_
        refine aw_goto (q := 13) dX6_bitsOf_31 (by decide) ?_
        exact aw_fewer (L' := [none, some (.float (FP.fmul x1 1073741824)), some (.int (x2 + (-1)))]) ⟨rfl, ⟨rfl, trivial⟩⟩ (ih  (FP.fmul x1 1073741824) (x2 + (-1)) _ H KE)
def f_X6_bitsOf (x0 : UInt32) : Option Int32 :=
  if (0 : Int32) < (Op.cmpValue (FP.fcmp x0 0) CmpOp.g) then (
    Option.bind (f_X6_bitsOf_13 zFu x0 127) fun e2 =>
    if isNaN32 (FP.fsub e2.1 1065353216) = false then
    if isNaN32 (FP.fmul (FP.fsub e2.1 1065353216) 1258291200) = false then
    some ((e2.2 <<< (23 &&& 31)) + (FP.f2i (FP.fmul (FP.fsub e2.1 1065353216) 1258291200)))
    else none
    else none
  ) else (
    some 0
  )
set_option maxHeartbeats 4000000 in
set_option maxRecDepth 100000 in
theorem c_X6_bitsOf {G : zG} {sl : Nat} (h : zH) (x0 : UInt32) {v9 : Int32} (H : f_X6_bitsOf x0 = some v9) : zMv G 0 M_X6_bitsOf [.float x0] sl h (fun r h' => r = some (.int v9) ∧ h' = h) := by
  unfold f_X6_bitsOf at H
  refine zMv_of (L := [some (.float x0), none, none]) (by decide) rfl (Nat.le_of_ble_eq_true rfl) rfl ?_
  refine aw_fload_n (q := 1) dX6_bitsOf_0 rfl rfl ?_
  refine aw_fconst0 (q := 2) (v := 0) dX6_bitsOf_1 rfl (by decide) ?_
  refine aw_fcmp (q := 3) dX6_bitsOf_2 rfl ?_
  refine aw_if_gt (q := 6) (t := 8) dX6_bitsOf_3 rfl (by decide) (fun h1 => ?_) (fun h1 => ?_)
  · replace H := zt h1 H
    refine aw_fload_n (q := 9) dX6_bitsOf_8 rfl rfl ?_
    refine aw_fstore_n (q := 10) (L' := [some (.float x0), some (.float x0), none]) dX6_bitsOf_9 rfl (by decide) rfl rfl ?_
    refine aw_bipush (q := 12) (v := 127) dX6_bitsOf_10 rfl (by decide) ?_
    refine aw_istore_n (q := 13) (L' := [some (.float x0), some (.float x0), some (.int 127)]) dX6_bitsOf_12 rfl (by decide) rfl rfl ?_
    obtain ⟨e2, he2, H⟩ := zbd H
    refine aw_fewer (L' := [none, some (.float x0), some (.int 127)]) ⟨rfl, ⟨rfl, trivial⟩⟩ ?_
    refine L_X6_bitsOf_13 h  zFu  x0 127 e2 he2 ?_
    refine aw_iload_n (q := 35) dX6_bitsOf_34 rfl rfl ?_
    refine aw_bipush (q := 37) (v := 23) dX6_bitsOf_35 rfl (by decide) ?_
    refine aw_ishl (q := 38) dX6_bitsOf_37 rfl ?_
    refine aw_fload_n (q := 39) dX6_bitsOf_38 rfl rfl ?_
    refine aw_fconst1 (q := 40) (v := 1065353216) dX6_bitsOf_39 rfl (by decide) ?_
    obtain ⟨h3, H⟩ := zio H
    refine aw_fsub (q := 41) dX6_bitsOf_40 rfl (zn32 h3) ?_
    refine aw_ldcwf (q := 44) dX6_bitsOf_41 rfl q_X6_266 ?_
    obtain ⟨h4, H⟩ := zio H
    refine aw_fmul (q := 45) dX6_bitsOf_44 rfl (zn32 h4) ?_
    refine aw_f2i (q := 46) dX6_bitsOf_45 rfl ?_
    refine aw_iadd (q := 47) dX6_bitsOf_46 rfl ?_
    cases H
    exact aw_ret dX6_bitsOf_47 rfl rfl rfl rfl ⟨rfl, rfl⟩
  · replace H := zf h1 H
    refine aw_iconst (q := 7) (v := 0) dX6_bitsOf_6 rfl (by decide) ?_
    cases H
    exact aw_ret dX6_bitsOf_7 rfl rfl rfl rfl ⟨rfl, rfl⟩
def f_X6_share (s : zs) (x1 : Int32) : Option (Int32 × zs) :=
  if f_X6_isDay x1 = true then (
    zlt (s.1 (sB 74) 11 : Int32) fun y2 =>
    if y2 = 0 then (
      Option.bind (f_X6_bitsOf 1065353216) fun v5 =>
      some (v5, s)
    ) else (
      Option.bind (f_X2_measureWeek s) fun v6 =>
      Option.bind (f_X2_suspectsLike v6 x1 10) fun v7 =>
      zlt (y2 - (f_J6_bitCount_0f7a4 (v7 &&& (-1025))) : Int32) fun y8 =>
      if isNaN32 (FP.fdiv (FP.i2f y8) (FP.i2f y2)) = false then
      Option.bind (f_X6_bitsOf (FP.fdiv (FP.i2f y8) (FP.i2f y2))) fun v11 =>
      some (v11, v6)
      else none
    )
  ) else (
    some ((-1000001), s)
  )
set_option maxHeartbeats 4000000 in
set_option maxRecDepth 100000 in
theorem c_X6_share {G : zG} {sl : Nat} (s : zs) (R : zr) (x1 : Int32) {v9 : (Int32 × zs)} (H : f_X6_share s x1 = some v9) : zMv G 6 M_X6_share [.ref 0, .int x1] sl (zT s R) (fun r h' => r = some (.int v9.1) ∧ h' = zT v9.2 R) := by
  unfold f_X6_share at H
  refine zMv_of (L := [some (.ref 0), some (.int x1), none, none]) (by decide) rfl (Nat.le_of_ble_eq_true rfl) rfl ?_
  refine aw_iload_n (q := 1) dX6_share_0 rfl rfl ?_
  refine aw_cs (M' := M_X6_isDay) (as := [.int x1]) (q := 4) dX6_share_1 rfl W_X6_isDay k_X6_119 s_X6_isDay rfl rfl (by decide) (Nat.le_of_ble_eq_true rfl) (c_X6_isDay (zT s R) x1) (Nat.le_refl _) (Nat.le_refl _) ?_
  rintro r9 h9 ⟨rfl, rfl⟩
  refine aw_ifneB (q := 7) (t := 10) dX6_share_4 rfl (by decide) (fun h1 => ?_) (fun h1 => ?_)
  · replace H := zt h1 H
    refine aw_aload_n (q := 11) dX6_share_10 rfl rfl ?_
    refine aw_getr (q := 14) dX6_share_11 rfl e_X6_31 (by decide) (o_X6 s R) rfl ?_
    refine aw_getr (q := 17) dX6_share_14 rfl e_X6_42 (zX4_lt zX4_74) (o_X4 zX4_74 s R) rfl ?_
    refine aw_getr (q := 20) dX6_share_17 rfl e_X6_163 (zB_lt0 (zX4_B zX4_74)) (o_X0 (zX4_B zX4_74) s R) rfl ?_
    obtain ⟨y2, q3, H⟩ := zltd H
    refine aw_nm q3 ?_
    refine aw_istore_n (q := 21) (L' := [some (.ref 0), some (.int x1), some (.int y2), none]) dX6_share_20 rfl (by decide) rfl rfl ?_
    refine aw_iload_n (q := 22) dX6_share_21 rfl rfl ?_
    refine aw_if_neP (q := 25) (t := 30) dX6_share_22 rfl (by decide) (fun h4 => ?_) (fun h4 => ?_)
    · replace H := zt h4 H
      refine aw_fconst1 (q := 26) (v := 1065353216) dX6_share_25 rfl (by decide) ?_
      obtain ⟨v5, hv5, H⟩ := zbd H
      refine aw_cs (M' := M_X6_bitsOf) (as := [.float 1065353216]) (q := 29) dX6_share_26 rfl W_X6_bitsOf k_X6_182 s_X6_bitsOf rfl rfl (by decide) (Nat.le_of_ble_eq_true rfl) (c_X6_bitsOf (zT s R) 1065353216 hv5) (Nat.le_refl _) (Nat.le_refl _) ?_
      rintro r9 h9 ⟨rfl, rfl⟩
      cases H
      exact aw_ret dX6_share_29 rfl rfl rfl rfl ⟨rfl, rfl⟩
    · replace H := zf h4 H
      refine aw_aload_n (q := 31) dX6_share_30 rfl rfl ?_
      refine aw_getr (q := 34) dX6_share_31 rfl e_X6_38 (by decide) (o_X6 s R) rfl ?_
      obtain ⟨v6, hv6, H⟩ := zbd H
      refine aw_cv (M' := M_X2_measureWeek) (as := []) (q := 37) dX6_share_34 rfl W_X2_measureWeek k_X6_154 i_X2_measureWeek v_X2_measureWeek (by decide) (o_X2 s R) rfl rfl rfl (by decide) (Nat.le_of_ble_eq_true rfl) (c_X2_measureWeek s R hv6) (Nat.le_refl _) (Nat.le_refl _) ?_
      rintro r9 h9 ⟨rfl, rfl⟩
      refine aw_iload_n (q := 38) dX6_share_37 rfl rfl ?_
      refine aw_aload_n (q := 39) dX6_share_38 rfl rfl ?_
      refine aw_getr (q := 42) dX6_share_39 rfl e_X6_38 (by decide) (o_X6 v6 R) rfl ?_
      refine aw_iload_n (q := 43) dX6_share_42 rfl rfl ?_
      refine aw_bipush (q := 45) (v := 10) dX6_share_43 rfl (by decide) ?_
      obtain ⟨v7, hv7, H⟩ := zbd H
      refine aw_cv (M' := M_X2_suspectsLike) (as := [.int x1, .int 10]) (q := 48) dX6_share_45 rfl W_X2_suspectsLike k_X6_169 i_X2_suspectsLike v_X2_suspectsLike (by decide) (o_X2 v6 R) rfl rfl rfl (by decide) (Nat.le_of_ble_eq_true rfl) (c_X2_suspectsLike v6 R x1 10 hv7) (Nat.le_refl _) (Nat.le_refl _) ?_
      rintro r9 h9 ⟨rfl, rfl⟩
      refine aw_sipush (q := 51) (v := (-1025)) dX6_share_48 rfl (by decide) ?_
      refine aw_iand (q := 52) dX6_share_51 rfl ?_
      refine aw_cs (M' := M_J6_bitCount_0f7a4) (as := [.int (v7 &&& (-1025))]) (q := 55) dX6_share_52 rfl W_J6_bitCount_0f7a4 k_X6_186 s_J6_bitCount_0f7a4 rfl rfl (by decide) (Nat.le_of_ble_eq_true rfl) (c_J6_bitCount_0f7a4 (zT v6 R) (v7 &&& (-1025))) (Nat.le_refl _) (Nat.le_refl _) ?_
      rintro r9 h9 ⟨rfl, rfl⟩
      refine aw_isub (q := 56) dX6_share_55 rfl ?_
      obtain ⟨y8, q9, H⟩ := zltd H
      refine aw_nm q9 ?_
      refine aw_istore_n (q := 57) (L' := [some (.ref 0), some (.int x1), some (.int y2), some (.int y8)]) dX6_share_56 rfl (by decide) rfl rfl ?_
      refine aw_iload_n (q := 58) dX6_share_57 rfl rfl ?_
      refine aw_i2f (q := 59) dX6_share_58 rfl ?_
      refine aw_iload_n (q := 60) dX6_share_59 rfl rfl ?_
      refine aw_i2f (q := 61) dX6_share_60 rfl ?_
      obtain ⟨h10, H⟩ := zio H
      refine aw_fdiv (q := 62) dX6_share_61 rfl (zn32 h10) ?_
      obtain ⟨v11, hv11, H⟩ := zbd H
      refine aw_cs (M' := M_X6_bitsOf) (as := [.float (FP.fdiv (FP.i2f y8) (FP.i2f y2))]) (q := 65) dX6_share_62 rfl W_X6_bitsOf k_X6_182 s_X6_bitsOf rfl rfl (by decide) (Nat.le_of_ble_eq_true rfl) (c_X6_bitsOf (zT v6 R) (FP.fdiv (FP.i2f y8) (FP.i2f y2)) hv11) (Nat.le_refl _) (Nat.le_refl _) ?_
      rintro r9 h9 ⟨rfl, rfl⟩
      cases H
      exact aw_ret dX6_share_65 rfl rfl rfl rfl ⟨rfl, rfl⟩
  · replace H := zf h1 H
    refine aw_ldc (q := 9) dX6_share_7 rfl q_X6_74 ?_
    cases H
    exact aw_ret dX6_share_9 rfl rfl rfl rfl ⟨rfl, rfl⟩
def f_X6_plant (s : zs) (x1 : Int32) : Option (Int32 × zs) :=
  if f_X6_isFaultOrNone s x1 = true then (
    Option.bind (f_X1_keep s 74) fun v2 =>
    zlt (zc v2 74 3 (f_X6_suspectFor x1)) fun s3 =>
    zlt (zc s3 74 4 (f_X0_allSuspects s3 (sB 74))) fun s5 =>
    some (f_J6_bitCount_0f7a4 (s5.1 74 4), s5)
  ) else (
    some ((-1000001), s)
  )
set_option maxHeartbeats 4000000 in
set_option maxRecDepth 100000 in
theorem c_X6_plant {G : zG} {sl : Nat} (s : zs) (R : zr) (x1 : Int32) {v9 : (Int32 × zs)} (H : f_X6_plant s x1 = some v9) : zMv G 5 M_X6_plant [.ref 0, .int x1] sl (zT s R) (fun r h' => r = some (.int v9.1) ∧ h' = zT v9.2 R) := by
  unfold f_X6_plant at H
  refine zMv_of (L := [some (.ref 0), some (.int x1)]) (by decide) rfl (Nat.le_of_ble_eq_true rfl) rfl ?_
  refine aw_aload_n (q := 1) dX6_plant_0 rfl rfl ?_
  refine aw_iload_n (q := 2) dX6_plant_1 rfl rfl ?_
  refine aw_cv (M' := M_X6_isFaultOrNone) (as := [.int x1]) (q := 5) dX6_plant_2 rfl W_X6_isFaultOrNone k_X6_122 i_X6_isFaultOrNone v_X6_isFaultOrNone (by decide) (o_X6 s R) rfl rfl rfl (by decide) (Nat.le_of_ble_eq_true rfl) (c_X6_isFaultOrNone s R x1) (Nat.le_refl _) (Nat.le_refl _) ?_
  rintro r9 h9 ⟨rfl, rfl⟩
  refine aw_ifneB (q := 8) (t := 11) dX6_plant_5 rfl (by decide) (fun h1 => ?_) (fun h1 => ?_)
  · replace H := zt h1 H
    refine aw_aload_n (q := 12) dX6_plant_11 rfl rfl ?_
    refine aw_getr (q := 15) dX6_plant_12 rfl e_X6_12 (by decide) (o_X6 s R) rfl ?_
    refine aw_aload_n (q := 16) dX6_plant_15 rfl rfl ?_
    refine aw_getr (q := 19) dX6_plant_16 rfl e_X6_31 (by decide) (o_X6 s R) rfl ?_
    obtain ⟨v2, hv2, H⟩ := zbd H
    refine aw_cv (M' := M_X1_keep) (as := [.ref 74]) (q := 22) dX6_plant_19 rfl W_X1_keep k_X6_50 i_X1_keep v_X1_keep (by decide) (o_X1 s R) rfl rfl rfl (by decide) (Nat.le_of_ble_eq_true rfl) (c_X1_keep s R zX4_74 hv2) (Nat.le_refl _) (Nat.le_refl _) ?_
    rintro r9 h9 ⟨rfl, rfl⟩
    refine aw_aload_n (q := 23) dX6_plant_22 rfl rfl ?_
    refine aw_getr (q := 26) dX6_plant_23 rfl e_X6_31 (by decide) (o_X6 v2 R) rfl ?_
    refine aw_iload_n (q := 27) dX6_plant_26 rfl rfl ?_
    refine aw_cs (M' := M_X6_suspectFor) (as := [.int x1]) (q := 30) dX6_plant_27 rfl W_X6_suspectFor k_X6_125 s_X6_suspectFor rfl rfl (by decide) (Nat.le_of_ble_eq_true rfl) (c_X6_suspectFor (zT v2 R) x1) (Nat.le_refl _) (Nat.le_refl _) ?_
    rintro r9 h9 ⟨rfl, rfl⟩
    obtain ⟨s3, q4, H⟩ := zltd H
    refine aw_put (q := 33) dX6_plant_30 rfl f_X6_191 (zX4_lt zX4_74) (o_X4 zX4_74 v2 R) rfl rfl (Nat.le_of_ble_eq_true rfl) ((p_X4_3 zX4_74).trans (congrArg (fun z => zT z R) q4.symm)) ?_
    refine aw_aload_n (q := 34) dX6_plant_33 rfl rfl ?_
    refine aw_getr (q := 37) dX6_plant_34 rfl e_X6_31 (by decide) (o_X6 s3 R) rfl ?_
    refine aw_aload_n (q := 38) dX6_plant_37 rfl rfl ?_
    refine aw_getr (q := 41) dX6_plant_38 rfl e_X6_31 (by decide) (o_X6 s3 R) rfl ?_
    refine aw_getr (q := 44) dX6_plant_41 rfl e_X6_42 (zX4_lt zX4_74) (o_X4 zX4_74 s3 R) rfl ?_
    refine aw_cv (M' := M_X0_allSuspects) (as := []) (q := 47) dX6_plant_44 rfl W_X0_allSuspects k_X6_194 i_X0_allSuspects v_X0_allSuspects (zB_lt0 (zX4_B zX4_74)) (o_X0 (zX4_B zX4_74) s3 R) rfl rfl rfl (by decide) (Nat.le_of_ble_eq_true rfl) (c_X0_allSuspects s3 R (zX4_B zX4_74)) (Nat.le_refl _) (Nat.le_refl _) ?_
    rintro r9 h9 ⟨rfl, rfl⟩
    obtain ⟨s5, q6, H⟩ := zltd H
    refine aw_put (q := 50) dX6_plant_47 rfl f_X6_197 (zX4_lt zX4_74) (o_X4 zX4_74 s3 R) rfl rfl (Nat.le_of_ble_eq_true rfl) ((p_X4_4 zX4_74).trans (congrArg (fun z => zT z R) q6.symm)) ?_
    refine aw_aload_n (q := 51) dX6_plant_50 rfl rfl ?_
    refine aw_getr (q := 54) dX6_plant_51 rfl e_X6_31 (by decide) (o_X6 s5 R) rfl ?_
    refine aw_getr (q := 57) dX6_plant_54 rfl e_X6_197 (zX4_lt zX4_74) (o_X4 zX4_74 s5 R) rfl ?_
    refine aw_cs (M' := M_J6_bitCount_0f7a4) (as := [.int (s5.1 74 4)]) (q := 60) dX6_plant_57 rfl W_J6_bitCount_0f7a4 k_X6_186 s_J6_bitCount_0f7a4 rfl rfl (by decide) (Nat.le_of_ble_eq_true rfl) (c_J6_bitCount_0f7a4 (zT s5 R) (s5.1 74 4)) (Nat.le_refl _) (Nat.le_refl _) ?_
    rintro r9 h9 ⟨rfl, rfl⟩
    cases H
    exact aw_ret dX6_plant_60 rfl rfl rfl rfl ⟨rfl, rfl⟩
  · replace H := zf h1 H
    refine aw_ldc (q := 10) dX6_plant_8 rfl q_X6_74 ?_
    cases H
    exact aw_ret dX6_plant_10 rfl rfl rfl rfl ⟨rfl, rfl⟩
def f_X6_test (s : zs) : Option (Int32 × zs) :=
  Option.bind (f_X1_keep s 74) fun v1 =>
  zlt (zc v1 74 7 ((v1.1 74 7) + 1)) fun s2 =>
  Option.bind (f_X4_touchedNow s2 74) fun v4 =>
  Option.bind (f_X2_leftBy s2 v4 (s2.1 74 3) (s2.1 74 4)) fun v5 =>
  zlt (zc v5.2 74 4 v5.1) fun s6 =>
  some (f_J6_bitCount_0f7a4 (s6.1 74 4), s6)
set_option maxHeartbeats 4000000 in
set_option maxRecDepth 100000 in
theorem c_X6_test {G : zG} {sl : Nat} (s : zs) (R : zr)  {v9 : (Int32 × zs)} (H : f_X6_test s = some v9) : zMv G 6 M_X6_test [.ref 0] sl (zT s R) (fun r h' => r = some (.int v9.1) ∧ h' = zT v9.2 R) := by
  unfold f_X6_test at H
  refine zMv_of (L := [some (.ref 0)]) (by decide) rfl (Nat.le_of_ble_eq_true rfl) rfl ?_
  refine aw_aload_n (q := 1) dX6_test_0 rfl rfl ?_
  refine aw_getr (q := 4) dX6_test_1 rfl e_X6_12 (by decide) (o_X6 s R) rfl ?_
  refine aw_aload_n (q := 5) dX6_test_4 rfl rfl ?_
  refine aw_getr (q := 8) dX6_test_5 rfl e_X6_31 (by decide) (o_X6 s R) rfl ?_
  obtain ⟨v1, hv1, H⟩ := zbd H
  refine aw_cv (M' := M_X1_keep) (as := [.ref 74]) (q := 11) dX6_test_8 rfl W_X1_keep k_X6_50 i_X1_keep v_X1_keep (by decide) (o_X1 s R) rfl rfl rfl (by decide) (Nat.le_of_ble_eq_true rfl) (c_X1_keep s R zX4_74 hv1) (Nat.le_refl _) (Nat.le_refl _) ?_
  rintro r9 h9 ⟨rfl, rfl⟩
  refine aw_aload_n (q := 12) dX6_test_11 rfl rfl ?_
  refine aw_getr (q := 15) dX6_test_12 rfl e_X6_31 (by decide) (o_X6 v1 R) rfl ?_
  refine aw_dup (q := 16) dX6_test_15 rfl rfl ?_
  refine aw_getr (q := 19) dX6_test_16 rfl e_X6_200 (zX4_lt zX4_74) (o_X4 zX4_74 v1 R) rfl ?_
  refine aw_iconst (q := 20) (v := 1) dX6_test_19 rfl (by decide) ?_
  refine aw_iadd (q := 21) dX6_test_20 rfl ?_
  obtain ⟨s2, q3, H⟩ := zltd H
  refine aw_put (q := 24) dX6_test_21 rfl f_X6_200 (zX4_lt zX4_74) (o_X4 zX4_74 v1 R) rfl rfl (Nat.le_of_ble_eq_true rfl) ((p_X4_7 zX4_74).trans (congrArg (fun z => zT z R) q3.symm)) ?_
  refine aw_aload_n (q := 25) dX6_test_24 rfl rfl ?_
  refine aw_getr (q := 28) dX6_test_25 rfl e_X6_31 (by decide) (o_X6 s2 R) rfl ?_
  refine aw_aload_n (q := 29) dX6_test_28 rfl rfl ?_
  refine aw_getr (q := 32) dX6_test_29 rfl e_X6_38 (by decide) (o_X6 s2 R) rfl ?_
  refine aw_aload_n (q := 33) dX6_test_32 rfl rfl ?_
  refine aw_getr (q := 36) dX6_test_33 rfl e_X6_31 (by decide) (o_X6 s2 R) rfl ?_
  obtain ⟨v4, hv4, H⟩ := zbd H
  refine aw_cv (M' := M_X4_touchedNow) (as := []) (q := 39) dX6_test_36 rfl W_X4_touchedNow k_X6_95 i_X4_touchedNow v_X4_touchedNow (zX4_lt zX4_74) (o_X4 zX4_74 s2 R) rfl rfl rfl (by decide) (Nat.le_of_ble_eq_true rfl) (c_X4_touchedNow s2 R zX4_74 hv4) (Nat.le_refl _) (Nat.le_refl _) ?_
  rintro r9 h9 ⟨rfl, rfl⟩
  refine aw_aload_n (q := 40) dX6_test_39 rfl rfl ?_
  refine aw_getr (q := 43) dX6_test_40 rfl e_X6_31 (by decide) (o_X6 s2 R) rfl ?_
  refine aw_getr (q := 46) dX6_test_43 rfl e_X6_191 (zX4_lt zX4_74) (o_X4 zX4_74 s2 R) rfl ?_
  refine aw_aload_n (q := 47) dX6_test_46 rfl rfl ?_
  refine aw_getr (q := 50) dX6_test_47 rfl e_X6_31 (by decide) (o_X6 s2 R) rfl ?_
  refine aw_getr (q := 53) dX6_test_50 rfl e_X6_197 (zX4_lt zX4_74) (o_X4 zX4_74 s2 R) rfl ?_
  obtain ⟨v5, hv5, H⟩ := zbd H
  refine aw_cv (M' := M_X2_leftBy) (as := [.int v4, .int (s2.1 74 3), .int (s2.1 74 4)]) (q := 56) dX6_test_53 rfl W_X2_leftBy k_X6_203 i_X2_leftBy v_X2_leftBy (by decide) (o_X2 s2 R) rfl rfl rfl (by decide) (Nat.le_of_ble_eq_true rfl) (c_X2_leftBy s2 R v4 (s2.1 74 3) (s2.1 74 4) hv5) (Nat.le_refl _) (Nat.le_refl _) ?_
  rintro r9 h9 ⟨rfl, rfl⟩
  obtain ⟨s6, q7, H⟩ := zltd H
  refine aw_put (q := 59) dX6_test_56 rfl f_X6_197 (zX4_lt zX4_74) (o_X4 zX4_74 v5.2 R) rfl rfl (Nat.le_of_ble_eq_true rfl) ((p_X4_4 zX4_74).trans (congrArg (fun z => zT z R) q7.symm)) ?_
  refine aw_aload_n (q := 60) dX6_test_59 rfl rfl ?_
  refine aw_getr (q := 63) dX6_test_60 rfl e_X6_31 (by decide) (o_X6 s6 R) rfl ?_
  refine aw_getr (q := 66) dX6_test_63 rfl e_X6_197 (zX4_lt zX4_74) (o_X4 zX4_74 s6 R) rfl ?_
  refine aw_cs (M' := M_J6_bitCount_0f7a4) (as := [.int (s6.1 74 4)]) (q := 69) dX6_test_66 rfl W_J6_bitCount_0f7a4 k_X6_186 s_J6_bitCount_0f7a4 rfl rfl (by decide) (Nat.le_of_ble_eq_true rfl) (c_J6_bitCount_0f7a4 (zT s6 R) (s6.1 74 4)) (Nat.le_refl _) (Nat.le_refl _) ?_
  rintro r9 h9 ⟨rfl, rfl⟩
  cases H
  exact aw_ret dX6_test_69 rfl rfl rfl rfl ⟨rfl, rfl⟩
def f_X6_vouch (s : zs) (x1 : Int32) : Option (Int32 × zs) :=
  if f_X6_isPin x1 = true then (
    Option.bind (f_X4_touchedNow s 74) fun v2 =>
    if f_X6_hasBit v2 x1 = true then (
      some ((-1000002), s)
    ) else (
      if (s.1 74 5) = 0 then (
        some ((-1000003), s)
      ) else (
        Option.bind (f_X1_keep s 74) fun v5 =>
        zlt (zc v5 74 6 ((v5.1 74 6) ||| ((1 : Int32) <<< (x1 &&& 31)))) fun s6 =>
        zlt (zc s6 74 5 ((s6.1 74 5) - 1)) fun s8 =>
        some (s8.1 74 5, s8)
      )
    )
  ) else (
    some ((-1000001), s)
  )
set_option maxHeartbeats 4000000 in
set_option maxRecDepth 100000 in
theorem c_X6_vouch {G : zG} {sl : Nat} (s : zs) (R : zr) (x1 : Int32) {v9 : (Int32 × zs)} (H : f_X6_vouch s x1 = some v9) : zMv G 5 M_X6_vouch [.ref 0, .int x1] sl (zT s R) (fun r h' => r = some (.int v9.1) ∧ h' = zT v9.2 R) := by
  unfold f_X6_vouch at H
  refine zMv_of (L := [some (.ref 0), some (.int x1)]) (by decide) rfl (Nat.le_of_ble_eq_true rfl) rfl ?_
  refine aw_iload_n (q := 1) dX6_vouch_0 rfl rfl ?_
  refine aw_cs (M' := M_X6_isPin) (as := [.int x1]) (q := 4) dX6_vouch_1 rfl W_X6_isPin k_X6_70 s_X6_isPin rfl rfl (by decide) (Nat.le_of_ble_eq_true rfl) (c_X6_isPin (zT s R) x1) (Nat.le_refl _) (Nat.le_refl _) ?_
  rintro r9 h9 ⟨rfl, rfl⟩
  refine aw_ifneB (q := 7) (t := 10) dX6_vouch_4 rfl (by decide) (fun h1 => ?_) (fun h1 => ?_)
  · replace H := zt h1 H
    refine aw_aload_n (q := 11) dX6_vouch_10 rfl rfl ?_
    refine aw_getr (q := 14) dX6_vouch_11 rfl e_X6_31 (by decide) (o_X6 s R) rfl ?_
    obtain ⟨v2, hv2, H⟩ := zbd H
    refine aw_cv (M' := M_X4_touchedNow) (as := []) (q := 17) dX6_vouch_14 rfl W_X4_touchedNow k_X6_95 i_X4_touchedNow v_X4_touchedNow (zX4_lt zX4_74) (o_X4 zX4_74 s R) rfl rfl rfl (by decide) (Nat.le_of_ble_eq_true rfl) (c_X4_touchedNow s R zX4_74 hv2) (Nat.le_refl _) (Nat.le_refl _) ?_
    rintro r9 h9 ⟨rfl, rfl⟩
    refine aw_iload_n (q := 18) dX6_vouch_17 rfl rfl ?_
    refine aw_cs (M' := M_X6_hasBit) (as := [.int v2, .int x1]) (q := 21) dX6_vouch_18 rfl W_X6_hasBit k_X6_99 s_X6_hasBit rfl rfl (by decide) (Nat.le_of_ble_eq_true rfl) (c_X6_hasBit (zT s R) v2 x1) (Nat.le_refl _) (Nat.le_refl _) ?_
    rintro r9 h9 ⟨rfl, rfl⟩
    refine aw_ifeqB (q := 24) (t := 27) dX6_vouch_21 rfl (by decide) (fun h3 => ?_) (fun h3 => ?_)
    · replace H := zt h3 H
      refine aw_ldc (q := 26) dX6_vouch_24 rfl q_X6_206 ?_
      cases H
      exact aw_ret dX6_vouch_26 rfl rfl rfl rfl ⟨rfl, rfl⟩
    · replace H := zf h3 H
      refine aw_aload_n (q := 28) dX6_vouch_27 rfl rfl ?_
      refine aw_getr (q := 31) dX6_vouch_28 rfl e_X6_31 (by decide) (o_X6 s R) rfl ?_
      refine aw_getr (q := 34) dX6_vouch_31 rfl e_X6_207 (zX4_lt zX4_74) (o_X4 zX4_74 s R) rfl ?_
      refine aw_if_neP (q := 37) (t := 40) dX6_vouch_34 rfl (by decide) (fun h4 => ?_) (fun h4 => ?_)
      · replace H := zt h4 H
        refine aw_ldc (q := 39) dX6_vouch_37 rfl q_X6_210 ?_
        cases H
        exact aw_ret dX6_vouch_39 rfl rfl rfl rfl ⟨rfl, rfl⟩
      · replace H := zf h4 H
        refine aw_aload_n (q := 41) dX6_vouch_40 rfl rfl ?_
        refine aw_getr (q := 44) dX6_vouch_41 rfl e_X6_12 (by decide) (o_X6 s R) rfl ?_
        refine aw_aload_n (q := 45) dX6_vouch_44 rfl rfl ?_
        refine aw_getr (q := 48) dX6_vouch_45 rfl e_X6_31 (by decide) (o_X6 s R) rfl ?_
        obtain ⟨v5, hv5, H⟩ := zbd H
        refine aw_cv (M' := M_X1_keep) (as := [.ref 74]) (q := 51) dX6_vouch_48 rfl W_X1_keep k_X6_50 i_X1_keep v_X1_keep (by decide) (o_X1 s R) rfl rfl rfl (by decide) (Nat.le_of_ble_eq_true rfl) (c_X1_keep s R zX4_74 hv5) (Nat.le_refl _) (Nat.le_refl _) ?_
        rintro r9 h9 ⟨rfl, rfl⟩
        refine aw_aload_n (q := 52) dX6_vouch_51 rfl rfl ?_
        refine aw_getr (q := 55) dX6_vouch_52 rfl e_X6_31 (by decide) (o_X6 v5 R) rfl ?_
        refine aw_dup (q := 56) dX6_vouch_55 rfl rfl ?_
        refine aw_getr (q := 59) dX6_vouch_56 rfl e_X6_211 (zX4_lt zX4_74) (o_X4 zX4_74 v5 R) rfl ?_
        refine aw_iconst (q := 60) (v := 1) dX6_vouch_59 rfl (by decide) ?_
        refine aw_iload_n (q := 61) dX6_vouch_60 rfl rfl ?_
        refine aw_ishl (q := 62) dX6_vouch_61 rfl ?_
        refine aw_ior (q := 63) dX6_vouch_62 rfl ?_
        obtain ⟨s6, q7, H⟩ := zltd H
        refine aw_put (q := 66) dX6_vouch_63 rfl f_X6_211 (zX4_lt zX4_74) (o_X4 zX4_74 v5 R) rfl rfl (Nat.le_of_ble_eq_true rfl) ((p_X4_6 zX4_74).trans (congrArg (fun z => zT z R) q7.symm)) ?_
        refine aw_aload_n (q := 67) dX6_vouch_66 rfl rfl ?_
        refine aw_getr (q := 70) dX6_vouch_67 rfl e_X6_31 (by decide) (o_X6 s6 R) rfl ?_
        refine aw_dup (q := 71) dX6_vouch_70 rfl rfl ?_
        refine aw_getr (q := 74) dX6_vouch_71 rfl e_X6_207 (zX4_lt zX4_74) (o_X4 zX4_74 s6 R) rfl ?_
        refine aw_iconst (q := 75) (v := 1) dX6_vouch_74 rfl (by decide) ?_
        refine aw_isub (q := 76) dX6_vouch_75 rfl ?_
        obtain ⟨s8, q9, H⟩ := zltd H
        refine aw_put (q := 79) dX6_vouch_76 rfl f_X6_207 (zX4_lt zX4_74) (o_X4 zX4_74 s6 R) rfl rfl (Nat.le_of_ble_eq_true rfl) ((p_X4_5 zX4_74).trans (congrArg (fun z => zT z R) q9.symm)) ?_
        refine aw_aload_n (q := 80) dX6_vouch_79 rfl rfl ?_
        refine aw_getr (q := 83) dX6_vouch_80 rfl e_X6_31 (by decide) (o_X6 s8 R) rfl ?_
        refine aw_getr (q := 86) dX6_vouch_83 rfl e_X6_207 (zX4_lt zX4_74) (o_X4 zX4_74 s8 R) rfl ?_
        cases H
        exact aw_ret dX6_vouch_86 rfl rfl rfl rfl ⟨rfl, rfl⟩
  · replace H := zf h1 H
    refine aw_ldc (q := 9) dX6_vouch_7 rfl q_X6_74 ?_
    cases H
    exact aw_ret dX6_vouch_9 rfl rfl rfl rfl ⟨rfl, rfl⟩
def f_X6_vouchers (s : zs) (x1 : Int32) : Option (Int32 × zs) :=
  if x1 < 0 then (
    some ((-1000001), s)
  ) else (
    if x1 ≤ 20 then (
      Option.bind (f_X1_keep s 74) fun v3 =>
      zlt (v3.1 74 5 : Int32) fun y4 =>
      zlt (zc v3 74 5 x1) fun s6 =>
      some (y4, s6)
    ) else (
      some ((-1000001), s)
    )
  )
set_option maxHeartbeats 4000000 in
set_option maxRecDepth 100000 in
theorem c_X6_vouchers {G : zG} {sl : Nat} (s : zs) (R : zr) (x1 : Int32) {v9 : (Int32 × zs)} (H : f_X6_vouchers s x1 = some v9) : zMv G 5 M_X6_vouchers [.ref 0, .int x1] sl (zT s R) (fun r h' => r = some (.int v9.1) ∧ h' = zT v9.2 R) := by
  unfold f_X6_vouchers at H
  refine zMv_of (L := [some (.ref 0), some (.int x1), none]) (by decide) rfl (Nat.le_of_ble_eq_true rfl) rfl ?_
  refine aw_iload_n (q := 1) dX6_vouchers_0 rfl rfl ?_
  refine aw_if_lt (q := 4) (t := 10) dX6_vouchers_1 rfl (by decide) (fun h1 => ?_) (fun h1 => ?_)
  · replace H := zt h1 H
    refine aw_ldc (q := 12) dX6_vouchers_10 rfl q_X6_74 ?_
    cases H
    exact aw_ret dX6_vouchers_12 rfl rfl rfl rfl ⟨rfl, rfl⟩
  · replace H := zf h1 H
    refine aw_iload_n (q := 5) dX6_vouchers_4 rfl rfl ?_
    refine aw_bipush (q := 7) (v := 20) dX6_vouchers_5 rfl (by decide) ?_
    refine aw_icmp_le (q := 10) (t := 13) dX6_vouchers_7 rfl (by decide) (fun h2 => ?_) (fun h2 => ?_)
    · replace H := zt h2 H
      refine aw_aload_n (q := 14) dX6_vouchers_13 rfl rfl ?_
      refine aw_getr (q := 17) dX6_vouchers_14 rfl e_X6_12 (by decide) (o_X6 s R) rfl ?_
      refine aw_aload_n (q := 18) dX6_vouchers_17 rfl rfl ?_
      refine aw_getr (q := 21) dX6_vouchers_18 rfl e_X6_31 (by decide) (o_X6 s R) rfl ?_
      obtain ⟨v3, hv3, H⟩ := zbd H
      refine aw_cv (M' := M_X1_keep) (as := [.ref 74]) (q := 24) dX6_vouchers_21 rfl W_X1_keep k_X6_50 i_X1_keep v_X1_keep (by decide) (o_X1 s R) rfl rfl rfl (by decide) (Nat.le_of_ble_eq_true rfl) (c_X1_keep s R zX4_74 hv3) (Nat.le_refl _) (Nat.le_refl _) ?_
      rintro r9 h9 ⟨rfl, rfl⟩
      refine aw_aload_n (q := 25) dX6_vouchers_24 rfl rfl ?_
      refine aw_getr (q := 28) dX6_vouchers_25 rfl e_X6_31 (by decide) (o_X6 v3 R) rfl ?_
      refine aw_getr (q := 31) dX6_vouchers_28 rfl e_X6_207 (zX4_lt zX4_74) (o_X4 zX4_74 v3 R) rfl ?_
      obtain ⟨y4, q5, H⟩ := zltd H
      refine aw_nm q5 ?_
      refine aw_istore_n (q := 32) (L' := [some (.ref 0), some (.int x1), some (.int y4)]) dX6_vouchers_31 rfl (by decide) rfl rfl ?_
      refine aw_aload_n (q := 33) dX6_vouchers_32 rfl rfl ?_
      refine aw_getr (q := 36) dX6_vouchers_33 rfl e_X6_31 (by decide) (o_X6 v3 R) rfl ?_
      refine aw_iload_n (q := 37) dX6_vouchers_36 rfl rfl ?_
      obtain ⟨s6, q7, H⟩ := zltd H
      refine aw_put (q := 40) dX6_vouchers_37 rfl f_X6_207 (zX4_lt zX4_74) (o_X4 zX4_74 v3 R) rfl rfl (Nat.le_of_ble_eq_true rfl) ((p_X4_5 zX4_74).trans (congrArg (fun z => zT z R) q7.symm)) ?_
      refine aw_iload_n (q := 41) dX6_vouchers_40 rfl rfl ?_
      cases H
      exact aw_ret dX6_vouchers_41 rfl rfl rfl rfl ⟨rfl, rfl⟩
    · replace H := zf h2 H
      refine aw_ldc (q := 12) dX6_vouchers_10 rfl q_X6_74 ?_
      cases H
      exact aw_ret dX6_vouchers_12 rfl rfl rfl rfl ⟨rfl, rfl⟩
def f_X6_pass (s : zs) (x1 : Int32) : Option (Int32 × zs) :=
  if x1 < 1 then (
    some ((-1000001), s)
  ) else (
    if x1 ≤ 60 then (
      if ((s.1 74 2) + x1) ≤ 10000 then (
        Option.bind (f_X1_keep s 74) fun v4 =>
        zlt (zc v4 74 2 ((v4.1 74 2) + x1)) fun s5 =>
        zlt (zc s5 74 6 0) fun s7 =>
        some (f_X4_weekday s7 74, s7)
      ) else (
        some ((-1000003), s)
      )
    ) else (
      some ((-1000001), s)
    )
  )
set_option maxHeartbeats 4000000 in
set_option maxRecDepth 100000 in
theorem c_X6_pass {G : zG} {sl : Nat} (s : zs) (R : zr) (x1 : Int32) {v9 : (Int32 × zs)} (H : f_X6_pass s x1 = some v9) : zMv G 5 M_X6_pass [.ref 0, .int x1] sl (zT s R) (fun r h' => r = some (.int v9.1) ∧ h' = zT v9.2 R) := by
  unfold f_X6_pass at H
  refine zMv_of (L := [some (.ref 0), some (.int x1)]) (by decide) rfl (Nat.le_of_ble_eq_true rfl) rfl ?_
  refine aw_iload_n (q := 1) dX6_pass_0 rfl rfl ?_
  refine aw_iconst (q := 2) (v := 1) dX6_pass_1 rfl (by decide) ?_
  refine aw_icmp_lt (q := 5) (t := 11) dX6_pass_2 rfl (by decide) (fun h1 => ?_) (fun h1 => ?_)
  · replace H := zt h1 H
    refine aw_ldc (q := 13) dX6_pass_11 rfl q_X6_74 ?_
    cases H
    exact aw_ret dX6_pass_13 rfl rfl rfl rfl ⟨rfl, rfl⟩
  · replace H := zf h1 H
    refine aw_iload_n (q := 6) dX6_pass_5 rfl rfl ?_
    refine aw_bipush (q := 8) (v := 60) dX6_pass_6 rfl (by decide) ?_
    refine aw_icmp_le (q := 11) (t := 14) dX6_pass_8 rfl (by decide) (fun h2 => ?_) (fun h2 => ?_)
    · replace H := zt h2 H
      refine aw_aload_n (q := 15) dX6_pass_14 rfl rfl ?_
      refine aw_getr (q := 18) dX6_pass_15 rfl e_X6_31 (by decide) (o_X6 s R) rfl ?_
      refine aw_getr (q := 21) dX6_pass_18 rfl e_X6_214 (zX4_lt zX4_74) (o_X4 zX4_74 s R) rfl ?_
      refine aw_iload_n (q := 22) dX6_pass_21 rfl rfl ?_
      refine aw_iadd (q := 23) dX6_pass_22 rfl ?_
      refine aw_sipush (q := 26) (v := 10000) dX6_pass_23 rfl (by decide) ?_
      refine aw_icmp_le (q := 29) (t := 32) dX6_pass_26 rfl (by decide) (fun h3 => ?_) (fun h3 => ?_)
      · replace H := zt h3 H
        refine aw_aload_n (q := 33) dX6_pass_32 rfl rfl ?_
        refine aw_getr (q := 36) dX6_pass_33 rfl e_X6_12 (by decide) (o_X6 s R) rfl ?_
        refine aw_aload_n (q := 37) dX6_pass_36 rfl rfl ?_
        refine aw_getr (q := 40) dX6_pass_37 rfl e_X6_31 (by decide) (o_X6 s R) rfl ?_
        obtain ⟨v4, hv4, H⟩ := zbd H
        refine aw_cv (M' := M_X1_keep) (as := [.ref 74]) (q := 43) dX6_pass_40 rfl W_X1_keep k_X6_50 i_X1_keep v_X1_keep (by decide) (o_X1 s R) rfl rfl rfl (by decide) (Nat.le_of_ble_eq_true rfl) (c_X1_keep s R zX4_74 hv4) (Nat.le_refl _) (Nat.le_refl _) ?_
        rintro r9 h9 ⟨rfl, rfl⟩
        refine aw_aload_n (q := 44) dX6_pass_43 rfl rfl ?_
        refine aw_getr (q := 47) dX6_pass_44 rfl e_X6_31 (by decide) (o_X6 v4 R) rfl ?_
        refine aw_dup (q := 48) dX6_pass_47 rfl rfl ?_
        refine aw_getr (q := 51) dX6_pass_48 rfl e_X6_214 (zX4_lt zX4_74) (o_X4 zX4_74 v4 R) rfl ?_
        refine aw_iload_n (q := 52) dX6_pass_51 rfl rfl ?_
        refine aw_iadd (q := 53) dX6_pass_52 rfl ?_
        obtain ⟨s5, q6, H⟩ := zltd H
        refine aw_put (q := 56) dX6_pass_53 rfl f_X6_214 (zX4_lt zX4_74) (o_X4 zX4_74 v4 R) rfl rfl (Nat.le_of_ble_eq_true rfl) ((p_X4_2 zX4_74).trans (congrArg (fun z => zT z R) q6.symm)) ?_
        refine aw_aload_n (q := 57) dX6_pass_56 rfl rfl ?_
        refine aw_getr (q := 60) dX6_pass_57 rfl e_X6_31 (by decide) (o_X6 s5 R) rfl ?_
        refine aw_iconst (q := 61) (v := 0) dX6_pass_60 rfl (by decide) ?_
        obtain ⟨s7, q8, H⟩ := zltd H
        refine aw_put (q := 64) dX6_pass_61 rfl f_X6_211 (zX4_lt zX4_74) (o_X4 zX4_74 s5 R) rfl rfl (Nat.le_of_ble_eq_true rfl) ((p_X4_6 zX4_74).trans (congrArg (fun z => zT z R) q8.symm)) ?_
        refine aw_aload_n (q := 65) dX6_pass_64 rfl rfl ?_
        refine aw_getr (q := 68) dX6_pass_65 rfl e_X6_31 (by decide) (o_X6 s7 R) rfl ?_
        refine aw_cv (M' := M_X4_weekday) (as := []) (q := 71) dX6_pass_68 rfl W_X4_weekday k_X6_217 i_X4_weekday v_X4_weekday (zX4_lt zX4_74) (o_X4 zX4_74 s7 R) rfl rfl rfl (by decide) (Nat.le_of_ble_eq_true rfl) (c_X4_weekday s7 R zX4_74) (Nat.le_refl _) (Nat.le_refl _) ?_
        rintro r9 h9 ⟨rfl, rfl⟩
        cases H
        exact aw_ret dX6_pass_71 rfl rfl rfl rfl ⟨rfl, rfl⟩
      · replace H := zf h3 H
        refine aw_ldc (q := 31) dX6_pass_29 rfl q_X6_210 ?_
        cases H
        exact aw_ret dX6_pass_31 rfl rfl rfl rfl ⟨rfl, rfl⟩
    · replace H := zf h2 H
      refine aw_ldc (q := 13) dX6_pass_11 rfl q_X6_74 ?_
      cases H
      exact aw_ret dX6_pass_13 rfl rfl rfl rfl ⟨rfl, rfl⟩
def f_X6_suspects (s : zs) : Int32 :=
  s.1 74 4
set_option maxHeartbeats 4000000 in
set_option maxRecDepth 100000 in
theorem c_X6_suspects {G : zG} {sl : Nat} (s : zs) (R : zr)   : zMv G 0 M_X6_suspects [.ref 0] sl (zT s R) (fun r h' => r = some (.int (f_X6_suspects s)) ∧ h' = (zT s R)) := by
  generalize H : f_X6_suspects s = r0
  unfold f_X6_suspects at H
  refine zMv_of (L := [some (.ref 0)]) (by decide) rfl (Nat.le_of_ble_eq_true rfl) rfl ?_
  refine aw_aload_n (q := 1) dX6_suspects_0 rfl rfl ?_
  refine aw_getr (q := 4) dX6_suspects_1 rfl e_X6_31 (by decide) (o_X6 s R) rfl ?_
  refine aw_getr (q := 7) dX6_suspects_4 rfl e_X6_197 (zX4_lt zX4_74) (o_X4 zX4_74 s R) rfl ?_
  subst H
  exact aw_ret dX6_suspects_7 rfl rfl rfl rfl ⟨rfl, rfl⟩
def f_X6_bestDay_25 : Nat → zs → Int32 → Int32 → Int32 → Int32 → Option (Int32 × Int32)
  | 0, _, _, _, _, _ => none
  | k + 1, s, x1, x2, x3, x4 =>
    if (7 : Int32) ≤ x4 then (
      some (x2, x3)
    ) else (
      zlt (((f_X4_weekday s 74) + x4) - ((f_X4_weekday s 74) + x4) / 7 * 7 : Int32) fun y2 =>
      Option.bind (f_X2_worstOn s y2 (s.1 74 4)) fun v4 =>
      if x3 ≤ v4 then (
        f_X6_bestDay_25 k s x1 x2 x3 (x4 + 1)
      ) else (
        f_X6_bestDay_25 k s x1 y2 v4 (x4 + 1)
      )
    )
set_option maxHeartbeats 4000000 in
set_option maxRecDepth 100000 in
theorem L_X6_bestDay_25 {G : zG} {sl : Nat} {P : Option Value → zH → Prop} (R : zr) (x1 : Int32) : ∀ (k : Nat) (s : zs) (x2 : Int32) (x3 : Int32) (x4 : Int32) (e : Int32 × Int32), f_X6_bestDay_25 k s x1 x2 x3 x4 = some e → (AV G M_X6_bestDay 6 sl P 83 [none, some (.int x1), some (.int e.1), some (.int e.2), none, none, none] [] (zT s R)) → AV G M_X6_bestDay 6 sl P 25 [some (.ref 0), some (.int x1), some (.int x2), some (.int x3), some (.int x4), none, none] [] (zT s R) := by
  intro k
  induction k with
  | zero =>
    intro s x2 x3 x4 e H
    unfold f_X6_bestDay_25 at H
    cases H
  | succ k ih =>
    intro s x2 x3 x4 e H KE
    unfold f_X6_bestDay_25 at H
    refine aw_iload (q := 27) dX6_bestDay_25 rfl rfl ?_
    refine aw_bipush (q := 29) (v := 7) dX6_bestDay_27 rfl (by decide) ?_
    refine aw_icmp_ge (q := 32) (t := 83) dX6_bestDay_29 rfl (by decide) (fun h1 => ?_) (fun h1 => ?_)
    · replace H := zt h1 H
      cases H
      exact aw_fewer (L' := [none, some (.int x1), some (.int x2), some (.int x3), none, none, none]) ⟨rfl, ⟨rfl, ⟨rfl, trivial⟩⟩⟩ KE
    · replace H := zf h1 H
      refine aw_aload_n (q := 33) dX6_bestDay_32 rfl rfl ?_
      refine aw_getr (q := 36) dX6_bestDay_33 rfl e_X6_31 (by decide) (o_X6 s R) rfl ?_
      refine aw_cv (M' := M_X4_weekday) (as := []) (q := 39) dX6_bestDay_36 rfl W_X4_weekday k_X6_217 i_X4_weekday v_X4_weekday (zX4_lt zX4_74) (o_X4 zX4_74 s R) rfl rfl rfl (by decide) (Nat.le_of_ble_eq_true rfl) (c_X4_weekday s R zX4_74) (Nat.le_refl _) (Nat.le_refl _) ?_
      rintro r9 h9 ⟨rfl, rfl⟩
      refine aw_iload (q := 41) dX6_bestDay_39 rfl rfl ?_
      refine aw_iadd (q := 42) dX6_bestDay_41 rfl ?_
      refine aw_bipush (q := 44) (v := 7) dX6_bestDay_42 rfl (by decide) ?_
      refine aw_irem (q := 45) dX6_bestDay_44 rfl (by decide) ?_
      obtain ⟨y2, q3, H⟩ := zltd H
      refine aw_nm q3 ?_
      refine aw_istore (q := 47) (L' := [some (.ref 0), some (.int x1), some (.int x2), some (.int x3), some (.int x4), some (.int y2), none]) dX6_bestDay_45 rfl (by decide) rfl rfl ?_
      refine aw_aload_n (q := 48) dX6_bestDay_47 rfl rfl ?_
      refine aw_getr (q := 51) dX6_bestDay_48 rfl e_X6_38 (by decide) (o_X6 s R) rfl ?_
      refine aw_iload (q := 53) dX6_bestDay_51 rfl rfl ?_
      refine aw_aload_n (q := 54) dX6_bestDay_53 rfl rfl ?_
      refine aw_getr (q := 57) dX6_bestDay_54 rfl e_X6_31 (by decide) (o_X6 s R) rfl ?_
      refine aw_getr (q := 60) dX6_bestDay_57 rfl e_X6_197 (zX4_lt zX4_74) (o_X4 zX4_74 s R) rfl ?_
      obtain ⟨v4, hv4, H⟩ := zbd H
      refine aw_cv (M' := M_X2_worstOn) (as := [.int y2, .int (s.1 74 4)]) (q := 63) dX6_bestDay_60 rfl W_X2_worstOn k_X6_220 i_X2_worstOn v_X2_worstOn (by decide) (o_X2 s R) rfl rfl rfl (by decide) (Nat.le_of_ble_eq_true rfl) (c_X2_worstOn s R y2 (s.1 74 4) hv4) (Nat.le_refl _) (Nat.le_refl _) ?_
      rintro r9 h9 ⟨rfl, rfl⟩
      refine aw_istore (q := 65) (L' := [some (.ref 0), some (.int x1), some (.int x2), some (.int x3), some (.int x4), some (.int y2), some (.int v4)]) dX6_bestDay_63 rfl (by decide) rfl rfl ?_
      refine aw_iload (q := 67) dX6_bestDay_65 rfl rfl ?_
      refine aw_iload_n (q := 68) dX6_bestDay_67 rfl rfl ?_
      refine aw_icmp_ge (q := 71) (t := 77) dX6_bestDay_68 rfl (by decide) (fun h5 => ?_) (fun h5 => ?_)
      · replace H := zt h5 H
        refine aw_iinc (q := 80) (v := x4 + 1) (L' := [some (.ref 0), some (.int x1), some (.int x2), some (.int x3), some (.int (x4 + 1)), some (.int y2), some (.int v4)]) dX6_bestDay_77 rfl rfl (by first | rfl | decide) (by decide) rfl rfl ?_
        refine aw_goto (q := 25) dX6_bestDay_80 (by decide) ?_
        exact aw_fewer (L' := [some (.ref 0), some (.int x1), some (.int x2), some (.int x3), some (.int (x4 + 1)), none, none]) ⟨rfl, ⟨rfl, ⟨rfl, ⟨rfl, ⟨rfl, trivial⟩⟩⟩⟩⟩ (ih s x2 x3 (x4 + 1) _ H KE)
      · replace H := zf h5 H
        refine aw_iload (q := 73) dX6_bestDay_71 rfl rfl ?_
        refine aw_istore_n (q := 74) (L' := [some (.ref 0), some (.int x1), some (.int x2), some (.int v4), some (.int x4), some (.int y2), some (.int v4)]) dX6_bestDay_73 rfl (by decide) rfl rfl ?_
        refine aw_iload (q := 76) dX6_bestDay_74 rfl rfl ?_
        refine aw_istore_n (q := 77) (L' := [some (.ref 0), some (.int x1), some (.int y2), some (.int v4), some (.int x4), some (.int y2), some (.int v4)]) dX6_bestDay_76 rfl (by decide) rfl rfl ?_
        refine aw_iinc (q := 80) (v := x4 + 1) (L' := [some (.ref 0), some (.int x1), some (.int y2), some (.int v4), some (.int (x4 + 1)), some (.int y2), some (.int v4)]) dX6_bestDay_77 rfl rfl (by first | rfl | decide) (by decide) rfl rfl ?_
        refine aw_goto (q := 25) dX6_bestDay_80 (by decide) ?_
        exact aw_fewer (L' := [some (.ref 0), some (.int x1), some (.int y2), some (.int v4), some (.int (x4 + 1)), none, none]) ⟨rfl, ⟨rfl, ⟨rfl, ⟨rfl, ⟨rfl, trivial⟩⟩⟩⟩⟩ (ih s y2 v4 (x4 + 1) _ H KE)
def f_X6_bestDay (s : zs) (x1 : Int32) : Option (Int32 × zs) :=
  if f_X6_isZeroOrOne x1 = true then (
    Option.bind (f_X2_measureWeek s) fun v2 =>
    Option.bind (f_X6_bestDay_25 zFu v2 x1 (-1) 12 0) fun e3 =>
    if x1 = 0 then (
      some (e3.1, v2)
    ) else (
      some (e3.2, v2)
    )
  ) else (
    some ((-1000001), s)
  )
set_option maxHeartbeats 4000000 in
set_option maxRecDepth 100000 in
theorem c_X6_bestDay {G : zG} {sl : Nat} (s : zs) (R : zr) (x1 : Int32) {v9 : (Int32 × zs)} (H : f_X6_bestDay s x1 = some v9) : zMv G 6 M_X6_bestDay [.ref 0, .int x1] sl (zT s R) (fun r h' => r = some (.int v9.1) ∧ h' = zT v9.2 R) := by
  unfold f_X6_bestDay at H
  refine zMv_of (L := [some (.ref 0), some (.int x1), none, none, none, none, none]) (by decide) rfl (Nat.le_of_ble_eq_true rfl) rfl ?_
  refine aw_iload_n (q := 1) dX6_bestDay_0 rfl rfl ?_
  refine aw_cs (M' := M_X6_isZeroOrOne) (as := [.int x1]) (q := 4) dX6_bestDay_1 rfl W_X6_isZeroOrOne k_X6_148 s_X6_isZeroOrOne rfl rfl (by decide) (Nat.le_of_ble_eq_true rfl) (c_X6_isZeroOrOne (zT s R) x1) (Nat.le_refl _) (Nat.le_refl _) ?_
  rintro r9 h9 ⟨rfl, rfl⟩
  refine aw_ifneB (q := 7) (t := 10) dX6_bestDay_4 rfl (by decide) (fun h1 => ?_) (fun h1 => ?_)
  · replace H := zt h1 H
    refine aw_aload_n (q := 11) dX6_bestDay_10 rfl rfl ?_
    refine aw_getr (q := 14) dX6_bestDay_11 rfl e_X6_38 (by decide) (o_X6 s R) rfl ?_
    obtain ⟨v2, hv2, H⟩ := zbd H
    refine aw_cv (M' := M_X2_measureWeek) (as := []) (q := 17) dX6_bestDay_14 rfl W_X2_measureWeek k_X6_154 i_X2_measureWeek v_X2_measureWeek (by decide) (o_X2 s R) rfl rfl rfl (by decide) (Nat.le_of_ble_eq_true rfl) (c_X2_measureWeek s R hv2) (Nat.le_refl _) (Nat.le_refl _) ?_
    rintro r9 h9 ⟨rfl, rfl⟩
    refine aw_iconst (q := 18) (v := (-1)) dX6_bestDay_17 rfl (by decide) ?_
    refine aw_istore_n (q := 19) (L' := [some (.ref 0), some (.int x1), some (.int (-1)), none, none, none, none]) dX6_bestDay_18 rfl (by decide) rfl rfl ?_
    refine aw_bipush (q := 21) (v := 12) dX6_bestDay_19 rfl (by decide) ?_
    refine aw_istore_n (q := 22) (L' := [some (.ref 0), some (.int x1), some (.int (-1)), some (.int 12), none, none, none]) dX6_bestDay_21 rfl (by decide) rfl rfl ?_
    refine aw_iconst (q := 23) (v := 0) dX6_bestDay_22 rfl (by decide) ?_
    refine aw_istore (q := 25) (L' := [some (.ref 0), some (.int x1), some (.int (-1)), some (.int 12), some (.int 0), none, none]) dX6_bestDay_23 rfl (by decide) rfl rfl ?_
    obtain ⟨e3, he3, H⟩ := zbd H
    refine aw_fewer (L' := [some (.ref 0), some (.int x1), some (.int (-1)), some (.int 12), some (.int 0), none, none]) ⟨rfl, ⟨rfl, ⟨rfl, ⟨rfl, ⟨rfl, trivial⟩⟩⟩⟩⟩ ?_
    refine L_X6_bestDay_25 R x1 zFu v2 (-1) 12 0 e3 he3 ?_
    refine aw_iload_n (q := 84) dX6_bestDay_83 rfl rfl ?_
    refine aw_if_neP (q := 87) (t := 91) dX6_bestDay_84 rfl (by decide) (fun h4 => ?_) (fun h4 => ?_)
    · replace H := zt h4 H
      refine aw_iload_n (q := 88) dX6_bestDay_87 rfl rfl ?_
      refine aw_goto (q := 92) dX6_bestDay_88 (by decide) ?_
      cases H
      exact aw_ret dX6_bestDay_92 rfl rfl rfl rfl ⟨rfl, rfl⟩
    · replace H := zf h4 H
      refine aw_iload_n (q := 92) dX6_bestDay_91 rfl rfl ?_
      cases H
      exact aw_ret dX6_bestDay_92 rfl rfl rfl rfl ⟨rfl, rfl⟩
  · replace H := zf h1 H
    refine aw_ldc (q := 9) dX6_bestDay_7 rfl q_X6_74 ?_
    cases H
    exact aw_ret dX6_bestDay_9 rfl rfl rfl rfl ⟨rfl, rfl⟩
def f_X6_file (s : zs) (x1 : Int32) (x2 : Int32) : Option (Int32 × zs) :=
  if f_X0_isFault s (sB 74) x1 = true then (
    if x2 < 0 then (
      some ((-1000001), s)
    ) else (
      if x2 < 5 then (
        if zin x1 10 = true then
        if (s.1 (sD 74) x1.toNatClampNeg) = (-1) then (
          if (s.1 (sB 74 + 6) x1.toNatClampNeg) = x2 then (
            Option.bind (f_X4_filedIn s 74 x2) fun v7 =>
            if v7 < 3 then (
              Option.bind (f_X1_keep s 74) fun v9 =>
              zlt (zc v9 (sD 74) x1.toNatClampNeg x2) fun s10 =>
              Option.bind (f_X4_filedIn s10 74 x2) fun v12 =>
              some (v12, s10)
            ) else (
              some ((-1000003), s)
            )
          ) else (
            some ((-1000002), s)
          )
        ) else (
          some ((-1000002), s)
        )
        else none
      ) else (
        some ((-1000001), s)
      )
    )
  ) else (
    some ((-1000001), s)
  )
set_option maxHeartbeats 4000000 in
set_option maxRecDepth 100000 in
theorem c_X6_file {G : zG} {sl : Nat} (s : zs) (R : zr) (x1 : Int32) (x2 : Int32) {v9 : (Int32 × zs)} (H : f_X6_file s x1 x2 = some v9) : zMv G 5 M_X6_file [.ref 0, .int x1, .int x2] sl (zT s R) (fun r h' => r = some (.int v9.1) ∧ h' = zT v9.2 R) := by
  unfold f_X6_file at H
  refine zMv_of (L := [some (.ref 0), some (.int x1), some (.int x2)]) (by decide) rfl (Nat.le_of_ble_eq_true rfl) rfl ?_
  refine aw_aload_n (q := 1) dX6_file_0 rfl rfl ?_
  refine aw_getr (q := 4) dX6_file_1 rfl e_X6_31 (by decide) (o_X6 s R) rfl ?_
  refine aw_getr (q := 7) dX6_file_4 rfl e_X6_42 (zX4_lt zX4_74) (o_X4 zX4_74 s R) rfl ?_
  refine aw_iload_n (q := 8) dX6_file_7 rfl rfl ?_
  refine aw_cv (M' := M_X0_isFault) (as := [.int x1]) (q := 11) dX6_file_8 rfl W_X0_isFault k_X6_103 i_X0_isFault v_X0_isFault (zB_lt0 (zX4_B zX4_74)) (o_X0 (zX4_B zX4_74) s R) rfl rfl rfl (by decide) (Nat.le_of_ble_eq_true rfl) (c_X0_isFault s R (zX4_B zX4_74) x1) (Nat.le_refl _) (Nat.le_refl _) ?_
  rintro r9 h9 ⟨rfl, rfl⟩
  refine aw_ifeqB (q := 14) (t := 23) dX6_file_11 rfl (by decide) (fun h1 => ?_) (fun h1 => ?_)
  · replace H := zt h1 H
    refine aw_iload_n (q := 15) dX6_file_14 rfl rfl ?_
    refine aw_if_lt (q := 18) (t := 23) dX6_file_15 rfl (by decide) (fun h2 => ?_) (fun h2 => ?_)
    · replace H := zt h2 H
      refine aw_ldc (q := 25) dX6_file_23 rfl q_X6_74 ?_
      cases H
      exact aw_ret dX6_file_25 rfl rfl rfl rfl ⟨rfl, rfl⟩
    · replace H := zf h2 H
      refine aw_iload_n (q := 19) dX6_file_18 rfl rfl ?_
      refine aw_iconst (q := 20) (v := 5) dX6_file_19 rfl (by decide) ?_
      refine aw_icmp_lt (q := 23) (t := 26) dX6_file_20 rfl (by decide) (fun h3 => ?_) (fun h3 => ?_)
      · replace H := zt h3 H
        refine aw_aload_n (q := 27) dX6_file_26 rfl rfl ?_
        refine aw_getr (q := 30) dX6_file_27 rfl e_X6_31 (by decide) (o_X6 s R) rfl ?_
        refine aw_getr (q := 33) dX6_file_30 rfl e_X6_116 (zX4_lt zX4_74) (o_X4 zX4_74 s R) rfl ?_
        refine aw_iload_n (q := 34) dX6_file_33 rfl rfl ?_
        obtain ⟨h4, H⟩ := zio H
        refine aw_iald' (q := 35) (v := s.1 (sD 74) x1.toNatClampNeg) dX6_file_34 rfl (zX4_ltD zX4_74) (o_X4a1 zX4_74 s R) (zin_in h4) rfl ?_
        refine aw_iconst (q := 36) (v := (-1)) dX6_file_35 rfl (by decide) ?_
        refine aw_icmp_neP (q := 39) (t := 55) dX6_file_36 rfl (by decide) (fun h5 => ?_) (fun h5 => ?_)
        · replace H := zt h5 H
          refine aw_aload_n (q := 40) dX6_file_39 rfl rfl ?_
          refine aw_getr (q := 43) dX6_file_40 rfl e_X6_31 (by decide) (o_X6 s R) rfl ?_
          refine aw_getr (q := 46) dX6_file_43 rfl e_X6_42 (zX4_lt zX4_74) (o_X4 zX4_74 s R) rfl ?_
          refine aw_getr (q := 49) dX6_file_46 rfl e_X6_106 (zB_lt0 (zX4_B zX4_74)) (o_X0 (zX4_B zX4_74) s R) rfl ?_
          refine aw_iload_n (q := 50) dX6_file_49 rfl rfl ?_
          refine aw_iald' (q := 51) (v := s.1 (sB 74 + 6) x1.toNatClampNeg) dX6_file_50 rfl (zB_lt (k := 6) (zX4_B zX4_74) (by decide)) (o_X0a5 (zX4_B zX4_74) s R) (zin_in h4) rfl ?_
          refine aw_iload_n (q := 52) dX6_file_51 rfl rfl ?_
          refine aw_icmp_eq (q := 55) (t := 58) dX6_file_52 rfl (by decide) (fun h6 => ?_) (fun h6 => ?_)
          · replace H := zt h6 H
            refine aw_aload_n (q := 59) dX6_file_58 rfl rfl ?_
            refine aw_getr (q := 62) dX6_file_59 rfl e_X6_31 (by decide) (o_X6 s R) rfl ?_
            refine aw_iload_n (q := 63) dX6_file_62 rfl rfl ?_
            obtain ⟨v7, hv7, H⟩ := zbd H
            refine aw_cv (M' := M_X4_filedIn) (as := [.int x2]) (q := 66) dX6_file_63 rfl W_X4_filedIn k_X6_223 i_X4_filedIn v_X4_filedIn (zX4_lt zX4_74) (o_X4 zX4_74 s R) rfl rfl rfl (by decide) (Nat.le_of_ble_eq_true rfl) (c_X4_filedIn s R zX4_74 x2 hv7) (Nat.le_refl _) (Nat.le_refl _) ?_
            rintro r9 h9 ⟨rfl, rfl⟩
            refine aw_iconst (q := 67) (v := 3) dX6_file_66 rfl (by decide) ?_
            refine aw_icmp_lt (q := 70) (t := 73) dX6_file_67 rfl (by decide) (fun h8 => ?_) (fun h8 => ?_)
            · replace H := zt h8 H
              refine aw_aload_n (q := 74) dX6_file_73 rfl rfl ?_
              refine aw_getr (q := 77) dX6_file_74 rfl e_X6_12 (by decide) (o_X6 s R) rfl ?_
              refine aw_aload_n (q := 78) dX6_file_77 rfl rfl ?_
              refine aw_getr (q := 81) dX6_file_78 rfl e_X6_31 (by decide) (o_X6 s R) rfl ?_
              obtain ⟨v9, hv9, H⟩ := zbd H
              refine aw_cv (M' := M_X1_keep) (as := [.ref 74]) (q := 84) dX6_file_81 rfl W_X1_keep k_X6_50 i_X1_keep v_X1_keep (by decide) (o_X1 s R) rfl rfl rfl (by decide) (Nat.le_of_ble_eq_true rfl) (c_X1_keep s R zX4_74 hv9) (Nat.le_refl _) (Nat.le_refl _) ?_
              rintro r9 h9 ⟨rfl, rfl⟩
              refine aw_aload_n (q := 85) dX6_file_84 rfl rfl ?_
              refine aw_getr (q := 88) dX6_file_85 rfl e_X6_31 (by decide) (o_X6 v9 R) rfl ?_
              refine aw_getr (q := 91) dX6_file_88 rfl e_X6_116 (zX4_lt zX4_74) (o_X4 zX4_74 v9 R) rfl ?_
              refine aw_iload_n (q := 92) dX6_file_91 rfl rfl ?_
              refine aw_iload_n (q := 93) dX6_file_92 rfl rfl ?_
              obtain ⟨s10, q11, H⟩ := zltd H
              refine aw_iast (q := 94) dX6_file_93 rfl (zX4_ltD zX4_74) (o_X4a1 zX4_74 v9 R) (zin_in h4) ((p_X4a1 zX4_74).trans (congrArg (fun z => zT z R) q11.symm)) ?_
              refine aw_aload_n (q := 95) dX6_file_94 rfl rfl ?_
              refine aw_getr (q := 98) dX6_file_95 rfl e_X6_31 (by decide) (o_X6 s10 R) rfl ?_
              refine aw_iload_n (q := 99) dX6_file_98 rfl rfl ?_
              obtain ⟨v12, hv12, H⟩ := zbd H
              refine aw_cv (M' := M_X4_filedIn) (as := [.int x2]) (q := 102) dX6_file_99 rfl W_X4_filedIn k_X6_223 i_X4_filedIn v_X4_filedIn (zX4_lt zX4_74) (o_X4 zX4_74 s10 R) rfl rfl rfl (by decide) (Nat.le_of_ble_eq_true rfl) (c_X4_filedIn s10 R zX4_74 x2 hv12) (Nat.le_refl _) (Nat.le_refl _) ?_
              rintro r9 h9 ⟨rfl, rfl⟩
              cases H
              exact aw_ret dX6_file_102 rfl rfl rfl rfl ⟨rfl, rfl⟩
            · replace H := zf h8 H
              refine aw_ldc (q := 72) dX6_file_70 rfl q_X6_210 ?_
              cases H
              exact aw_ret dX6_file_72 rfl rfl rfl rfl ⟨rfl, rfl⟩
          · replace H := zf h6 H
            refine aw_ldc (q := 57) dX6_file_55 rfl q_X6_206 ?_
            cases H
            exact aw_ret dX6_file_57 rfl rfl rfl rfl ⟨rfl, rfl⟩
        · replace H := zf h5 H
          refine aw_ldc (q := 57) dX6_file_55 rfl q_X6_206 ?_
          cases H
          exact aw_ret dX6_file_57 rfl rfl rfl rfl ⟨rfl, rfl⟩
      · replace H := zf h3 H
        refine aw_ldc (q := 25) dX6_file_23 rfl q_X6_74 ?_
        cases H
        exact aw_ret dX6_file_25 rfl rfl rfl rfl ⟨rfl, rfl⟩
  · replace H := zf h1 H
    refine aw_ldc (q := 25) dX6_file_23 rfl q_X6_74 ?_
    cases H
    exact aw_ret dX6_file_25 rfl rfl rfl rfl ⟨rfl, rfl⟩
def f_X6_reachedNow (s : zs) : Option (Int32 × zs) :=
  Option.bind (f_X2_suppose s 10) fun v1 =>
  Option.bind (f_X4_touchedNow v1.2 74) fun v2 =>
  Option.bind (f_X5_probe v1.2 v1.1 v2) fun v3 =>
  some (f_J6_bitCount_0f7a4 (v3.1 v1.1 6), v3)
set_option maxHeartbeats 4000000 in
set_option maxRecDepth 100000 in
theorem c_X6_reachedNow {G : zG} {sl : Nat} (s : zs) (R : zr)  {v9 : (Int32 × zs)} (H : f_X6_reachedNow s = some v9) : zMv G 5 M_X6_reachedNow [.ref 0] sl (zT s R) (fun r h' => r = some (.int v9.1) ∧ h' = zT v9.2 R) := by
  unfold f_X6_reachedNow at H
  refine zMv_of (L := [some (.ref 0), none]) (by decide) rfl (Nat.le_of_ble_eq_true rfl) rfl ?_
  refine aw_aload_n (q := 1) dX6_reachedNow_0 rfl rfl ?_
  refine aw_getr (q := 4) dX6_reachedNow_1 rfl e_X6_38 (by decide) (o_X6 s R) rfl ?_
  refine aw_bipush (q := 6) (v := 10) dX6_reachedNow_4 rfl (by decide) ?_
  obtain ⟨v1, hv1, H⟩ := zbd H
  refine aw_cv (M' := M_X2_suppose) (as := [.int 10]) (q := 9) dX6_reachedNow_6 rfl W_X2_suppose k_X6_128 i_X2_suppose v_X2_suppose (by decide) (o_X2 s R) rfl rfl rfl (by decide) (Nat.le_of_ble_eq_true rfl) (c_X2_suppose s R 10 hv1) (Nat.le_refl _) (Nat.le_refl _) ?_
  rintro r9 h9 ⟨rfl, rfl⟩
  refine aw_astore_n (q := 10) (L' := [some (.ref 0), some (.ref v1.1)]) dX6_reachedNow_9 rfl (by decide) rfl rfl ?_
  refine aw_aload_n (q := 11) dX6_reachedNow_10 rfl rfl ?_
  refine aw_aload_n (q := 12) dX6_reachedNow_11 rfl rfl ?_
  refine aw_getr (q := 15) dX6_reachedNow_12 rfl e_X6_31 (by decide) (o_X6 v1.2 R) rfl ?_
  obtain ⟨v2, hv2, H⟩ := zbd H
  refine aw_cv (M' := M_X4_touchedNow) (as := []) (q := 18) dX6_reachedNow_15 rfl W_X4_touchedNow k_X6_95 i_X4_touchedNow v_X4_touchedNow (zX4_lt zX4_74) (o_X4 zX4_74 v1.2 R) rfl rfl rfl (by decide) (Nat.le_of_ble_eq_true rfl) (c_X4_touchedNow v1.2 R zX4_74 hv2) (Nat.le_refl _) (Nat.le_refl _) ?_
  rintro r9 h9 ⟨rfl, rfl⟩
  obtain ⟨v3, hv3, H⟩ := zbd H
  refine aw_cv (M' := M_X5_probe) (as := [.int v2]) (q := 21) dX6_reachedNow_18 rfl W_X5_probe k_X6_135 i_X5_probe v_X5_probe (zU_lt (k := 0) (U_X2_suppose hv1) (by decide)) (o_X5 (U_X2_suppose hv1) v1.2 R) rfl rfl rfl (by decide) (Nat.le_of_ble_eq_true rfl) (c_X5_probe v1.2 R (U_X2_suppose hv1) v2 hv3) (Nat.le_refl _) (Nat.le_refl _) ?_
  rintro r9 h9 ⟨rfl, rfl⟩
  refine aw_aload_n (q := 22) dX6_reachedNow_21 rfl rfl ?_
  refine aw_getr (q := 25) dX6_reachedNow_22 rfl e_X6_141 (zU_lt (k := 0) (U_X2_suppose hv1) (by decide)) (o_X5 (U_X2_suppose hv1) v3 R) rfl ?_
  refine aw_cs (M' := M_J6_bitCount_0f7a4) (as := [.int (v3.1 v1.1 6)]) (q := 28) dX6_reachedNow_25 rfl W_J6_bitCount_0f7a4 k_X6_186 s_J6_bitCount_0f7a4 rfl rfl (by decide) (Nat.le_of_ble_eq_true rfl) (c_J6_bitCount_0f7a4 (zT v3 R) (v3.1 v1.1 6)) (Nat.le_refl _) (Nat.le_refl _) ?_
  rintro r9 h9 ⟨rfl, rfl⟩
  cases H
  exact aw_ret dX6_reachedNow_28 rfl rfl rfl rfl ⟨rfl, rfl⟩
