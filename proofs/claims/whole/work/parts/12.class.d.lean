def f_X2_fewestPinsTelling_26 : Nat → zs → Int32 → Int32 → Int32 → Option ((zs) ⊕ (Int32 × zs))
  | 0, _, _, _, _ => none
  | k + 1, s, x1, x2, x3 =>
    if (16 : Int32) ≤ x3 then (
      some (Sum.inl s)
    ) else (
      Option.bind (f_X2_tells s (x1 ||| ((1 : Int32) <<< (x3 &&& 31))) x2) fun v2 =>
      if v2.1 = true then (
        some (Sum.inr ((1 : Int32) <<< (x3 &&& 31), v2.2))
      ) else (
        f_X2_fewestPinsTelling_26 k v2.2 x1 x2 (x3 + 1)
      )
    )
set_option maxHeartbeats 4000000 in
set_option maxRecDepth 100000 in
theorem L_X2_fewestPinsTelling_26 {G : zG} {sl : Nat} {P : Option Value → zH → Prop} (R : zr) (x1 : Int32) (x2 : Int32) : ∀ (k : Nat) (s : zs) (x3 : Int32) (e : (zs) ⊕ (Int32 × zs)), f_X2_fewestPinsTelling_26 k s x1 x2 x3 = some e → (∀ x9, e = Sum.inl x9 → AV G M_X2_fewestPinsTelling 5 sl P 55 [some (.ref 76), some (.int x1), some (.int x2), none, none] [] (zT x9 R)) → (∀ v9, e = Sum.inr v9 → P (some (.int v9.1)) (zT v9.2 R)) → AV G M_X2_fewestPinsTelling 5 sl P 26 [some (.ref 76), some (.int x1), some (.int x2), some (.int x3), none] [] (zT s R) := by
  intro k
  induction k with
  | zero =>
    intro s x3 e H
    unfold f_X2_fewestPinsTelling_26 at H
    cases H
  | succ k ih =>
    intro s x3 e H KE KR
    unfold f_X2_fewestPinsTelling_26 at H
    refine aw_iload_n (q := 27) dX2_fewestPinsTelling_26 rfl rfl ?_
    refine aw_bipush (q := 29) (v := 16) dX2_fewestPinsTelling_27 rfl (by decide) ?_
    refine aw_icmp_ge (q := 32) (t := 55) dX2_fewestPinsTelling_29 rfl (by decide) (fun h1 => ?_) (fun h1 => ?_)
    · replace H := zt h1 H
      cases H
      exact aw_fewer (L' := [some (.ref 76), some (.int x1), some (.int x2), none, none]) ⟨rfl, ⟨rfl, ⟨rfl, trivial⟩⟩⟩ (KE _ rfl)
    · replace H := zf h1 H
      refine aw_aload_n (q := 33) dX2_fewestPinsTelling_32 rfl rfl ?_
      refine aw_iload_n (q := 34) dX2_fewestPinsTelling_33 rfl rfl ?_
      refine aw_iconst (q := 35) (v := 1) dX2_fewestPinsTelling_34 rfl (by decide) ?_
      refine aw_iload_n (q := 36) dX2_fewestPinsTelling_35 rfl rfl ?_
      refine aw_ishl (q := 37) dX2_fewestPinsTelling_36 rfl ?_
      refine aw_ior (q := 38) dX2_fewestPinsTelling_37 rfl ?_
      refine aw_iload_n (q := 39) dX2_fewestPinsTelling_38 rfl rfl ?_
      obtain ⟨v2, hv2, H⟩ := zbd H
      refine aw_cv (M' := M_X2_tells) (as := [.int (x1 ||| ((1 : Int32) <<< (x3 &&& 31))), .int x2]) (q := 42) dX2_fewestPinsTelling_39 rfl W_X2_tells k_X2_107 i_X2_tells v_X2_tells (by decide) (o_X2 s R) rfl rfl rfl (by decide) (Nat.le_of_ble_eq_true rfl) (c_X2_tells s R (x1 ||| ((1 : Int32) <<< (x3 &&& 31))) x2 hv2) (Nat.le_refl _) (Nat.le_refl _) ?_
      rintro r9 h9 ⟨rfl, rfl⟩
      refine aw_ifeqB (q := 45) (t := 49) dX2_fewestPinsTelling_42 rfl (by decide) (fun h3 => ?_) (fun h3 => ?_)
      · replace H := zt h3 H
        refine aw_iconst (q := 46) (v := 1) dX2_fewestPinsTelling_45 rfl (by decide) ?_
        refine aw_iload_n (q := 47) dX2_fewestPinsTelling_46 rfl rfl ?_
        refine aw_ishl (q := 48) dX2_fewestPinsTelling_47 rfl ?_
        cases H
        exact aw_ret dX2_fewestPinsTelling_48 rfl rfl rfl rfl (KR _ rfl)
      · replace H := zf h3 H
        refine aw_iinc (q := 52) (v := x3 + 1) (L' := [some (.ref 76), some (.int x1), some (.int x2), some (.int (x3 + 1)), none]) dX2_fewestPinsTelling_49 rfl rfl (by first | rfl | decide) (by decide) rfl rfl ?_
        refine aw_goto (q := 26) dX2_fewestPinsTelling_52 (by decide) ?_
        exact aw_fewer (L' := [some (.ref 76), some (.int x1), some (.int x2), some (.int (x3 + 1)), none]) ⟨rfl, ⟨rfl, ⟨rfl, ⟨rfl, trivial⟩⟩⟩⟩ (ih v2.2 (x3 + 1) _ H KE KR)
def f_X2_fewestPinsTelling_66 : Nat → zs → Int32 → Int32 → Int32 → Int32 → Option ((zs) ⊕ (Int32 × zs))
  | 0, _, _, _, _, _ => none
  | k + 1, s, x1, x2, x3, x4 =>
    if x3 ≤ x4 then (
      some (Sum.inl s)
    ) else (
      Option.bind (f_X2_tells s ((x1 ||| ((1 : Int32) <<< (x3 &&& 31))) ||| ((1 : Int32) <<< (x4 &&& 31))) x2) fun v2 =>
      if v2.1 = true then (
        some (Sum.inr (((1 : Int32) <<< (x3 &&& 31)) ||| ((1 : Int32) <<< (x4 &&& 31)), v2.2))
      ) else (
        f_X2_fewestPinsTelling_66 k v2.2 x1 x2 x3 (x4 + 1)
      )
    )
set_option maxHeartbeats 4000000 in
set_option maxRecDepth 100000 in
theorem L_X2_fewestPinsTelling_66 {G : zG} {sl : Nat} {P : Option Value → zH → Prop} (R : zr) (x1 : Int32) (x2 : Int32) (x3 : Int32) : ∀ (k : Nat) (s : zs) (x4 : Int32) (e : (zs) ⊕ (Int32 × zs)), f_X2_fewestPinsTelling_66 k s x1 x2 x3 x4 = some e → (∀ x9, e = Sum.inl x9 → AV G M_X2_fewestPinsTelling 5 sl P 105 [some (.ref 76), some (.int x1), some (.int x2), some (.int x3), none] [] (zT x9 R)) → (∀ v9, e = Sum.inr v9 → P (some (.int v9.1)) (zT v9.2 R)) → AV G M_X2_fewestPinsTelling 5 sl P 66 [some (.ref 76), some (.int x1), some (.int x2), some (.int x3), some (.int x4)] [] (zT s R) := by
  intro k
  induction k with
  | zero =>
    intro s x4 e H
    unfold f_X2_fewestPinsTelling_66 at H
    cases H
  | succ k ih =>
    intro s x4 e H KE KR
    unfold f_X2_fewestPinsTelling_66 at H
    refine aw_iload (q := 68) dX2_fewestPinsTelling_66 rfl rfl ?_
    refine aw_iload_n (q := 69) dX2_fewestPinsTelling_68 rfl rfl ?_
    refine aw_icmp_ge (q := 72) (t := 105) dX2_fewestPinsTelling_69 rfl (by decide) (fun h1 => ?_) (fun h1 => ?_)
    · replace H := zt h1 H
      cases H
      exact aw_fewer (L' := [some (.ref 76), some (.int x1), some (.int x2), some (.int x3), none]) ⟨rfl, ⟨rfl, ⟨rfl, ⟨rfl, trivial⟩⟩⟩⟩ (KE _ rfl)
    · replace H := zf h1 H
      refine aw_aload_n (q := 73) dX2_fewestPinsTelling_72 rfl rfl ?_
      refine aw_iload_n (q := 74) dX2_fewestPinsTelling_73 rfl rfl ?_
      refine aw_iconst (q := 75) (v := 1) dX2_fewestPinsTelling_74 rfl (by decide) ?_
      refine aw_iload_n (q := 76) dX2_fewestPinsTelling_75 rfl rfl ?_
      refine aw_ishl (q := 77) dX2_fewestPinsTelling_76 rfl ?_
      refine aw_ior (q := 78) dX2_fewestPinsTelling_77 rfl ?_
      refine aw_iconst (q := 79) (v := 1) dX2_fewestPinsTelling_78 rfl (by decide) ?_
      refine aw_iload (q := 81) dX2_fewestPinsTelling_79 rfl rfl ?_
      refine aw_ishl (q := 82) dX2_fewestPinsTelling_81 rfl ?_
      refine aw_ior (q := 83) dX2_fewestPinsTelling_82 rfl ?_
      refine aw_iload_n (q := 84) dX2_fewestPinsTelling_83 rfl rfl ?_
      obtain ⟨v2, hv2, H⟩ := zbd H
      refine aw_cv (M' := M_X2_tells) (as := [.int ((x1 ||| ((1 : Int32) <<< (x3 &&& 31))) ||| ((1 : Int32) <<< (x4 &&& 31))), .int x2]) (q := 87) dX2_fewestPinsTelling_84 rfl W_X2_tells k_X2_107 i_X2_tells v_X2_tells (by decide) (o_X2 s R) rfl rfl rfl (by decide) (Nat.le_of_ble_eq_true rfl) (c_X2_tells s R ((x1 ||| ((1 : Int32) <<< (x3 &&& 31))) ||| ((1 : Int32) <<< (x4 &&& 31))) x2 hv2) (Nat.le_refl _) (Nat.le_refl _) ?_
      rintro r9 h9 ⟨rfl, rfl⟩
      refine aw_ifeqB (q := 90) (t := 99) dX2_fewestPinsTelling_87 rfl (by decide) (fun h3 => ?_) (fun h3 => ?_)
      · replace H := zt h3 H
        refine aw_iconst (q := 91) (v := 1) dX2_fewestPinsTelling_90 rfl (by decide) ?_
        refine aw_iload_n (q := 92) dX2_fewestPinsTelling_91 rfl rfl ?_
        refine aw_ishl (q := 93) dX2_fewestPinsTelling_92 rfl ?_
        refine aw_iconst (q := 94) (v := 1) dX2_fewestPinsTelling_93 rfl (by decide) ?_
        refine aw_iload (q := 96) dX2_fewestPinsTelling_94 rfl rfl ?_
        refine aw_ishl (q := 97) dX2_fewestPinsTelling_96 rfl ?_
        refine aw_ior (q := 98) dX2_fewestPinsTelling_97 rfl ?_
        cases H
        exact aw_ret dX2_fewestPinsTelling_98 rfl rfl rfl rfl (KR _ rfl)
      · replace H := zf h3 H
        refine aw_iinc (q := 102) (v := x4 + 1) (L' := [some (.ref 76), some (.int x1), some (.int x2), some (.int x3), some (.int (x4 + 1))]) dX2_fewestPinsTelling_99 rfl rfl (by first | rfl | decide) (by decide) rfl rfl ?_
        refine aw_goto (q := 66) dX2_fewestPinsTelling_102 (by decide) ?_
        exact aw_fewer (L' := [some (.ref 76), some (.int x1), some (.int x2), some (.int x3), some (.int (x4 + 1))]) ⟨rfl, ⟨rfl, ⟨rfl, ⟨rfl, ⟨rfl, trivial⟩⟩⟩⟩⟩ (ih v2.2 (x4 + 1) _ H KE KR)
def f_X2_fewestPinsTelling_57 : Nat → zs → Int32 → Int32 → Int32 → Option ((zs) ⊕ (Int32 × zs))
  | 0, _, _, _, _ => none
  | k + 1, s, x1, x2, x3 =>
    if (16 : Int32) ≤ x3 then (
      some (Sum.inl s)
    ) else (
      Option.bind (f_X2_fewestPinsTelling_66 zFu s x1 x2 x3 0) fun e2 => match e2 with
      | Sum.inr r3 => some (Sum.inr r3)
      | Sum.inl e2i =>
      f_X2_fewestPinsTelling_57 k e2i x1 x2 (x3 + 1)
    )
set_option maxHeartbeats 4000000 in
set_option maxRecDepth 100000 in
theorem L_X2_fewestPinsTelling_57 {G : zG} {sl : Nat} {P : Option Value → zH → Prop} (R : zr) (x1 : Int32) (x2 : Int32) : ∀ (k : Nat) (s : zs) (x3 : Int32) (e : (zs) ⊕ (Int32 × zs)), f_X2_fewestPinsTelling_57 k s x1 x2 x3 = some e → (∀ x9, e = Sum.inl x9 → AV G M_X2_fewestPinsTelling 5 sl P 111 [none, none, none, none, none] [] (zT x9 R)) → (∀ v9, e = Sum.inr v9 → P (some (.int v9.1)) (zT v9.2 R)) → AV G M_X2_fewestPinsTelling 5 sl P 57 [some (.ref 76), some (.int x1), some (.int x2), some (.int x3), none] [] (zT s R) := by
  intro k
  induction k with
  | zero =>
    intro s x3 e H
    unfold f_X2_fewestPinsTelling_57 at H
    cases H
  | succ k ih =>
    intro s x3 e H KE KR
    unfold f_X2_fewestPinsTelling_57 at H
    refine aw_iload_n (q := 58) dX2_fewestPinsTelling_57 rfl rfl ?_
    refine aw_bipush (q := 60) (v := 16) dX2_fewestPinsTelling_58 rfl (by decide) ?_
    refine aw_icmp_ge (q := 63) (t := 111) dX2_fewestPinsTelling_60 rfl (by decide) (fun h1 => ?_) (fun h1 => ?_)
    · replace H := zt h1 H
      cases H
      exact aw_fewer (L' := [none, none, none, none, none]) trivial (KE _ rfl)
    · replace H := zf h1 H
      refine aw_iconst (q := 64) (v := 0) dX2_fewestPinsTelling_63 rfl (by decide) ?_
      refine aw_istore (q := 66) (L' := [some (.ref 76), some (.int x1), some (.int x2), some (.int x3), some (.int 0)]) dX2_fewestPinsTelling_64 rfl (by decide) rfl rfl ?_
      obtain ⟨e2, he2, H⟩ := zbd H
      refine aw_fewer (L' := [some (.ref 76), some (.int x1), some (.int x2), some (.int x3), some (.int 0)]) ⟨rfl, ⟨rfl, ⟨rfl, ⟨rfl, ⟨rfl, trivial⟩⟩⟩⟩⟩ ?_
      refine L_X2_fewestPinsTelling_66 R x1 x2 x3 zFu s 0 e2 he2 (fun e2i h9 => ?_) (fun r3 h9 => ?_)
      · subst h9
        replace H : _ = _ := H
        refine aw_iinc (q := 108) (v := x3 + 1) (L' := [some (.ref 76), some (.int x1), some (.int x2), some (.int (x3 + 1)), none]) dX2_fewestPinsTelling_105 rfl rfl (by first | rfl | decide) (by decide) rfl rfl ?_
        refine aw_goto (q := 57) dX2_fewestPinsTelling_108 (by decide) ?_
        exact aw_fewer (L' := [some (.ref 76), some (.int x1), some (.int x2), some (.int (x3 + 1)), none]) ⟨rfl, ⟨rfl, ⟨rfl, ⟨rfl, trivial⟩⟩⟩⟩ (ih e2i (x3 + 1) _ H KE KR)
      · subst h9
        cases H
        exact KR _ rfl
def f_X2_fewestPinsTelling (s : zs) (x1 : Int32) (x2 : Int32) : Option (Int32 × zs) :=
  Option.bind (f_X2_suppose s x2) fun v1 =>
  Option.bind (f_X2_suppose v1.2 10) fun v2 =>
  Option.bind (f_X2_tells v2.2 x1 x2) fun v3 =>
  if v3.1 = true then (
    some (0, v3.2)
  ) else (
    Option.bind (f_X2_fewestPinsTelling_26 zFu v3.2 x1 x2 0) fun e5 => match e5 with
    | Sum.inr r8 => some r8
    | Sum.inl e5i =>
    Option.bind (f_X2_fewestPinsTelling_57 zFu e5i x1 x2 1) fun e9 => match e9 with
    | Sum.inr r10 => some r10
    | Sum.inl e9i =>
    some ((-1), e9i)
  )
set_option maxHeartbeats 4000000 in
set_option maxRecDepth 100000 in
theorem c_X2_fewestPinsTelling {G : zG} {sl : Nat} (s : zs) (R : zr) (x1 : Int32) (x2 : Int32) {v9 : (Int32 × zs)} (H : f_X2_fewestPinsTelling s x1 x2 = some v9) : zMv G 5 M_X2_fewestPinsTelling [.ref 76, .int x1, .int x2] sl (zT s R) (fun r h' => r = some (.int v9.1) ∧ h' = zT v9.2 R) := by
  unfold f_X2_fewestPinsTelling at H
  refine zMv_of (L := [some (.ref 76), some (.int x1), some (.int x2), none, none]) (by decide) rfl (Nat.le_of_ble_eq_true rfl) rfl ?_
  refine aw_aload_n (q := 1) dX2_fewestPinsTelling_0 rfl rfl ?_
  refine aw_iload_n (q := 2) dX2_fewestPinsTelling_1 rfl rfl ?_
  obtain ⟨v1, hv1, H⟩ := zbd H
  refine aw_cv (M' := M_X2_suppose) (as := [.int x2]) (q := 5) dX2_fewestPinsTelling_2 rfl W_X2_suppose k_X2_103 i_X2_suppose v_X2_suppose (by decide) (o_X2 s R) rfl rfl rfl (by decide) (Nat.le_of_ble_eq_true rfl) (c_X2_suppose s R x2 hv1) (Nat.le_refl _) (Nat.le_refl _) ?_
  rintro r9 h9 ⟨rfl, rfl⟩
  refine aw_pop (q := 6) dX2_fewestPinsTelling_5 rfl rfl ?_
  refine aw_aload_n (q := 7) dX2_fewestPinsTelling_6 rfl rfl ?_
  refine aw_bipush (q := 9) (v := 10) dX2_fewestPinsTelling_7 rfl (by decide) ?_
  obtain ⟨v2, hv2, H⟩ := zbd H
  refine aw_cv (M' := M_X2_suppose) (as := [.int 10]) (q := 12) dX2_fewestPinsTelling_9 rfl W_X2_suppose k_X2_103 i_X2_suppose v_X2_suppose (by decide) (o_X2 v1.2 R) rfl rfl rfl (by decide) (Nat.le_of_ble_eq_true rfl) (c_X2_suppose v1.2 R 10 hv2) (Nat.le_refl _) (Nat.le_refl _) ?_
  rintro r9 h9 ⟨rfl, rfl⟩
  refine aw_pop (q := 13) dX2_fewestPinsTelling_12 rfl rfl ?_
  refine aw_aload_n (q := 14) dX2_fewestPinsTelling_13 rfl rfl ?_
  refine aw_iload_n (q := 15) dX2_fewestPinsTelling_14 rfl rfl ?_
  refine aw_iload_n (q := 16) dX2_fewestPinsTelling_15 rfl rfl ?_
  obtain ⟨v3, hv3, H⟩ := zbd H
  refine aw_cv (M' := M_X2_tells) (as := [.int x1, .int x2]) (q := 19) dX2_fewestPinsTelling_16 rfl W_X2_tells k_X2_107 i_X2_tells v_X2_tells (by decide) (o_X2 v2.2 R) rfl rfl rfl (by decide) (Nat.le_of_ble_eq_true rfl) (c_X2_tells v2.2 R x1 x2 hv3) (Nat.le_refl _) (Nat.le_refl _) ?_
  rintro r9 h9 ⟨rfl, rfl⟩
  refine aw_ifeqB (q := 22) (t := 24) dX2_fewestPinsTelling_19 rfl (by decide) (fun h4 => ?_) (fun h4 => ?_)
  · replace H := zt h4 H
    refine aw_iconst (q := 23) (v := 0) dX2_fewestPinsTelling_22 rfl (by decide) ?_
    cases H
    exact aw_ret dX2_fewestPinsTelling_23 rfl rfl rfl rfl ⟨rfl, rfl⟩
  · replace H := zf h4 H
    refine aw_iconst (q := 25) (v := 0) dX2_fewestPinsTelling_24 rfl (by decide) ?_
    refine aw_istore_n (q := 26) (L' := [some (.ref 76), some (.int x1), some (.int x2), some (.int 0), none]) dX2_fewestPinsTelling_25 rfl (by decide) rfl rfl ?_
    obtain ⟨e5, he5, H⟩ := zbd H
    refine aw_fewer (L' := [some (.ref 76), some (.int x1), some (.int x2), some (.int 0), none]) ⟨rfl, ⟨rfl, ⟨rfl, ⟨rfl, trivial⟩⟩⟩⟩ ?_
    refine L_X2_fewestPinsTelling_26 R x1 x2 zFu v3.2 0 e5 he5 (fun e5i h9 => ?_) (fun r8 h9 => ?_)
    · subst h9
      replace H : _ = _ := H
      refine aw_iconst (q := 56) (v := 1) dX2_fewestPinsTelling_55 rfl (by decide) ?_
      refine aw_istore_n (q := 57) (L' := [some (.ref 76), some (.int x1), some (.int x2), some (.int 1), none]) dX2_fewestPinsTelling_56 rfl (by decide) rfl rfl ?_
      obtain ⟨e9, he9, H⟩ := zbd H
      refine aw_fewer (L' := [some (.ref 76), some (.int x1), some (.int x2), some (.int 1), none]) ⟨rfl, ⟨rfl, ⟨rfl, ⟨rfl, trivial⟩⟩⟩⟩ ?_
      refine L_X2_fewestPinsTelling_57 R x1 x2 zFu e5i 1 e9 he9 (fun e9i h9 => ?_) (fun r10 h9 => ?_)
      · subst h9
        replace H : _ = _ := H
        refine aw_iconst (q := 112) (v := (-1)) dX2_fewestPinsTelling_111 rfl (by decide) ?_
        cases H
        exact aw_ret dX2_fewestPinsTelling_112 rfl rfl rfl rfl ⟨rfl, rfl⟩
      · subst h9
        cases H
        exact ⟨rfl, rfl⟩
    · subst h9
      cases H
      exact ⟨rfl, rfl⟩
def f_X3_append (s : zs) (x1 : Int32) : Option zs :=
  if (100 : Int32) ≤ (s.1 51 3) then (
    some s
  ) else (
    if zin (s.1 51 3) 100 = true then
    zlt (zc s 62 ((s.1 51 3).toNatClampNeg) (vp_nar .char x1)) fun s3 =>
    zlt (zc s3 51 3 ((s3.1 51 3) + 1)) fun s5 =>
    some s5
    else none
  )
set_option maxHeartbeats 4000000 in
set_option maxRecDepth 100000 in
theorem c_X3_append {G : zG} {sl : Nat} (s : zs) (R : zr) (x1 : Int32) {v9 : zs} (H : f_X3_append s x1 = some v9) : zMv G 0 M_X3_append [.ref 51, .int x1] sl (zT s R) (fun r h' => r = none ∧ h' = zT v9 R) := by
  unfold f_X3_append at H
  refine zMv_of (L := [some (.ref 51), some (.int x1)]) (by decide) rfl (Nat.le_of_ble_eq_true rfl) rfl ?_
  refine aw_aload_n (q := 1) dX3_append_0 rfl rfl ?_
  refine aw_getr (q := 4) dX3_append_1 rfl e_X3_26 (by decide) (o_X3 s R) rfl ?_
  refine aw_bipush (q := 6) (v := 100) dX3_append_4 rfl (by decide) ?_
  refine aw_icmp_ge (q := 9) (t := 29) dX3_append_6 rfl (by decide) (fun h1 => ?_) (fun h1 => ?_)
  · replace H := zt h1 H
    cases H
    exact aw_vret dX3_append_29 rfl rfl rfl ⟨rfl, rfl⟩
  · replace H := zf h1 H
    refine aw_aload_n (q := 10) dX3_append_9 rfl rfl ?_
    refine aw_getr (q := 13) dX3_append_10 rfl e_X3_18 (by decide) (o_X3 s R) rfl ?_
    refine aw_aload_n (q := 14) dX3_append_13 rfl rfl ?_
    refine aw_getr (q := 17) dX3_append_14 rfl e_X3_26 (by decide) (o_X3 s R) rfl ?_
    refine aw_iload_n (q := 18) dX3_append_17 rfl rfl ?_
    obtain ⟨h2, H⟩ := zio H
    obtain ⟨s3, q4, H⟩ := zltd H
    refine aw_cast (q := 19) dX3_append_18 rfl (by decide) (o_X3a1 s R) (zin_in h2) ((p_X3a1).trans (congrArg (fun z => zT z R) q4.symm)) ?_
    refine aw_aload_n (q := 20) dX3_append_19 rfl rfl ?_
    refine aw_dup (q := 21) dX3_append_20 rfl rfl ?_
    refine aw_getr (q := 24) dX3_append_21 rfl e_X3_26 (by decide) (o_X3 s3 R) rfl ?_
    refine aw_iconst (q := 25) (v := 1) dX3_append_24 rfl (by decide) ?_
    refine aw_iadd (q := 26) dX3_append_25 rfl ?_
    obtain ⟨s5, q6, H⟩ := zltd H
    refine aw_put (q := 29) dX3_append_26 rfl f_X3_26 (by decide) (o_X3 s3 R) rfl rfl (Nat.le_of_ble_eq_true rfl) ((p_X3_3).trans (congrArg (fun z => zT z R) q6.symm)) ?_
    cases H
    exact aw_vret dX3_append_29 rfl rfl rfl ⟨rfl, rfl⟩
def f_X3_skipSpaces_2 : Nat → zs → Int32 → Int32 → Option (Int32)
  | 0, _, _, _ => none
  | k + 1, s, x2, x3 =>
    if x2 ≤ x3 then (
      some x3
    ) else (
      if zin x3 100 = true then
      if (s.1 62 x3.toNatClampNeg) = 32 then (
        f_X3_skipSpaces_2 k s x2 (x3 + 1)
      ) else (
        some x3
      )
      else none
    )
set_option maxHeartbeats 4000000 in
set_option maxRecDepth 100000 in
theorem L_X3_skipSpaces_2 {G : zG} {sl : Nat} {P : Option Value → zH → Prop} (R : zr) (x2 : Int32) : ∀ (k : Nat) (s : zs) (x3 : Int32) (e : Int32), f_X3_skipSpaces_2 k s x2 x3 = some e → (AV G M_X3_skipSpaces 0 sl P 24 [none, none, none, some (.int e)] [] (zT s R)) → AV G M_X3_skipSpaces 0 sl P 2 [some (.ref 51), none, some (.int x2), some (.int x3)] [] (zT s R) := by
  intro k
  induction k with
  | zero =>
    intro s x3 e H
    unfold f_X3_skipSpaces_2 at H
    cases H
  | succ k ih =>
    intro s x3 e H KE
    unfold f_X3_skipSpaces_2 at H
    refine aw_iload_n (q := 3) dX3_skipSpaces_2 rfl rfl ?_
    refine aw_iload_n (q := 4) dX3_skipSpaces_3 rfl rfl ?_
    refine aw_icmp_ge (q := 7) (t := 24) dX3_skipSpaces_4 rfl (by decide) (fun h1 => ?_) (fun h1 => ?_)
    · replace H := zt h1 H
      cases H
      exact aw_fewer (L' := [none, none, none, some (.int x3)]) ⟨rfl, trivial⟩ KE
    · replace H := zf h1 H
      refine aw_aload_n (q := 8) dX3_skipSpaces_7 rfl rfl ?_
      refine aw_getr (q := 11) dX3_skipSpaces_8 rfl e_X3_18 (by decide) (o_X3 s R) rfl ?_
      refine aw_iload_n (q := 12) dX3_skipSpaces_11 rfl rfl ?_
      obtain ⟨h2, H⟩ := zio H
      refine aw_cald' (q := 13) (v := s.1 62 x3.toNatClampNeg) dX3_skipSpaces_12 rfl (by decide) (o_X3a1 s R) (zin_in h2) rfl ?_
      refine aw_bipush (q := 15) (v := 32) dX3_skipSpaces_13 rfl (by decide) ?_
      refine aw_icmp_neP (q := 18) (t := 24) dX3_skipSpaces_15 rfl (by decide) (fun h3 => ?_) (fun h3 => ?_)
      · replace H := zt h3 H
        refine aw_iinc (q := 21) (v := x3 + 1) (L' := [some (.ref 51), none, some (.int x2), some (.int (x3 + 1))]) dX3_skipSpaces_18 rfl rfl (by first | rfl | decide) (by decide) rfl rfl ?_
        refine aw_goto (q := 2) dX3_skipSpaces_21 (by decide) ?_
        exact aw_fewer (L' := [some (.ref 51), none, some (.int x2), some (.int (x3 + 1))]) ⟨rfl, ⟨rfl, ⟨rfl, trivial⟩⟩⟩ (ih s (x3 + 1) _ H KE)
      · replace H := zf h3 H
        cases H
        exact aw_fewer (L' := [none, none, none, some (.int x3)]) ⟨rfl, trivial⟩ KE
def f_X3_skipSpaces (s : zs) (x1 : Int32) (x2 : Int32) : Option Int32 :=
  Option.bind (f_X3_skipSpaces_2 zFu s x2 x1) fun e1 =>
  some e1
set_option maxHeartbeats 4000000 in
set_option maxRecDepth 100000 in
theorem c_X3_skipSpaces {G : zG} {sl : Nat} (s : zs) (R : zr) (x1 : Int32) (x2 : Int32) {v9 : Int32} (H : f_X3_skipSpaces s x1 x2 = some v9) : zMv G 0 M_X3_skipSpaces [.ref 51, .int x1, .int x2] sl (zT s R) (fun r h' => r = some (.int v9) ∧ h' = (zT s R)) := by
  unfold f_X3_skipSpaces at H
  refine zMv_of (L := [some (.ref 51), some (.int x1), some (.int x2), none]) (by decide) rfl (Nat.le_of_ble_eq_true rfl) rfl ?_
  refine aw_iload_n (q := 1) dX3_skipSpaces_0 rfl rfl ?_
  refine aw_istore_n (q := 2) (L' := [some (.ref 51), some (.int x1), some (.int x2), some (.int x1)]) dX3_skipSpaces_1 rfl (by decide) rfl rfl ?_
  obtain ⟨e1, he1, H⟩ := zbd H
  refine aw_fewer (L' := [some (.ref 51), none, some (.int x2), some (.int x1)]) ⟨rfl, ⟨rfl, ⟨rfl, trivial⟩⟩⟩ ?_
  refine L_X3_skipSpaces_2 R x2 zFu s x1 e1 he1 ?_
  refine aw_iload_n (q := 25) dX3_skipSpaces_24 rfl rfl ?_
  cases H
  exact aw_ret dX3_skipSpaces_25 rfl rfl rfl rfl ⟨rfl, rfl⟩
def f_X3_endOfCommand_2 : Nat → zs → Int32 → Option (Int32)
  | 0, _, _ => none
  | k + 1, s, x2 =>
    if (s.1 51 3) ≤ x2 then (
      some x2
    ) else (
      if zin x2 100 = true then
      if (s.1 62 x2.toNatClampNeg) = 59 then (
        some x2
      ) else (
        f_X3_endOfCommand_2 k s (x2 + 1)
      )
      else none
    )
set_option maxHeartbeats 4000000 in
set_option maxRecDepth 100000 in
theorem L_X3_endOfCommand_2 {G : zG} {sl : Nat} {P : Option Value → zH → Prop} (R : zr)  : ∀ (k : Nat) (s : zs) (x2 : Int32) (e : Int32), f_X3_endOfCommand_2 k s x2 = some e → (AV G M_X3_endOfCommand 0 sl P 27 [none, none, some (.int e)] [] (zT s R)) → AV G M_X3_endOfCommand 0 sl P 2 [some (.ref 51), none, some (.int x2)] [] (zT s R) := by
  intro k
  induction k with
  | zero =>
    intro s x2 e H
    unfold f_X3_endOfCommand_2 at H
    cases H
  | succ k ih =>
    intro s x2 e H KE
    unfold f_X3_endOfCommand_2 at H
    refine aw_iload_n (q := 3) dX3_endOfCommand_2 rfl rfl ?_
    refine aw_aload_n (q := 4) dX3_endOfCommand_3 rfl rfl ?_
    refine aw_getr (q := 7) dX3_endOfCommand_4 rfl e_X3_26 (by decide) (o_X3 s R) rfl ?_
    refine aw_icmp_ge (q := 10) (t := 27) dX3_endOfCommand_7 rfl (by decide) (fun h1 => ?_) (fun h1 => ?_)
    · replace H := zt h1 H
      cases H
      exact aw_fewer (L' := [none, none, some (.int x2)]) ⟨rfl, trivial⟩ KE
    · replace H := zf h1 H
      refine aw_aload_n (q := 11) dX3_endOfCommand_10 rfl rfl ?_
      refine aw_getr (q := 14) dX3_endOfCommand_11 rfl e_X3_18 (by decide) (o_X3 s R) rfl ?_
      refine aw_iload_n (q := 15) dX3_endOfCommand_14 rfl rfl ?_
      obtain ⟨h2, H⟩ := zio H
      refine aw_cald' (q := 16) (v := s.1 62 x2.toNatClampNeg) dX3_endOfCommand_15 rfl (by decide) (o_X3a1 s R) (zin_in h2) rfl ?_
      refine aw_bipush (q := 18) (v := 59) dX3_endOfCommand_16 rfl (by decide) ?_
      refine aw_icmp_eq (q := 21) (t := 27) dX3_endOfCommand_18 rfl (by decide) (fun h3 => ?_) (fun h3 => ?_)
      · replace H := zt h3 H
        cases H
        exact aw_fewer (L' := [none, none, some (.int x2)]) ⟨rfl, trivial⟩ KE
      · replace H := zf h3 H
        refine aw_iinc (q := 24) (v := x2 + 1) (L' := [some (.ref 51), none, some (.int (x2 + 1))]) dX3_endOfCommand_21 rfl rfl (by first | rfl | decide) (by decide) rfl rfl ?_
        refine aw_goto (q := 2) dX3_endOfCommand_24 (by decide) ?_
        exact aw_fewer (L' := [some (.ref 51), none, some (.int (x2 + 1))]) ⟨rfl, ⟨rfl, trivial⟩⟩ (ih s (x2 + 1) _ H KE)
def f_X3_endOfCommand (s : zs) (x1 : Int32) : Option Int32 :=
  Option.bind (f_X3_endOfCommand_2 zFu s x1) fun e1 =>
  some e1
set_option maxHeartbeats 4000000 in
set_option maxRecDepth 100000 in
theorem c_X3_endOfCommand {G : zG} {sl : Nat} (s : zs) (R : zr) (x1 : Int32) {v9 : Int32} (H : f_X3_endOfCommand s x1 = some v9) : zMv G 0 M_X3_endOfCommand [.ref 51, .int x1] sl (zT s R) (fun r h' => r = some (.int v9) ∧ h' = (zT s R)) := by
  unfold f_X3_endOfCommand at H
  refine zMv_of (L := [some (.ref 51), some (.int x1), none]) (by decide) rfl (Nat.le_of_ble_eq_true rfl) rfl ?_
  refine aw_iload_n (q := 1) dX3_endOfCommand_0 rfl rfl ?_
  refine aw_istore_n (q := 2) (L' := [some (.ref 51), some (.int x1), some (.int x1)]) dX3_endOfCommand_1 rfl (by decide) rfl rfl ?_
  obtain ⟨e1, he1, H⟩ := zbd H
  refine aw_fewer (L' := [some (.ref 51), none, some (.int x1)]) ⟨rfl, ⟨rfl, trivial⟩⟩ ?_
  refine L_X3_endOfCommand_2 R  zFu s x1 e1 he1 ?_
  refine aw_iload_n (q := 28) dX3_endOfCommand_27 rfl rfl ?_
  cases H
  exact aw_ret dX3_endOfCommand_28 rfl rfl rfl rfl ⟨rfl, rfl⟩
def f_X3_endOfToken_2 : Nat → zs → Int32 → Int32 → Option (Int32)
  | 0, _, _, _ => none
  | k + 1, s, x2, x3 =>
    if x2 ≤ x3 then (
      some x3
    ) else (
      if zin x3 100 = true then
      if (s.1 62 x3.toNatClampNeg) = 32 then (
        some x3
      ) else (
        f_X3_endOfToken_2 k s x2 (x3 + 1)
      )
      else none
    )
set_option maxHeartbeats 4000000 in
set_option maxRecDepth 100000 in
theorem L_X3_endOfToken_2 {G : zG} {sl : Nat} {P : Option Value → zH → Prop} (R : zr) (x2 : Int32) : ∀ (k : Nat) (s : zs) (x3 : Int32) (e : Int32), f_X3_endOfToken_2 k s x2 x3 = some e → (AV G M_X3_endOfToken 0 sl P 24 [none, none, none, some (.int e)] [] (zT s R)) → AV G M_X3_endOfToken 0 sl P 2 [some (.ref 51), none, some (.int x2), some (.int x3)] [] (zT s R) := by
  intro k
  induction k with
  | zero =>
    intro s x3 e H
    unfold f_X3_endOfToken_2 at H
    cases H
  | succ k ih =>
    intro s x3 e H KE
    unfold f_X3_endOfToken_2 at H
    refine aw_iload_n (q := 3) dX3_endOfToken_2 rfl rfl ?_
    refine aw_iload_n (q := 4) dX3_endOfToken_3 rfl rfl ?_
    refine aw_icmp_ge (q := 7) (t := 24) dX3_endOfToken_4 rfl (by decide) (fun h1 => ?_) (fun h1 => ?_)
    · replace H := zt h1 H
      cases H
      exact aw_fewer (L' := [none, none, none, some (.int x3)]) ⟨rfl, trivial⟩ KE
    · replace H := zf h1 H
      refine aw_aload_n (q := 8) dX3_endOfToken_7 rfl rfl ?_
      refine aw_getr (q := 11) dX3_endOfToken_8 rfl e_X3_18 (by decide) (o_X3 s R) rfl ?_
      refine aw_iload_n (q := 12) dX3_endOfToken_11 rfl rfl ?_
      obtain ⟨h2, H⟩ := zio H
      refine aw_cald' (q := 13) (v := s.1 62 x3.toNatClampNeg) dX3_endOfToken_12 rfl (by decide) (o_X3a1 s R) (zin_in h2) rfl ?_
      refine aw_bipush (q := 15) (v := 32) dX3_endOfToken_13 rfl (by decide) ?_
      refine aw_icmp_eq (q := 18) (t := 24) dX3_endOfToken_15 rfl (by decide) (fun h3 => ?_) (fun h3 => ?_)
      · replace H := zt h3 H
        cases H
        exact aw_fewer (L' := [none, none, none, some (.int x3)]) ⟨rfl, trivial⟩ KE
      · replace H := zf h3 H
        refine aw_iinc (q := 21) (v := x3 + 1) (L' := [some (.ref 51), none, some (.int x2), some (.int (x3 + 1))]) dX3_endOfToken_18 rfl rfl (by first | rfl | decide) (by decide) rfl rfl ?_
        refine aw_goto (q := 2) dX3_endOfToken_21 (by decide) ?_
        exact aw_fewer (L' := [some (.ref 51), none, some (.int x2), some (.int (x3 + 1))]) ⟨rfl, ⟨rfl, ⟨rfl, trivial⟩⟩⟩ (ih s (x3 + 1) _ H KE)
def f_X3_endOfToken (s : zs) (x1 : Int32) (x2 : Int32) : Option Int32 :=
  Option.bind (f_X3_endOfToken_2 zFu s x2 x1) fun e1 =>
  some e1
set_option maxHeartbeats 4000000 in
set_option maxRecDepth 100000 in
theorem c_X3_endOfToken {G : zG} {sl : Nat} (s : zs) (R : zr) (x1 : Int32) (x2 : Int32) {v9 : Int32} (H : f_X3_endOfToken s x1 x2 = some v9) : zMv G 0 M_X3_endOfToken [.ref 51, .int x1, .int x2] sl (zT s R) (fun r h' => r = some (.int v9) ∧ h' = (zT s R)) := by
  unfold f_X3_endOfToken at H
  refine zMv_of (L := [some (.ref 51), some (.int x1), some (.int x2), none]) (by decide) rfl (Nat.le_of_ble_eq_true rfl) rfl ?_
  refine aw_iload_n (q := 1) dX3_endOfToken_0 rfl rfl ?_
  refine aw_istore_n (q := 2) (L' := [some (.ref 51), some (.int x1), some (.int x2), some (.int x1)]) dX3_endOfToken_1 rfl (by decide) rfl rfl ?_
  obtain ⟨e1, he1, H⟩ := zbd H
  refine aw_fewer (L' := [some (.ref 51), none, some (.int x2), some (.int x1)]) ⟨rfl, ⟨rfl, ⟨rfl, trivial⟩⟩⟩ ?_
  refine L_X3_endOfToken_2 R x2 zFu s x1 e1 he1 ?_
  refine aw_iload_n (q := 25) dX3_endOfToken_24 rfl rfl ?_
  cases H
  exact aw_ret dX3_endOfToken_25 rfl rfl rfl rfl ⟨rfl, rfl⟩
def f_X3_spelling (x0 : Int32) : Nat :=
  if x0 = 0 then (
    1000010
  ) else (
    if x0 = 1 then (
      1000011
    ) else (
      if x0 = 2 then (
        1000012
      ) else (
        if x0 = 3 then (
          1000013
        ) else (
          if x0 = 4 then (
            1000014
          ) else (
            if x0 = 5 then (
              1000015
            ) else (
              if x0 = 6 then (
                1000016
              ) else (
                1000017
              )
            )
          )
        )
      )
    )
  )
set_option maxHeartbeats 4000000 in
set_option maxRecDepth 100000 in
theorem c_X3_spelling {G : zG} {sl : Nat} (h : zH) (x0 : Int32)  : zMv G 0 M_X3_spelling [.int x0] sl h (fun r h' => r = some (.ref (f_X3_spelling x0)) ∧ h' = h) := by
  generalize H : f_X3_spelling x0 = r0
  unfold f_X3_spelling at H
  refine zMv_of (L := [some (.int x0)]) (by decide) rfl (Nat.le_of_ble_eq_true rfl) rfl ?_
  refine aw_iload_n (q := 1) dX3_spelling_0 rfl rfl ?_
  by_cases h1 : x0 = 0
  · replace H := zt h1 H
    refine aw_tabIn (q := 44) (off := 43) dX3_spelling_1 (by rw [h1]; decide) (by rw [h1]; decide) (by rw [h1]; rfl) (by decide) ?_
    refine aw_ldcs (M := M_X3_spelling) (i := 0) (q := 46) dX3_spelling_44 rfl (by decide) rfl rfl rfl ?_
    subst H
    exact aw_aret dX3_spelling_46 rfl rfl rfl ⟨rfl, rfl⟩
  · replace H := zf h1 H
    by_cases h2 : x0 = 1
    · replace H := zt h2 H
      refine aw_tabIn (q := 47) (off := 46) dX3_spelling_1 (by rw [h2]; decide) (by rw [h2]; decide) (by rw [h2]; rfl) (by decide) ?_
      refine aw_ldcs (M := M_X3_spelling) (i := 1) (q := 49) dX3_spelling_47 rfl (by decide) rfl rfl rfl ?_
      subst H
      exact aw_aret dX3_spelling_49 rfl rfl rfl ⟨rfl, rfl⟩
    · replace H := zf h2 H
      by_cases h3 : x0 = 2
      · replace H := zt h3 H
        refine aw_tabIn (q := 50) (off := 49) dX3_spelling_1 (by rw [h3]; decide) (by rw [h3]; decide) (by rw [h3]; rfl) (by decide) ?_
        refine aw_ldcs (M := M_X3_spelling) (i := 2) (q := 52) dX3_spelling_50 rfl (by decide) rfl rfl rfl ?_
        subst H
        exact aw_aret dX3_spelling_52 rfl rfl rfl ⟨rfl, rfl⟩
      · replace H := zf h3 H
        by_cases h4 : x0 = 3
        · replace H := zt h4 H
          refine aw_tabIn (q := 53) (off := 52) dX3_spelling_1 (by rw [h4]; decide) (by rw [h4]; decide) (by rw [h4]; rfl) (by decide) ?_
          refine aw_ldcs (M := M_X3_spelling) (i := 3) (q := 55) dX3_spelling_53 rfl (by decide) rfl rfl rfl ?_
          subst H
          exact aw_aret dX3_spelling_55 rfl rfl rfl ⟨rfl, rfl⟩
        · replace H := zf h4 H
          by_cases h5 : x0 = 4
          · replace H := zt h5 H
            refine aw_tabIn (q := 56) (off := 55) dX3_spelling_1 (by rw [h5]; decide) (by rw [h5]; decide) (by rw [h5]; rfl) (by decide) ?_
            refine aw_ldcs (M := M_X3_spelling) (i := 4) (q := 58) dX3_spelling_56 rfl (by decide) rfl rfl rfl ?_
            subst H
            exact aw_aret dX3_spelling_58 rfl rfl rfl ⟨rfl, rfl⟩
          · replace H := zf h5 H
            by_cases h6 : x0 = 5
            · replace H := zt h6 H
              refine aw_tabIn (q := 59) (off := 58) dX3_spelling_1 (by rw [h6]; decide) (by rw [h6]; decide) (by rw [h6]; rfl) (by decide) ?_
              refine aw_ldcs (M := M_X3_spelling) (i := 5) (q := 61) dX3_spelling_59 rfl (by decide) rfl rfl rfl ?_
              subst H
              exact aw_aret dX3_spelling_61 rfl rfl rfl ⟨rfl, rfl⟩
            · replace H := zf h6 H
              by_cases h7 : x0 = 6
              · replace H := zt h7 H
                refine aw_tabIn (q := 62) (off := 61) dX3_spelling_1 (by rw [h7]; decide) (by rw [h7]; decide) (by rw [h7]; rfl) (by decide) ?_
                refine aw_ldcs (M := M_X3_spelling) (i := 6) (q := 64) dX3_spelling_62 rfl (by decide) rfl rfl rfl ?_
                subst H
                exact aw_aret dX3_spelling_64 rfl rfl rfl ⟨rfl, rfl⟩
              · replace H := zf h7 H
                refine aw_tabOut (q := 65) dX3_spelling_1 (by have w0 : ¬ x0.toInt = 0 := zne h1; have w1 : ¬ x0.toInt = 1 := zne h2; have w2 : ¬ x0.toInt = 2 := zne h3; have w3 : ¬ x0.toInt = 3 := zne h4; have w4 : ¬ x0.toInt = 4 := zne h5; have w5 : ¬ x0.toInt = 5 := zne h6; have w6 : ¬ x0.toInt = 6 := zne h7; omega) (by decide) ?_
                refine aw_ldcs (M := M_X3_spelling) (i := 7) (q := 67) dX3_spelling_65 rfl (by decide) rfl rfl rfl ?_
                subst H
                exact aw_aret dX3_spelling_67 rfl rfl rfl ⟨rfl, rfl⟩
theorem U_X3_spelling (x : Int32) : zStr (f_X3_spelling x) := by
  unfold f_X3_spelling
  split
  · exact ⟨0, by decide, rfl⟩
  split
  · exact ⟨1, by decide, rfl⟩
  split
  · exact ⟨2, by decide, rfl⟩
  split
  · exact ⟨3, by decide, rfl⟩
  split
  · exact ⟨4, by decide, rfl⟩
  split
  · exact ⟨5, by decide, rfl⟩
  split
  · exact ⟨6, by decide, rfl⟩
  · exact ⟨7, by decide, rfl⟩
def f_X3_isWritten_15 : Nat → zs → Nat → Int32 → Int32 → Option ((Unit) ⊕ (Bool))
  | 0, _, _, _, _ => none
  | k + 1, s, x1, x2, x4 =>
    if (zSlen x1) ≤ x4 then (
      some (Sum.inl ())
    ) else (
      if zin x4 (zSln x1) = true then
      if zin (x2 + x4) 100 = true then
      if (zSch x1 x4.toNatClampNeg) = (s.1 62 ((x2 + x4).toNatClampNeg)) then (
        f_X3_isWritten_15 k s x1 x2 (x4 + 1)
      ) else (
        some (Sum.inr false)
      )
      else none
      else none
    )
set_option maxHeartbeats 4000000 in
set_option maxRecDepth 100000 in
theorem L_X3_isWritten_15 {G : zG} {sl : Nat} {P : Option Value → zH → Prop} (R : zr) {x1 : Nat} (hx1 : zStr x1) (x2 : Int32) : ∀ (k : Nat) (s : zs) (x4 : Int32) (e : (Unit) ⊕ (Bool)), f_X3_isWritten_15 k s x1 x2 x4 = some e → (∀ x9, e = Sum.inl x9 → AV G M_X3_isWritten 4 sl P 50 [none, none, none, none, none] [] (zT s R)) → (∀ v9, e = Sum.inr v9 → P (some (.int (zb v9))) (zT s R)) → AV G M_X3_isWritten 4 sl P 15 [some (.ref 51), some (.ref x1), some (.int x2), none, some (.int x4)] [] (zT s R) := by
  intro k
  induction k with
  | zero =>
    intro s x4 e H
    unfold f_X3_isWritten_15 at H
    cases H
  | succ k ih =>
    intro s x4 e H KE KR
    unfold f_X3_isWritten_15 at H
    refine aw_iload (q := 17) dX3_isWritten_15 rfl rfl ?_
    refine aw_aload_n (q := 18) dX3_isWritten_17 rfl rfl ?_
    refine aw_slen (q := 21) dX3_isWritten_18 rfl k_X3_114 (by decide) (Nat.le_of_ble_eq_true rfl) hx1 ?_
    refine aw_icmp_ge (q := 24) (t := 50) dX3_isWritten_21 rfl (by decide) (fun h1 => ?_) (fun h1 => ?_)
    · replace H := zt h1 H
      cases H
      exact aw_fewer (L' := [none, none, none, none, none]) trivial (KE _ rfl)
    · replace H := zf h1 H
      refine aw_aload_n (q := 25) dX3_isWritten_24 rfl rfl ?_
      refine aw_iload (q := 27) dX3_isWritten_25 rfl rfl ?_
      obtain ⟨h2, H⟩ := zio H
      refine aw_schar (q := 30) dX3_isWritten_27 rfl k_X3_118 (by decide) (Nat.le_of_ble_eq_true rfl) hx1 (zin_in h2) ?_
      refine aw_aload_n (q := 31) dX3_isWritten_30 rfl rfl ?_
      refine aw_getr (q := 34) dX3_isWritten_31 rfl e_X3_18 (by decide) (o_X3 s R) rfl ?_
      refine aw_iload_n (q := 35) dX3_isWritten_34 rfl rfl ?_
      refine aw_iload (q := 37) dX3_isWritten_35 rfl rfl ?_
      refine aw_iadd (q := 38) dX3_isWritten_37 rfl ?_
      obtain ⟨h3, H⟩ := zio H
      refine aw_cald' (q := 39) (v := s.1 62 ((x2 + x4).toNatClampNeg)) dX3_isWritten_38 rfl (by decide) (o_X3a1 s R) (zin_in h3) rfl ?_
      refine aw_icmp_eq (q := 42) (t := 44) dX3_isWritten_39 rfl (by decide) (fun h4 => ?_) (fun h4 => ?_)
      · replace H := zt h4 H
        refine aw_iinc (q := 47) (v := x4 + 1) (L' := [some (.ref 51), some (.ref x1), some (.int x2), none, some (.int (x4 + 1))]) dX3_isWritten_44 rfl rfl (by first | rfl | decide) (by decide) rfl rfl ?_
        refine aw_goto (q := 15) dX3_isWritten_47 (by decide) ?_
        exact aw_fewer (L' := [some (.ref 51), some (.ref x1), some (.int x2), none, some (.int (x4 + 1))]) ⟨rfl, ⟨rfl, ⟨rfl, ⟨rfl, trivial⟩⟩⟩⟩ (ih s (x4 + 1) _ H KE KR)
      · replace H := zf h4 H
        refine aw_iconst (q := 43) (v := 0) dX3_isWritten_42 rfl (by decide) ?_
        cases H
        exact aw_ret dX3_isWritten_43 rfl rfl rfl rfl (KR _ rfl)
def f_X3_isWritten (s : zs) (x1 : Nat) (x2 : Int32) (x3 : Int32) : Option Bool :=
  if (zSlen x1) = (x3 - x2) then (
    Option.bind (f_X3_isWritten_15 zFu s x1 x2 0) fun e2 => match e2 with
    | Sum.inr r3 => some r3
    | Sum.inl e2i =>
    some true
  ) else (
    some false
  )
set_option maxHeartbeats 4000000 in
set_option maxRecDepth 100000 in
theorem c_X3_isWritten {G : zG} {sl : Nat} (s : zs) (R : zr) {x1 : Nat} (hx1 : zStr x1) (x2 : Int32) (x3 : Int32) {v9 : Bool} (H : f_X3_isWritten s x1 x2 x3 = some v9) : zMv G 4 M_X3_isWritten [.ref 51, .ref x1, .int x2, .int x3] sl (zT s R) (fun r h' => r = some (.int (zb v9)) ∧ h' = (zT s R)) := by
  unfold f_X3_isWritten at H
  refine zMv_of (L := [some (.ref 51), some (.ref x1), some (.int x2), some (.int x3), none]) (by decide) rfl (Nat.le_of_ble_eq_true rfl) rfl ?_
  refine aw_aload_n (q := 1) dX3_isWritten_0 rfl rfl ?_
  refine aw_slen (q := 4) dX3_isWritten_1 rfl k_X3_114 (by decide) (Nat.le_of_ble_eq_true rfl) hx1 ?_
  refine aw_iload_n (q := 5) dX3_isWritten_4 rfl rfl ?_
  refine aw_iload_n (q := 6) dX3_isWritten_5 rfl rfl ?_
  refine aw_isub (q := 7) dX3_isWritten_6 rfl ?_
  refine aw_icmp_eq (q := 10) (t := 12) dX3_isWritten_7 rfl (by decide) (fun h1 => ?_) (fun h1 => ?_)
  · replace H := zt h1 H
    refine aw_iconst (q := 13) (v := 0) dX3_isWritten_12 rfl (by decide) ?_
    refine aw_istore (q := 15) (L' := [some (.ref 51), some (.ref x1), some (.int x2), some (.int x3), some (.int 0)]) dX3_isWritten_13 rfl (by decide) rfl rfl ?_
    obtain ⟨e2, he2, H⟩ := zbd H
    refine aw_fewer (L' := [some (.ref 51), some (.ref x1), some (.int x2), none, some (.int 0)]) ⟨rfl, ⟨rfl, ⟨rfl, ⟨rfl, trivial⟩⟩⟩⟩ ?_
    refine L_X3_isWritten_15 R hx1 x2 zFu s 0 e2 he2 (fun e2i h9 => ?_) (fun r3 h9 => ?_)
    · subst h9
      replace H : _ = _ := H
      refine aw_iconst (q := 51) (v := 1) dX3_isWritten_50 rfl (by decide) ?_
      cases H
      exact aw_ret dX3_isWritten_51 rfl rfl rfl rfl ⟨rfl, rfl⟩
    · subst h9
      cases H
      exact ⟨rfl, rfl⟩
  · replace H := zf h1 H
    refine aw_iconst (q := 11) (v := 0) dX3_isWritten_10 rfl (by decide) ?_
    cases H
    exact aw_ret dX3_isWritten_11 rfl rfl rfl rfl ⟨rfl, rfl⟩
def f_X3_wordBetween_2 : Nat → zs → Int32 → Int32 → Int32 → Option ((Unit) ⊕ (Int32))
  | 0, _, _, _, _ => none
  | k + 1, s, x1, x2, x3 =>
    if (8 : Int32) ≤ x3 then (
      some (Sum.inl ())
    ) else (
      Option.bind (f_X3_isWritten s (f_X3_spelling x3) x1 x2) fun v2 =>
      if v2 = true then (
        some (Sum.inr x3)
      ) else (
        f_X3_wordBetween_2 k s x1 x2 (x3 + 1)
      )
    )
set_option maxHeartbeats 4000000 in
set_option maxRecDepth 100000 in
theorem L_X3_wordBetween_2 {G : zG} {sl : Nat} {P : Option Value → zH → Prop} (R : zr) (x1 : Int32) (x2 : Int32) : ∀ (k : Nat) (s : zs) (x3 : Int32) (e : (Unit) ⊕ (Int32)), f_X3_wordBetween_2 k s x1 x2 x3 = some e → (∀ x9, e = Sum.inl x9 → AV G M_X3_wordBetween 5 sl P 29 [none, none, none, none] [] (zT s R)) → (∀ v9, e = Sum.inr v9 → P (some (.int v9)) (zT s R)) → AV G M_X3_wordBetween 5 sl P 2 [some (.ref 51), some (.int x1), some (.int x2), some (.int x3)] [] (zT s R) := by
  intro k
  induction k with
  | zero =>
    intro s x3 e H
    unfold f_X3_wordBetween_2 at H
    cases H
  | succ k ih =>
    intro s x3 e H KE KR
    unfold f_X3_wordBetween_2 at H
    refine aw_iload_n (q := 3) dX3_wordBetween_2 rfl rfl ?_
    refine aw_bipush (q := 5) (v := 8) dX3_wordBetween_3 rfl (by decide) ?_
    refine aw_icmp_ge (q := 8) (t := 29) dX3_wordBetween_5 rfl (by decide) (fun h1 => ?_) (fun h1 => ?_)
    · replace H := zt h1 H
      cases H
      exact aw_fewer (L' := [none, none, none, none]) trivial (KE _ rfl)
    · replace H := zf h1 H
      refine aw_aload_n (q := 9) dX3_wordBetween_8 rfl rfl ?_
      refine aw_iload_n (q := 10) dX3_wordBetween_9 rfl rfl ?_
      refine aw_cs (M' := M_X3_spelling) (as := [.int x3]) (q := 13) dX3_wordBetween_10 rfl W_X3_spelling k_X3_90 s_X3_spelling rfl rfl (by decide) (Nat.le_of_ble_eq_true rfl) (c_X3_spelling (zT s R) x3) (Nat.le_refl _) (Nat.le_refl _) ?_
      rintro r9 h9 ⟨rfl, rfl⟩
      refine aw_iload_n (q := 14) dX3_wordBetween_13 rfl rfl ?_
      refine aw_iload_n (q := 15) dX3_wordBetween_14 rfl rfl ?_
      obtain ⟨v2, hv2, H⟩ := zbd H
      refine aw_cv (M' := M_X3_isWritten) (as := [.ref (f_X3_spelling x3), .int x1, .int x2]) (q := 18) dX3_wordBetween_15 rfl W_X3_isWritten k_X3_94 i_X3_isWritten v_X3_isWritten (by decide) (o_X3 s R) rfl rfl rfl (by decide) (Nat.le_of_ble_eq_true rfl) (c_X3_isWritten s R (U_X3_spelling x3) x1 x2 hv2) (Nat.le_refl _) (Nat.le_refl _) ?_
      rintro r9 h9 ⟨rfl, rfl⟩
      refine aw_ifeqB (q := 21) (t := 23) dX3_wordBetween_18 rfl (by decide) (fun h3 => ?_) (fun h3 => ?_)
      · replace H := zt h3 H
        refine aw_iload_n (q := 22) dX3_wordBetween_21 rfl rfl ?_
        cases H
        exact aw_ret dX3_wordBetween_22 rfl rfl rfl rfl (KR _ rfl)
      · replace H := zf h3 H
        refine aw_iinc (q := 26) (v := x3 + 1) (L' := [some (.ref 51), some (.int x1), some (.int x2), some (.int (x3 + 1))]) dX3_wordBetween_23 rfl rfl (by first | rfl | decide) (by decide) rfl rfl ?_
        refine aw_goto (q := 2) dX3_wordBetween_26 (by decide) ?_
        exact aw_fewer (L' := [some (.ref 51), some (.int x1), some (.int x2), some (.int (x3 + 1))]) ⟨rfl, ⟨rfl, ⟨rfl, ⟨rfl, trivial⟩⟩⟩⟩ (ih s (x3 + 1) _ H KE KR)
def f_X3_wordBetween (s : zs) (x1 : Int32) (x2 : Int32) : Option Int32 :=
  Option.bind (f_X3_wordBetween_2 zFu s x1 x2 0) fun e1 => match e1 with
  | Sum.inr r2 => some r2
  | Sum.inl e1i =>
  some (-1)
set_option maxHeartbeats 4000000 in
set_option maxRecDepth 100000 in
theorem c_X3_wordBetween {G : zG} {sl : Nat} (s : zs) (R : zr) (x1 : Int32) (x2 : Int32) {v9 : Int32} (H : f_X3_wordBetween s x1 x2 = some v9) : zMv G 5 M_X3_wordBetween [.ref 51, .int x1, .int x2] sl (zT s R) (fun r h' => r = some (.int v9) ∧ h' = (zT s R)) := by
  unfold f_X3_wordBetween at H
  refine zMv_of (L := [some (.ref 51), some (.int x1), some (.int x2), none]) (by decide) rfl (Nat.le_of_ble_eq_true rfl) rfl ?_
  refine aw_iconst (q := 1) (v := 0) dX3_wordBetween_0 rfl (by decide) ?_
  refine aw_istore_n (q := 2) (L' := [some (.ref 51), some (.int x1), some (.int x2), some (.int 0)]) dX3_wordBetween_1 rfl (by decide) rfl rfl ?_
  obtain ⟨e1, he1, H⟩ := zbd H
  refine aw_fewer (L' := [some (.ref 51), some (.int x1), some (.int x2), some (.int 0)]) ⟨rfl, ⟨rfl, ⟨rfl, ⟨rfl, trivial⟩⟩⟩⟩ ?_
  refine L_X3_wordBetween_2 R x1 x2 zFu s 0 e1 he1 (fun e1i h9 => ?_) (fun r2 h9 => ?_)
  · subst h9
    replace H : _ = _ := H
    refine aw_iconst (q := 30) (v := (-1)) dX3_wordBetween_29 rfl (by decide) ?_
    cases H
    exact aw_ret dX3_wordBetween_30 rfl rfl rfl rfl ⟨rfl, rfl⟩
  · subst h9
    cases H
    exact ⟨rfl, rfl⟩
def f_X3_numberBetween_22 : Nat → zs → Int32 → Int32 → Int32 → Option ((Int32) ⊕ (Int32))
  | 0, _, _, _, _ => none
  | k + 1, s, x2, x4, x5 =>
    if x2 ≤ x5 then (
      some (Sum.inl x4)
    ) else (
      if zin x5 100 = true then
      if (s.1 62 x5.toNatClampNeg) < 48 then (
        some (Sum.inr (-1))
      ) else (
        if (s.1 62 x5.toNatClampNeg) ≤ 57 then (
          zlt ((x4 * 10) + ((s.1 62 x5.toNatClampNeg) - 48) : Int32) fun y5 =>
          f_X3_numberBetween_22 k s x2 y5 (x5 + 1)
        ) else (
          some (Sum.inr (-1))
        )
      )
      else none
    )
set_option maxHeartbeats 4000000 in
set_option maxRecDepth 100000 in
theorem L_X3_numberBetween_22 {G : zG} {sl : Nat} {P : Option Value → zH → Prop} (R : zr) (x2 : Int32) : ∀ (k : Nat) (s : zs) (x4 : Int32) (x5 : Int32) (e : (Int32) ⊕ (Int32)), f_X3_numberBetween_22 k s x2 x4 x5 = some e → (∀ x9, e = Sum.inl x9 → AV G M_X3_numberBetween 0 sl P 78 [none, none, none, none, some (.int x9), none] [] (zT s R)) → (∀ v9, e = Sum.inr v9 → P (some (.int v9)) (zT s R)) → AV G M_X3_numberBetween 0 sl P 22 [some (.ref 51), none, some (.int x2), none, some (.int x4), some (.int x5)] [] (zT s R) := by
  intro k
  induction k with
  | zero =>
    intro s x4 x5 e H
    unfold f_X3_numberBetween_22 at H
    cases H
  | succ k ih =>
    intro s x4 x5 e H KE KR
    unfold f_X3_numberBetween_22 at H
    refine aw_iload (q := 24) dX3_numberBetween_22 rfl rfl ?_
    refine aw_iload_n (q := 25) dX3_numberBetween_24 rfl rfl ?_
    refine aw_icmp_ge (q := 28) (t := 78) dX3_numberBetween_25 rfl (by decide) (fun h1 => ?_) (fun h1 => ?_)
    · replace H := zt h1 H
      cases H
      exact aw_fewer (L' := [none, none, none, none, some (.int x4), none]) ⟨rfl, trivial⟩ (KE _ rfl)
    · replace H := zf h1 H
      refine aw_aload_n (q := 29) dX3_numberBetween_28 rfl rfl ?_
      refine aw_getr (q := 32) dX3_numberBetween_29 rfl e_X3_18 (by decide) (o_X3 s R) rfl ?_
      refine aw_iload (q := 34) dX3_numberBetween_32 rfl rfl ?_
      obtain ⟨h2, H⟩ := zio H
      refine aw_cald' (q := 35) (v := s.1 62 x5.toNatClampNeg) dX3_numberBetween_34 rfl (by decide) (o_X3a1 s R) (zin_in h2) rfl ?_
      refine aw_bipush (q := 37) (v := 48) dX3_numberBetween_35 rfl (by decide) ?_
      refine aw_icmp_lt (q := 40) (t := 52) dX3_numberBetween_37 rfl (by decide) (fun h3 => ?_) (fun h3 => ?_)
      · replace H := zt h3 H
        refine aw_iconst (q := 53) (v := (-1)) dX3_numberBetween_52 rfl (by decide) ?_
        cases H
        exact aw_ret dX3_numberBetween_53 rfl rfl rfl rfl (KR _ rfl)
      · replace H := zf h3 H
        refine aw_aload_n (q := 41) dX3_numberBetween_40 rfl rfl ?_
        refine aw_getr (q := 44) dX3_numberBetween_41 rfl e_X3_18 (by decide) (o_X3 s R) rfl ?_
        refine aw_iload (q := 46) dX3_numberBetween_44 rfl rfl ?_
        refine aw_cald' (q := 47) (v := s.1 62 x5.toNatClampNeg) dX3_numberBetween_46 rfl (by decide) (o_X3a1 s R) (zin_in h2) rfl ?_
        refine aw_bipush (q := 49) (v := 57) dX3_numberBetween_47 rfl (by decide) ?_
        refine aw_icmp_le (q := 52) (t := 54) dX3_numberBetween_49 rfl (by decide) (fun h4 => ?_) (fun h4 => ?_)
        · replace H := zt h4 H
          refine aw_iload (q := 56) dX3_numberBetween_54 rfl rfl ?_
          refine aw_bipush (q := 58) (v := 10) dX3_numberBetween_56 rfl (by decide) ?_
          refine aw_imul (q := 59) dX3_numberBetween_58 rfl ?_
          refine aw_aload_n (q := 60) dX3_numberBetween_59 rfl rfl ?_
          refine aw_getr (q := 63) dX3_numberBetween_60 rfl e_X3_18 (by decide) (o_X3 s R) rfl ?_
          refine aw_iload (q := 65) dX3_numberBetween_63 rfl rfl ?_
          refine aw_cald' (q := 66) (v := s.1 62 x5.toNatClampNeg) dX3_numberBetween_65 rfl (by decide) (o_X3a1 s R) (zin_in h2) rfl ?_
          refine aw_bipush (q := 68) (v := 48) dX3_numberBetween_66 rfl (by decide) ?_
          refine aw_isub (q := 69) dX3_numberBetween_68 rfl ?_
          refine aw_iadd (q := 70) dX3_numberBetween_69 rfl ?_
          obtain ⟨y5, q6, H⟩ := zltd H
          refine aw_nm q6 ?_
          refine aw_istore (q := 72) (L' := [some (.ref 51), none, some (.int x2), none, some (.int y5), some (.int x5)]) dX3_numberBetween_70 rfl (by decide) rfl rfl ?_
          refine aw_iinc (q := 75) (v := x5 + 1) (L' := [some (.ref 51), none, some (.int x2), none, some (.int y5), some (.int (x5 + 1))]) dX3_numberBetween_72 rfl rfl (by first | rfl | decide) (by decide) rfl rfl ?_
          refine aw_goto (q := 22) dX3_numberBetween_75 (by decide) ?_
          exact aw_fewer (L' := [some (.ref 51), none, some (.int x2), none, some (.int y5), some (.int (x5 + 1))]) ⟨rfl, ⟨rfl, ⟨rfl, ⟨rfl, trivial⟩⟩⟩⟩ (ih s y5 (x5 + 1) _ H KE KR)
        · replace H := zf h4 H
          refine aw_iconst (q := 53) (v := (-1)) dX3_numberBetween_52 rfl (by decide) ?_
          cases H
          exact aw_ret dX3_numberBetween_53 rfl rfl rfl rfl (KR _ rfl)
def f_X3_numberBetween (s : zs) (x1 : Int32) (x2 : Int32) : Option Int32 :=
  zlt (x2 - x1 : Int32) fun y1 =>
  if y1 < 1 then (
    some (-1)
  ) else (
    if y1 ≤ 2 then (
      Option.bind (f_X3_numberBetween_22 zFu s x2 0 x1) fun e5 => match e5 with
      | Sum.inr r6 => some r6
      | Sum.inl e5i =>
      some e5i
    ) else (
      some (-1)
    )
  )
set_option maxHeartbeats 4000000 in
set_option maxRecDepth 100000 in
theorem c_X3_numberBetween {G : zG} {sl : Nat} (s : zs) (R : zr) (x1 : Int32) (x2 : Int32) {v9 : Int32} (H : f_X3_numberBetween s x1 x2 = some v9) : zMv G 0 M_X3_numberBetween [.ref 51, .int x1, .int x2] sl (zT s R) (fun r h' => r = some (.int v9) ∧ h' = (zT s R)) := by
  unfold f_X3_numberBetween at H
  refine zMv_of (L := [some (.ref 51), some (.int x1), some (.int x2), none, none, none]) (by decide) rfl (Nat.le_of_ble_eq_true rfl) rfl ?_
  refine aw_iload_n (q := 1) dX3_numberBetween_0 rfl rfl ?_
  refine aw_iload_n (q := 2) dX3_numberBetween_1 rfl rfl ?_
  refine aw_isub (q := 3) dX3_numberBetween_2 rfl ?_
  obtain ⟨y1, q2, H⟩ := zltd H
  refine aw_nm q2 ?_
  refine aw_istore_n (q := 4) (L' := [some (.ref 51), some (.int x1), some (.int x2), some (.int y1), none, none]) dX3_numberBetween_3 rfl (by decide) rfl rfl ?_
  refine aw_iload_n (q := 5) dX3_numberBetween_4 rfl rfl ?_
  refine aw_iconst (q := 6) (v := 1) dX3_numberBetween_5 rfl (by decide) ?_
  refine aw_icmp_lt (q := 9) (t := 14) dX3_numberBetween_6 rfl (by decide) (fun h3 => ?_) (fun h3 => ?_)
  · replace H := zt h3 H
    refine aw_iconst (q := 15) (v := (-1)) dX3_numberBetween_14 rfl (by decide) ?_
    cases H
    exact aw_ret dX3_numberBetween_15 rfl rfl rfl rfl ⟨rfl, rfl⟩
  · replace H := zf h3 H
    refine aw_iload_n (q := 10) dX3_numberBetween_9 rfl rfl ?_
    refine aw_iconst (q := 11) (v := 2) dX3_numberBetween_10 rfl (by decide) ?_
    refine aw_icmp_le (q := 14) (t := 16) dX3_numberBetween_11 rfl (by decide) (fun h4 => ?_) (fun h4 => ?_)
    · replace H := zt h4 H
      refine aw_iconst (q := 17) (v := 0) dX3_numberBetween_16 rfl (by decide) ?_
      refine aw_istore (q := 19) (L' := [some (.ref 51), some (.int x1), some (.int x2), some (.int y1), some (.int 0), none]) dX3_numberBetween_17 rfl (by decide) rfl rfl ?_
      refine aw_iload_n (q := 20) dX3_numberBetween_19 rfl rfl ?_
      refine aw_istore (q := 22) (L' := [some (.ref 51), some (.int x1), some (.int x2), some (.int y1), some (.int 0), some (.int x1)]) dX3_numberBetween_20 rfl (by decide) rfl rfl ?_
      obtain ⟨e5, he5, H⟩ := zbd H
      refine aw_fewer (L' := [some (.ref 51), none, some (.int x2), none, some (.int 0), some (.int x1)]) ⟨rfl, ⟨rfl, ⟨rfl, ⟨rfl, trivial⟩⟩⟩⟩ ?_
      refine L_X3_numberBetween_22 R x2 zFu s 0 x1 e5 he5 (fun e5i h9 => ?_) (fun r6 h9 => ?_)
      · subst h9
        replace H : _ = _ := H
        refine aw_iload (q := 80) dX3_numberBetween_78 rfl rfl ?_
        cases H
        exact aw_ret dX3_numberBetween_80 rfl rfl rfl rfl ⟨rfl, rfl⟩
      · subst h9
        cases H
        exact ⟨rfl, rfl⟩
    · replace H := zf h4 H
      refine aw_iconst (q := 15) (v := (-1)) dX3_numberBetween_14 rfl (by decide) ?_
      cases H
      exact aw_ret dX3_numberBetween_15 rfl rfl rfl rfl ⟨rfl, rfl⟩
def f_X3_areUnlike_29 : Nat → zs → Int32 → Int32 → Option ((Unit) ⊕ (Bool))
  | 0, _, _, _ => none
  | k + 1, s, x2, x3 =>
    if (s.1 51 5) ≤ x3 then (
      some (Sum.inl ())
    ) else (
      if zin x2 8 = true then
      if zin x3 8 = true then
      if (s.1 63 x2.toNatClampNeg) = (s.1 63 x3.toNatClampNeg) then (
        some (Sum.inr false)
      ) else (
        f_X3_areUnlike_29 k s x2 (x3 + 1)
      )
      else none
      else none
    )
set_option maxHeartbeats 4000000 in
set_option maxRecDepth 100000 in
theorem L_X3_areUnlike_29 {G : zG} {sl : Nat} {P : Option Value → zH → Prop} (R : zr) (x2 : Int32) : ∀ (k : Nat) (s : zs) (x3 : Int32) (e : (Unit) ⊕ (Bool)), f_X3_areUnlike_29 k s x2 x3 = some e → (∀ x9, e = Sum.inl x9 → AV G M_X3_areUnlike 0 sl P 60 [some (.ref 51), none, some (.int x2), none] [] (zT s R)) → (∀ v9, e = Sum.inr v9 → P (some (.int (zb v9))) (zT s R)) → AV G M_X3_areUnlike 0 sl P 29 [some (.ref 51), none, some (.int x2), some (.int x3)] [] (zT s R) := by
  intro k
  induction k with
  | zero =>
    intro s x3 e H
    unfold f_X3_areUnlike_29 at H
    cases H
  | succ k ih =>
    intro s x3 e H KE KR
    unfold f_X3_areUnlike_29 at H
    refine aw_iload_n (q := 30) dX3_areUnlike_29 rfl rfl ?_
    refine aw_aload_n (q := 31) dX3_areUnlike_30 rfl rfl ?_
    refine aw_getr (q := 34) dX3_areUnlike_31 rfl e_X3_58 (by decide) (o_X3 s R) rfl ?_
    refine aw_icmp_ge (q := 37) (t := 60) dX3_areUnlike_34 rfl (by decide) (fun h1 => ?_) (fun h1 => ?_)
    · replace H := zt h1 H
      cases H
      exact aw_fewer (L' := [some (.ref 51), none, some (.int x2), none]) ⟨rfl, ⟨rfl, trivial⟩⟩ (KE _ rfl)
    · replace H := zf h1 H
      refine aw_aload_n (q := 38) dX3_areUnlike_37 rfl rfl ?_
      refine aw_getr (q := 41) dX3_areUnlike_38 rfl e_X3_22 (by decide) (o_X3 s R) rfl ?_
      refine aw_iload_n (q := 42) dX3_areUnlike_41 rfl rfl ?_
      obtain ⟨h2, H⟩ := zio H
      refine aw_iald' (q := 43) (v := s.1 63 x2.toNatClampNeg) dX3_areUnlike_42 rfl (by decide) (o_X3a2 s R) (zin_in h2) rfl ?_
      refine aw_aload_n (q := 44) dX3_areUnlike_43 rfl rfl ?_
      refine aw_getr (q := 47) dX3_areUnlike_44 rfl e_X3_22 (by decide) (o_X3 s R) rfl ?_
      refine aw_iload_n (q := 48) dX3_areUnlike_47 rfl rfl ?_
      obtain ⟨h3, H⟩ := zio H
      refine aw_iald' (q := 49) (v := s.1 63 x3.toNatClampNeg) dX3_areUnlike_48 rfl (by decide) (o_X3a2 s R) (zin_in h3) rfl ?_
      refine aw_icmp_neP (q := 52) (t := 54) dX3_areUnlike_49 rfl (by decide) (fun h4 => ?_) (fun h4 => ?_)
      · replace H := zt h4 H
        refine aw_iconst (q := 53) (v := 0) dX3_areUnlike_52 rfl (by decide) ?_
        cases H
        exact aw_ret dX3_areUnlike_53 rfl rfl rfl rfl (KR _ rfl)
      · replace H := zf h4 H
        refine aw_iinc (q := 57) (v := x3 + 1) (L' := [some (.ref 51), none, some (.int x2), some (.int (x3 + 1))]) dX3_areUnlike_54 rfl rfl (by first | rfl | decide) (by decide) rfl rfl ?_
        refine aw_goto (q := 29) dX3_areUnlike_57 (by decide) ?_
        exact aw_fewer (L' := [some (.ref 51), none, some (.int x2), some (.int (x3 + 1))]) ⟨rfl, ⟨rfl, ⟨rfl, trivial⟩⟩⟩ (ih s (x3 + 1) _ H KE KR)
def f_X3_areUnlike_17 : Nat → zs → Int32 → Option ((Unit) ⊕ (Bool))
  | 0, _, _ => none
  | k + 1, s, x2 =>
    if (s.1 51 5) ≤ x2 then (
      some (Sum.inl ())
    ) else (
      zlt (x2 + 1 : Int32) fun y2 =>
      Option.bind (f_X3_areUnlike_29 zFu s x2 y2) fun e4 => match e4 with
      | Sum.inr r5 => some (Sum.inr r5)
      | Sum.inl e4i =>
      f_X3_areUnlike_17 k s (x2 + 1)
    )
set_option maxHeartbeats 4000000 in
set_option maxRecDepth 100000 in
theorem L_X3_areUnlike_17 {G : zG} {sl : Nat} {P : Option Value → zH → Prop} (R : zr)  : ∀ (k : Nat) (s : zs) (x2 : Int32) (e : (Unit) ⊕ (Bool)), f_X3_areUnlike_17 k s x2 = some e → (∀ x9, e = Sum.inl x9 → AV G M_X3_areUnlike 0 sl P 66 [none, none, none, none] [] (zT s R)) → (∀ v9, e = Sum.inr v9 → P (some (.int (zb v9))) (zT s R)) → AV G M_X3_areUnlike 0 sl P 17 [some (.ref 51), none, some (.int x2), none] [] (zT s R) := by
  intro k
  induction k with
  | zero =>
    intro s x2 e H
    unfold f_X3_areUnlike_17 at H
    cases H
  | succ k ih =>
    intro s x2 e H KE KR
    unfold f_X3_areUnlike_17 at H
    refine aw_iload_n (q := 18) dX3_areUnlike_17 rfl rfl ?_
    refine aw_aload_n (q := 19) dX3_areUnlike_18 rfl rfl ?_
    refine aw_getr (q := 22) dX3_areUnlike_19 rfl e_X3_58 (by decide) (o_X3 s R) rfl ?_
    refine aw_icmp_ge (q := 25) (t := 66) dX3_areUnlike_22 rfl (by decide) (fun h1 => ?_) (fun h1 => ?_)
    · replace H := zt h1 H
      cases H
      exact aw_fewer (L' := [none, none, none, none]) trivial (KE _ rfl)
    · replace H := zf h1 H
      refine aw_iload_n (q := 26) dX3_areUnlike_25 rfl rfl ?_
      refine aw_iconst (q := 27) (v := 1) dX3_areUnlike_26 rfl (by decide) ?_
      refine aw_iadd (q := 28) dX3_areUnlike_27 rfl ?_
      obtain ⟨y2, q3, H⟩ := zltd H
      refine aw_nm q3 ?_
      refine aw_istore_n (q := 29) (L' := [some (.ref 51), none, some (.int x2), some (.int y2)]) dX3_areUnlike_28 rfl (by decide) rfl rfl ?_
      obtain ⟨e4, he4, H⟩ := zbd H
      refine aw_fewer (L' := [some (.ref 51), none, some (.int x2), some (.int y2)]) ⟨rfl, ⟨rfl, ⟨rfl, trivial⟩⟩⟩ ?_
      refine L_X3_areUnlike_29 R x2 zFu s y2 e4 he4 (fun e4i h9 => ?_) (fun r5 h9 => ?_)
      · subst h9
        replace H : _ = _ := H
        refine aw_iinc (q := 63) (v := x2 + 1) (L' := [some (.ref 51), none, some (.int (x2 + 1)), none]) dX3_areUnlike_60 rfl rfl (by first | rfl | decide) (by decide) rfl rfl ?_
        refine aw_goto (q := 17) dX3_areUnlike_63 (by decide) ?_
        exact aw_fewer (L' := [some (.ref 51), none, some (.int (x2 + 1)), none]) ⟨rfl, ⟨rfl, trivial⟩⟩ (ih s (x2 + 1) _ H KE KR)
      · subst h9
        cases H
        exact KR _ rfl
def f_X3_areUnlike (s : zs) : Option Bool :=
  if (s.1 51 4) = 7 then (
    Option.bind (f_X3_areUnlike_17 zFu s 1) fun e2 => match e2 with
    | Sum.inr r3 => some r3
    | Sum.inl e2i =>
    some true
  ) else (
    Option.bind (f_X3_areUnlike_17 zFu s 0) fun e4 => match e4 with
    | Sum.inr r5 => some r5
    | Sum.inl e4i =>
    some true
  )
set_option maxHeartbeats 4000000 in
set_option maxRecDepth 100000 in
theorem c_X3_areUnlike {G : zG} {sl : Nat} (s : zs) (R : zr)  {v9 : Bool} (H : f_X3_areUnlike s = some v9) : zMv G 0 M_X3_areUnlike [.ref 51] sl (zT s R) (fun r h' => r = some (.int (zb v9)) ∧ h' = (zT s R)) := by
  unfold f_X3_areUnlike at H
  refine zMv_of (L := [some (.ref 51), none, none, none]) (by decide) rfl (Nat.le_of_ble_eq_true rfl) rfl ?_
  refine aw_aload_n (q := 1) dX3_areUnlike_0 rfl rfl ?_
  refine aw_getr (q := 4) dX3_areUnlike_1 rfl e_X3_74 (by decide) (o_X3 s R) rfl ?_
  refine aw_bipush (q := 6) (v := 7) dX3_areUnlike_4 rfl (by decide) ?_
  refine aw_icmp_neP (q := 9) (t := 13) dX3_areUnlike_6 rfl (by decide) (fun h1 => ?_) (fun h1 => ?_)
  · replace H := zt h1 H
    refine aw_iconst (q := 10) (v := 1) dX3_areUnlike_9 rfl (by decide) ?_
    refine aw_goto (q := 14) dX3_areUnlike_10 (by decide) ?_
    refine aw_istore_n (q := 15) (L' := [some (.ref 51), some (.int 1), none, none]) dX3_areUnlike_14 rfl (by decide) rfl rfl ?_
    refine aw_iload_n (q := 16) dX3_areUnlike_15 rfl rfl ?_
    refine aw_istore_n (q := 17) (L' := [some (.ref 51), some (.int 1), some (.int 1), none]) dX3_areUnlike_16 rfl (by decide) rfl rfl ?_
    obtain ⟨e2, he2, H⟩ := zbd H
    refine aw_fewer (L' := [some (.ref 51), none, some (.int 1), none]) ⟨rfl, ⟨rfl, trivial⟩⟩ ?_
    refine L_X3_areUnlike_17 R  zFu s 1 e2 he2 (fun e2i h9 => ?_) (fun r3 h9 => ?_)
    · subst h9
      replace H : _ = _ := H
      refine aw_iconst (q := 67) (v := 1) dX3_areUnlike_66 rfl (by decide) ?_
      cases H
      exact aw_ret dX3_areUnlike_67 rfl rfl rfl rfl ⟨rfl, rfl⟩
    · subst h9
      cases H
      exact ⟨rfl, rfl⟩
  · replace H := zf h1 H
    refine aw_iconst (q := 14) (v := 0) dX3_areUnlike_13 rfl (by decide) ?_
    refine aw_istore_n (q := 15) (L' := [some (.ref 51), some (.int 0), none, none]) dX3_areUnlike_14 rfl (by decide) rfl rfl ?_
    refine aw_iload_n (q := 16) dX3_areUnlike_15 rfl rfl ?_
    refine aw_istore_n (q := 17) (L' := [some (.ref 51), some (.int 0), some (.int 0), none]) dX3_areUnlike_16 rfl (by decide) rfl rfl ?_
    obtain ⟨e4, he4, H⟩ := zbd H
    refine aw_fewer (L' := [some (.ref 51), none, some (.int 0), none]) ⟨rfl, ⟨rfl, trivial⟩⟩ ?_
    refine L_X3_areUnlike_17 R  zFu s 0 e4 he4 (fun e4i h9 => ?_) (fun r5 h9 => ?_)
    · subst h9
      replace H : _ = _ := H
      refine aw_iconst (q := 67) (v := 1) dX3_areUnlike_66 rfl (by decide) ?_
      cases H
      exact aw_ret dX3_areUnlike_67 rfl rfl rfl rfl ⟨rfl, rfl⟩
    · subst h9
      cases H
      exact ⟨rfl, rfl⟩
def f_X3_parse_40 : Nat → zs → Int32 → Int32 → Option ((zs × Int32) ⊕ (Bool × zs))
  | 0, _, _, _ => none
  | k + 1, s, x2, x4 =>
    if zin (s.1 51 4) 8 = true then
    if (z1 ((s.1 51 4).toNatClampNeg)) ≤ (s.1 51 5) then (
      some (Sum.inl (s, x4))
    ) else (
      if x2 ≤ x4 then (
        some (Sum.inl (s, x4))
      ) else (
        Option.bind (f_X3_endOfToken s x4 x2) fun v4 =>
        Option.bind (f_X3_numberBetween s x4 v4) fun v5 =>
        if zin (s.1 51 5) 8 = true then
        zlt (zc s 63 ((s.1 51 5).toNatClampNeg) v5) fun s7 =>
        if zin (s7.1 51 5) 8 = true then
        if (s7.1 63 ((s7.1 51 5).toNatClampNeg)) = (-1) then (
          some (Sum.inr (false, s7))
        ) else (
          Option.bind (f_X3_skipSpaces s7 v4 x2) fun v11 =>
          zlt (zc s7 51 5 ((s7.1 51 5) + 1)) fun s12 =>
          f_X3_parse_40 k s12 x2 v11
        )
        else none
        else none
      )
    )
    else none
set_option maxHeartbeats 4000000 in
set_option maxRecDepth 100000 in
theorem L_X3_parse_40 {G : zG} {sl : Nat} {P : Option Value → zH → Prop} (R : zr) (x2 : Int32) : ∀ (k : Nat) (s : zs) (x4 : Int32) (e : (zs × Int32) ⊕ (Bool × zs)), f_X3_parse_40 k s x2 x4 = some e → (∀ x9, e = Sum.inl x9 → AV G M_X3_parse 6 sl P 121 [some (.ref 51), none, some (.int x2), none, some (.int x9.2)] [] (zT x9.1 R)) → (∀ v9, e = Sum.inr v9 → P (some (.int (zb v9.1))) (zT v9.2 R)) → AV G M_X3_parse 6 sl P 40 [some (.ref 51), none, some (.int x2), none, some (.int x4)] [] (zT s R) := by
  intro k
  induction k with
  | zero =>
    intro s x4 e H
    unfold f_X3_parse_40 at H
    cases H
  | succ k ih =>
    intro s x4 e H KE KR
    unfold f_X3_parse_40 at H
    refine aw_aload_n (q := 41) dX3_parse_40 rfl rfl ?_
    refine aw_getr (q := 44) dX3_parse_41 rfl e_X3_58 (by decide) (o_X3 s R) rfl ?_
    refine aw_gets1 (q := 47) dX3_parse_44 rfl g_X3_77 ?_
    refine aw_aload_n (q := 48) dX3_parse_47 rfl rfl ?_
    refine aw_getr (q := 51) dX3_parse_48 rfl e_X3_74 (by decide) (o_X3 s R) rfl ?_
    obtain ⟨h1, H⟩ := zio H
    refine aw_ti1 (q := 52) dX3_parse_51 rfl (zin_in h1) ?_
    refine aw_icmp_ge (q := 55) (t := 121) dX3_parse_52 rfl (by decide) (fun h2 => ?_) (fun h2 => ?_)
    · replace H := zt h2 H
      cases H
      exact aw_fewer (L' := [some (.ref 51), none, some (.int x2), none, some (.int x4)]) ⟨rfl, ⟨rfl, ⟨rfl, trivial⟩⟩⟩ (KE _ rfl)
    · replace H := zf h2 H
      refine aw_iload (q := 57) dX3_parse_55 rfl rfl ?_
      refine aw_iload_n (q := 58) dX3_parse_57 rfl rfl ?_
      refine aw_icmp_ge (q := 61) (t := 121) dX3_parse_58 rfl (by decide) (fun h3 => ?_) (fun h3 => ?_)
      · replace H := zt h3 H
        cases H
        exact aw_fewer (L' := [some (.ref 51), none, some (.int x2), none, some (.int x4)]) ⟨rfl, ⟨rfl, ⟨rfl, trivial⟩⟩⟩ (KE _ rfl)
      · replace H := zf h3 H
        refine aw_aload_n (q := 62) dX3_parse_61 rfl rfl ?_
        refine aw_iload (q := 64) dX3_parse_62 rfl rfl ?_
        refine aw_iload_n (q := 65) dX3_parse_64 rfl rfl ?_
        obtain ⟨v4, hv4, H⟩ := zbd H
        refine aw_cv (M' := M_X3_endOfToken) (as := [.int x4, .int x2]) (q := 68) dX3_parse_65 rfl W_X3_endOfToken k_X3_68 i_X3_endOfToken v_X3_endOfToken (by decide) (o_X3 s R) rfl rfl rfl (by decide) (Nat.le_of_ble_eq_true rfl) (c_X3_endOfToken s R x4 x2 hv4) (Nat.le_refl _) (Nat.le_refl _) ?_
        rintro r9 h9 ⟨rfl, rfl⟩
        refine aw_istore_n (q := 69) (L' := [some (.ref 51), none, some (.int x2), some (.int v4), some (.int x4)]) dX3_parse_68 rfl (by decide) rfl rfl ?_
        refine aw_aload_n (q := 70) dX3_parse_69 rfl rfl ?_
        refine aw_getr (q := 73) dX3_parse_70 rfl e_X3_22 (by decide) (o_X3 s R) rfl ?_
        refine aw_aload_n (q := 74) dX3_parse_73 rfl rfl ?_
        refine aw_getr (q := 77) dX3_parse_74 rfl e_X3_58 (by decide) (o_X3 s R) rfl ?_
        refine aw_aload_n (q := 78) dX3_parse_77 rfl rfl ?_
        refine aw_iload (q := 80) dX3_parse_78 rfl rfl ?_
        refine aw_iload_n (q := 81) dX3_parse_80 rfl rfl ?_
        obtain ⟨v5, hv5, H⟩ := zbd H
        refine aw_cv (M' := M_X3_numberBetween) (as := [.int x4, .int v4]) (q := 84) dX3_parse_81 rfl W_X3_numberBetween k_X3_80 i_X3_numberBetween v_X3_numberBetween (by decide) (o_X3 s R) rfl rfl rfl (by decide) (Nat.le_of_ble_eq_true rfl) (c_X3_numberBetween s R x4 v4 hv5) (Nat.le_refl _) (Nat.le_refl _) ?_
        rintro r9 h9 ⟨rfl, rfl⟩
        obtain ⟨h6, H⟩ := zio H
        obtain ⟨s7, q8, H⟩ := zltd H
        refine aw_iast (q := 85) dX3_parse_84 rfl (by decide) (o_X3a2 s R) (zin_in h6) ((p_X3a2).trans (congrArg (fun z => zT z R) q8.symm)) ?_
        refine aw_aload_n (q := 86) dX3_parse_85 rfl rfl ?_
        refine aw_getr (q := 89) dX3_parse_86 rfl e_X3_22 (by decide) (o_X3 s7 R) rfl ?_
        refine aw_aload_n (q := 90) dX3_parse_89 rfl rfl ?_
        refine aw_getr (q := 93) dX3_parse_90 rfl e_X3_58 (by decide) (o_X3 s7 R) rfl ?_
        obtain ⟨h9, H⟩ := zio H
        refine aw_iald' (q := 94) (v := s7.1 63 ((s7.1 51 5).toNatClampNeg)) dX3_parse_93 rfl (by decide) (o_X3a2 s7 R) (zin_in h9) rfl ?_
        refine aw_iconst (q := 95) (v := (-1)) dX3_parse_94 rfl (by decide) ?_
        refine aw_icmp_neP (q := 98) (t := 100) dX3_parse_95 rfl (by decide) (fun h10 => ?_) (fun h10 => ?_)
        · replace H := zt h10 H
          refine aw_iconst (q := 99) (v := 0) dX3_parse_98 rfl (by decide) ?_
          cases H
          exact aw_ret dX3_parse_99 rfl rfl rfl rfl (KR _ rfl)
        · replace H := zf h10 H
          refine aw_aload_n (q := 101) dX3_parse_100 rfl rfl ?_
          refine aw_iload_n (q := 102) dX3_parse_101 rfl rfl ?_
          refine aw_iload_n (q := 103) dX3_parse_102 rfl rfl ?_
          obtain ⟨v11, hv11, H⟩ := zbd H
          refine aw_cv (M' := M_X3_skipSpaces) (as := [.int v4, .int x2]) (q := 106) dX3_parse_103 rfl W_X3_skipSpaces k_X3_43 i_X3_skipSpaces v_X3_skipSpaces (by decide) (o_X3 s7 R) rfl rfl rfl (by decide) (Nat.le_of_ble_eq_true rfl) (c_X3_skipSpaces s7 R v4 x2 hv11) (Nat.le_refl _) (Nat.le_refl _) ?_
          rintro r9 h9 ⟨rfl, rfl⟩
          refine aw_istore (q := 108) (L' := [some (.ref 51), none, some (.int x2), some (.int v4), some (.int v11)]) dX3_parse_106 rfl (by decide) rfl rfl ?_
          refine aw_aload_n (q := 109) dX3_parse_108 rfl rfl ?_
          refine aw_dup (q := 110) dX3_parse_109 rfl rfl ?_
          refine aw_getr (q := 113) dX3_parse_110 rfl e_X3_58 (by decide) (o_X3 s7 R) rfl ?_
          refine aw_iconst (q := 114) (v := 1) dX3_parse_113 rfl (by decide) ?_
          refine aw_iadd (q := 115) dX3_parse_114 rfl ?_
          obtain ⟨s12, q13, H⟩ := zltd H
          refine aw_put (q := 118) dX3_parse_115 rfl f_X3_58 (by decide) (o_X3 s7 R) rfl rfl (Nat.le_of_ble_eq_true rfl) ((p_X3_5).trans (congrArg (fun z => zT z R) q13.symm)) ?_
          refine aw_goto (q := 40) dX3_parse_118 (by decide) ?_
          exact aw_fewer (L' := [some (.ref 51), none, some (.int x2), none, some (.int v11)]) ⟨rfl, ⟨rfl, ⟨rfl, trivial⟩⟩⟩ (ih s12 v11 _ H KE KR)
def f_X3_parse (s : zs) (x1 : Int32) (x2 : Int32) : Option (Bool × zs) :=
  Option.bind (f_X3_endOfToken s x1 x2) fun v1 =>
  Option.bind (f_X3_wordBetween s x1 v1) fun v2 =>
  zlt (zc s 51 4 v2) fun s3 =>
  if (s3.1 51 4) = (-1) then (
    some (false, s3)
  ) else (
    Option.bind (f_X3_skipSpaces s3 v1 x2) fun v6 =>
    zlt (zc s3 51 5 0) fun s7 =>
    Option.bind (f_X3_parse_40 zFu s7 x2 v6) fun e9 => match e9 with
    | Sum.inr r15 => some r15
    | Sum.inl e9i =>
    if e9i.2 < x2 then (
      some (false, e9i.1)
    ) else (
      if zin (e9i.1.1 51 4) 8 = true then
      if (e9i.1.1 51 5) < (z0 ((e9i.1.1 51 4).toNatClampNeg)) then (
        some (false, e9i.1)
      ) else (
        Option.bind (f_X3_areUnlike e9i.1) fun v19 =>
        if v19 = true then (
          some (true, e9i.1)
        ) else (
          some (false, e9i.1)
        )
      )
      else none
    )
  )
set_option maxHeartbeats 4000000 in
set_option maxRecDepth 100000 in
theorem c_X3_parse {G : zG} {sl : Nat} (s : zs) (R : zr) (x1 : Int32) (x2 : Int32) {v9 : (Bool × zs)} (H : f_X3_parse s x1 x2 = some v9) : zMv G 6 M_X3_parse [.ref 51, .int x1, .int x2] sl (zT s R) (fun r h' => r = some (.int (zb v9.1)) ∧ h' = zT v9.2 R) := by
  unfold f_X3_parse at H
  refine zMv_of (L := [some (.ref 51), some (.int x1), some (.int x2), none, none]) (by decide) rfl (Nat.le_of_ble_eq_true rfl) rfl ?_
  refine aw_aload_n (q := 1) dX3_parse_0 rfl rfl ?_
  refine aw_iload_n (q := 2) dX3_parse_1 rfl rfl ?_
  refine aw_iload_n (q := 3) dX3_parse_2 rfl rfl ?_
  obtain ⟨v1, hv1, H⟩ := zbd H
  refine aw_cv (M' := M_X3_endOfToken) (as := [.int x1, .int x2]) (q := 6) dX3_parse_3 rfl W_X3_endOfToken k_X3_68 i_X3_endOfToken v_X3_endOfToken (by decide) (o_X3 s R) rfl rfl rfl (by decide) (Nat.le_of_ble_eq_true rfl) (c_X3_endOfToken s R x1 x2 hv1) (Nat.le_refl _) (Nat.le_refl _) ?_
  rintro r9 h9 ⟨rfl, rfl⟩
  refine aw_istore_n (q := 7) (L' := [some (.ref 51), some (.int x1), some (.int x2), some (.int v1), none]) dX3_parse_6 rfl (by decide) rfl rfl ?_
  refine aw_aload_n (q := 8) dX3_parse_7 rfl rfl ?_
  refine aw_aload_n (q := 9) dX3_parse_8 rfl rfl ?_
  refine aw_iload_n (q := 10) dX3_parse_9 rfl rfl ?_
  refine aw_iload_n (q := 11) dX3_parse_10 rfl rfl ?_
  obtain ⟨v2, hv2, H⟩ := zbd H
  refine aw_cv (M' := M_X3_wordBetween) (as := [.int x1, .int v1]) (q := 14) dX3_parse_11 rfl W_X3_wordBetween k_X3_71 i_X3_wordBetween v_X3_wordBetween (by decide) (o_X3 s R) rfl rfl rfl (by decide) (Nat.le_of_ble_eq_true rfl) (c_X3_wordBetween s R x1 v1 hv2) (Nat.le_refl _) (Nat.le_refl _) ?_
  rintro r9 h9 ⟨rfl, rfl⟩
  obtain ⟨s3, q4, H⟩ := zltd H
  refine aw_put (q := 17) dX3_parse_14 rfl f_X3_74 (by decide) (o_X3 s R) rfl rfl (Nat.le_of_ble_eq_true rfl) ((p_X3_4).trans (congrArg (fun z => zT z R) q4.symm)) ?_
  refine aw_aload_n (q := 18) dX3_parse_17 rfl rfl ?_
  refine aw_getr (q := 21) dX3_parse_18 rfl e_X3_74 (by decide) (o_X3 s3 R) rfl ?_
  refine aw_iconst (q := 22) (v := (-1)) dX3_parse_21 rfl (by decide) ?_
  refine aw_icmp_neP (q := 25) (t := 27) dX3_parse_22 rfl (by decide) (fun h5 => ?_) (fun h5 => ?_)
  · replace H := zt h5 H
    refine aw_iconst (q := 26) (v := 0) dX3_parse_25 rfl (by decide) ?_
    cases H
    exact aw_ret dX3_parse_26 rfl rfl rfl rfl ⟨rfl, rfl⟩
  · replace H := zf h5 H
    refine aw_aload_n (q := 28) dX3_parse_27 rfl rfl ?_
    refine aw_iload_n (q := 29) dX3_parse_28 rfl rfl ?_
    refine aw_iload_n (q := 30) dX3_parse_29 rfl rfl ?_
    obtain ⟨v6, hv6, H⟩ := zbd H
    refine aw_cv (M' := M_X3_skipSpaces) (as := [.int v1, .int x2]) (q := 33) dX3_parse_30 rfl W_X3_skipSpaces k_X3_43 i_X3_skipSpaces v_X3_skipSpaces (by decide) (o_X3 s3 R) rfl rfl rfl (by decide) (Nat.le_of_ble_eq_true rfl) (c_X3_skipSpaces s3 R v1 x2 hv6) (Nat.le_refl _) (Nat.le_refl _) ?_
    rintro r9 h9 ⟨rfl, rfl⟩
    refine aw_istore (q := 35) (L' := [some (.ref 51), some (.int x1), some (.int x2), some (.int v1), some (.int v6)]) dX3_parse_33 rfl (by decide) rfl rfl ?_
    refine aw_aload_n (q := 36) dX3_parse_35 rfl rfl ?_
    refine aw_iconst (q := 37) (v := 0) dX3_parse_36 rfl (by decide) ?_
    obtain ⟨s7, q8, H⟩ := zltd H
    refine aw_put (q := 40) dX3_parse_37 rfl f_X3_58 (by decide) (o_X3 s3 R) rfl rfl (Nat.le_of_ble_eq_true rfl) ((p_X3_5).trans (congrArg (fun z => zT z R) q8.symm)) ?_
    obtain ⟨e9, he9, H⟩ := zbd H
    refine aw_fewer (L' := [some (.ref 51), none, some (.int x2), none, some (.int v6)]) ⟨rfl, ⟨rfl, ⟨rfl, trivial⟩⟩⟩ ?_
    refine L_X3_parse_40 R x2 zFu s7 v6 e9 he9 (fun e9i h9 => ?_) (fun r15 h9 => ?_)
    · subst h9
      replace H : _ = _ := H
      refine aw_iload (q := 123) dX3_parse_121 rfl rfl ?_
      refine aw_iload_n (q := 124) dX3_parse_123 rfl rfl ?_
      refine aw_icmp_lt (q := 127) (t := 153) dX3_parse_124 rfl (by decide) (fun h16 => ?_) (fun h16 => ?_)
      · replace H := zt h16 H
        refine aw_iconst (q := 154) (v := 0) dX3_parse_153 rfl (by decide) ?_
        cases H
        exact aw_ret dX3_parse_154 rfl rfl rfl rfl ⟨rfl, rfl⟩
      · replace H := zf h16 H
        refine aw_aload_n (q := 128) dX3_parse_127 rfl rfl ?_
        refine aw_getr (q := 131) dX3_parse_128 rfl e_X3_58 (by decide) (o_X3 e9i.1 R) rfl ?_
        refine aw_gets0 (q := 134) dX3_parse_131 rfl g_X3_83 ?_
        refine aw_aload_n (q := 135) dX3_parse_134 rfl rfl ?_
        refine aw_getr (q := 138) dX3_parse_135 rfl e_X3_74 (by decide) (o_X3 e9i.1 R) rfl ?_
        obtain ⟨h17, H⟩ := zio H
        refine aw_ti0 (q := 139) dX3_parse_138 rfl (zin_in h17) ?_
        refine aw_icmp_lt (q := 142) (t := 153) dX3_parse_139 rfl (by decide) (fun h18 => ?_) (fun h18 => ?_)
        · replace H := zt h18 H
          refine aw_iconst (q := 154) (v := 0) dX3_parse_153 rfl (by decide) ?_
          cases H
          exact aw_ret dX3_parse_154 rfl rfl rfl rfl ⟨rfl, rfl⟩
        · replace H := zf h18 H
          refine aw_aload_n (q := 143) dX3_parse_142 rfl rfl ?_
          obtain ⟨v19, hv19, H⟩ := zbd H
          refine aw_cv (M' := M_X3_areUnlike) (as := []) (q := 146) dX3_parse_143 rfl W_X3_areUnlike k_X3_86 i_X3_areUnlike v_X3_areUnlike (by decide) (o_X3 e9i.1 R) rfl rfl rfl (by decide) (Nat.le_of_ble_eq_true rfl) (c_X3_areUnlike e9i.1 R hv19) (Nat.le_refl _) (Nat.le_refl _) ?_
          rintro r9 h9 ⟨rfl, rfl⟩
          refine aw_ifeqB (q := 149) (t := 153) dX3_parse_146 rfl (by decide) (fun h20 => ?_) (fun h20 => ?_)
          · replace H := zt h20 H
            refine aw_iconst (q := 150) (v := 1) dX3_parse_149 rfl (by decide) ?_
            refine aw_goto (q := 154) dX3_parse_150 (by decide) ?_
            cases H
            exact aw_ret dX3_parse_154 rfl rfl rfl rfl ⟨rfl, rfl⟩
          · replace H := zf h20 H
            refine aw_iconst (q := 154) (v := 0) dX3_parse_153 rfl (by decide) ?_
            cases H
            exact aw_ret dX3_parse_154 rfl rfl rfl rfl ⟨rfl, rfl⟩
    · subst h9
      cases H
      exact ⟨rfl, rfl⟩
def f_X3_rangeOfNumber (s : zs) (x1 : Int32) : Int32 :=
  if (s.1 51 4) = 3 then (
    s.1 52 9
  ) else (
    if (s.1 51 4) = 4 then (
      s.1 52 9
    ) else (
      if (s.1 51 4) = 5 then (
        s.1 52 9
      ) else (
        if (s.1 51 4) = 6 then (
          s.1 52 10
        ) else (
          if (s.1 51 4) = 7 then (
            if x1 = 0 then (
              16
            ) else (
              7
            )
          ) else (
            16
          )
        )
      )
    )
  )
set_option maxHeartbeats 4000000 in
set_option maxRecDepth 100000 in
theorem c_X3_rangeOfNumber {G : zG} {sl : Nat} (s : zs) (R : zr) (x1 : Int32)  : zMv G 0 M_X3_rangeOfNumber [.ref 51, .int x1] sl (zT s R) (fun r h' => r = some (.int (f_X3_rangeOfNumber s x1)) ∧ h' = (zT s R)) := by
  generalize H : f_X3_rangeOfNumber s x1 = r0
  unfold f_X3_rangeOfNumber at H
  refine zMv_of (L := [some (.ref 51), some (.int x1)]) (by decide) rfl (Nat.le_of_ble_eq_true rfl) rfl ?_
  refine aw_aload_n (q := 1) dX3_rangeOfNumber_0 rfl rfl ?_
  refine aw_getr (q := 4) dX3_rangeOfNumber_1 rfl e_X3_74 (by decide) (o_X3 s R) rfl ?_
  by_cases h1 : (s.1 51 4) = 3
  · replace H := zt h1 H
    refine aw_tabIn (q := 40) (off := 36) dX3_rangeOfNumber_4 (by rw [h1]; decide) (by rw [h1]; decide) (by rw [h1]; rfl) (by decide) ?_
    refine aw_aload_n (q := 41) dX3_rangeOfNumber_40 rfl rfl ?_
    refine aw_getr (q := 44) dX3_rangeOfNumber_41 rfl e_X3_12 (by decide) (o_X3 s R) rfl ?_
    refine aw_getr (q := 47) dX3_rangeOfNumber_44 rfl e_X3_122 (zB_lt0 zB52) (o_X0 zB52 s R) rfl ?_
    subst H
    exact aw_ret dX3_rangeOfNumber_47 rfl rfl rfl rfl ⟨rfl, rfl⟩
  · replace H := zf h1 H
    by_cases h2 : (s.1 51 4) = 4
    · replace H := zt h2 H
      refine aw_tabIn (q := 40) (off := 36) dX3_rangeOfNumber_4 (by rw [h2]; decide) (by rw [h2]; decide) (by rw [h2]; rfl) (by decide) ?_
      refine aw_aload_n (q := 41) dX3_rangeOfNumber_40 rfl rfl ?_
      refine aw_getr (q := 44) dX3_rangeOfNumber_41 rfl e_X3_12 (by decide) (o_X3 s R) rfl ?_
      refine aw_getr (q := 47) dX3_rangeOfNumber_44 rfl e_X3_122 (zB_lt0 zB52) (o_X0 zB52 s R) rfl ?_
      subst H
      exact aw_ret dX3_rangeOfNumber_47 rfl rfl rfl rfl ⟨rfl, rfl⟩
    · replace H := zf h2 H
      by_cases h3 : (s.1 51 4) = 5
      · replace H := zt h3 H
        refine aw_tabIn (q := 40) (off := 36) dX3_rangeOfNumber_4 (by rw [h3]; decide) (by rw [h3]; decide) (by rw [h3]; rfl) (by decide) ?_
        refine aw_aload_n (q := 41) dX3_rangeOfNumber_40 rfl rfl ?_
        refine aw_getr (q := 44) dX3_rangeOfNumber_41 rfl e_X3_12 (by decide) (o_X3 s R) rfl ?_
        refine aw_getr (q := 47) dX3_rangeOfNumber_44 rfl e_X3_122 (zB_lt0 zB52) (o_X0 zB52 s R) rfl ?_
        subst H
        exact aw_ret dX3_rangeOfNumber_47 rfl rfl rfl rfl ⟨rfl, rfl⟩
      · replace H := zf h3 H
        by_cases h4 : (s.1 51 4) = 6
        · replace H := zt h4 H
          refine aw_tabIn (q := 48) (off := 44) dX3_rangeOfNumber_4 (by rw [h4]; decide) (by rw [h4]; decide) (by rw [h4]; rfl) (by decide) ?_
          refine aw_aload_n (q := 49) dX3_rangeOfNumber_48 rfl rfl ?_
          refine aw_getr (q := 52) dX3_rangeOfNumber_49 rfl e_X3_12 (by decide) (o_X3 s R) rfl ?_
          refine aw_getr (q := 55) dX3_rangeOfNumber_52 rfl e_X3_125 (zB_lt0 zB52) (o_X0 zB52 s R) rfl ?_
          subst H
          exact aw_ret dX3_rangeOfNumber_55 rfl rfl rfl rfl ⟨rfl, rfl⟩
        · replace H := zf h4 H
          by_cases h5 : (s.1 51 4) = 7
          · replace H := zt h5 H
            refine aw_tabIn (q := 56) (off := 52) dX3_rangeOfNumber_4 (by rw [h5]; decide) (by rw [h5]; decide) (by rw [h5]; rfl) (by decide) ?_
            refine aw_iload_n (q := 57) dX3_rangeOfNumber_56 rfl rfl ?_
            refine aw_if_neP (q := 60) (t := 65) dX3_rangeOfNumber_57 rfl (by decide) (fun h6 => ?_) (fun h6 => ?_)
            · replace H := zt h6 H
              refine aw_bipush (q := 62) (v := 16) dX3_rangeOfNumber_60 rfl (by decide) ?_
              refine aw_goto (q := 67) dX3_rangeOfNumber_62 (by decide) ?_
              subst H
              exact aw_ret dX3_rangeOfNumber_67 rfl rfl rfl rfl ⟨rfl, rfl⟩
            · replace H := zf h6 H
              refine aw_bipush (q := 67) (v := 7) dX3_rangeOfNumber_65 rfl (by decide) ?_
              subst H
              exact aw_ret dX3_rangeOfNumber_67 rfl rfl rfl rfl ⟨rfl, rfl⟩
          · replace H := zf h5 H
            refine aw_tabOut (q := 68) dX3_rangeOfNumber_4 (by have w3 : ¬ (s.1 51 4).toInt = 3 := zne h1; have w4 : ¬ (s.1 51 4).toInt = 4 := zne h2; have w5 : ¬ (s.1 51 4).toInt = 5 := zne h3; have w6 : ¬ (s.1 51 4).toInt = 6 := zne h4; have w7 : ¬ (s.1 51 4).toInt = 7 := zne h5; omega) (by decide) ?_
            refine aw_bipush (q := 70) (v := 16) dX3_rangeOfNumber_68 rfl (by decide) ?_
            subst H
            exact aw_ret dX3_rangeOfNumber_70 rfl rfl rfl rfl ⟨rfl, rfl⟩
def f_X3_setFrom_4 : Nat → zs → Int32 → Int32 → Option (Int32)
  | 0, _, _, _ => none
  | k + 1, s, x2, x3 =>
    if (s.1 51 5) ≤ x3 then (
      some x2
    ) else (
      if zin x3 8 = true then
      zlt (x2 ||| ((1 : Int32) <<< ((s.1 63 x3.toNatClampNeg) &&& 31)) : Int32) fun y3 =>
      f_X3_setFrom_4 k s y3 (x3 + 1)
      else none
    )
set_option maxHeartbeats 4000000 in
set_option maxRecDepth 100000 in
theorem L_X3_setFrom_4 {G : zG} {sl : Nat} {P : Option Value → zH → Prop} (R : zr)  : ∀ (k : Nat) (s : zs) (x2 : Int32) (x3 : Int32) (e : Int32), f_X3_setFrom_4 k s x2 x3 = some e → (AV G M_X3_setFrom 0 sl P 29 [none, none, some (.int e), none] [] (zT s R)) → AV G M_X3_setFrom 0 sl P 4 [some (.ref 51), none, some (.int x2), some (.int x3)] [] (zT s R) := by
  intro k
  induction k with
  | zero =>
    intro s x2 x3 e H
    unfold f_X3_setFrom_4 at H
    cases H
  | succ k ih =>
    intro s x2 x3 e H KE
    unfold f_X3_setFrom_4 at H
    refine aw_iload_n (q := 5) dX3_setFrom_4 rfl rfl ?_
    refine aw_aload_n (q := 6) dX3_setFrom_5 rfl rfl ?_
    refine aw_getr (q := 9) dX3_setFrom_6 rfl e_X3_58 (by decide) (o_X3 s R) rfl ?_
    refine aw_icmp_ge (q := 12) (t := 29) dX3_setFrom_9 rfl (by decide) (fun h1 => ?_) (fun h1 => ?_)
    · replace H := zt h1 H
      cases H
      exact aw_fewer (L' := [none, none, some (.int x2), none]) ⟨rfl, trivial⟩ KE
    · replace H := zf h1 H
      refine aw_iload_n (q := 13) dX3_setFrom_12 rfl rfl ?_
      refine aw_iconst (q := 14) (v := 1) dX3_setFrom_13 rfl (by decide) ?_
      refine aw_aload_n (q := 15) dX3_setFrom_14 rfl rfl ?_
      refine aw_getr (q := 18) dX3_setFrom_15 rfl e_X3_22 (by decide) (o_X3 s R) rfl ?_
      refine aw_iload_n (q := 19) dX3_setFrom_18 rfl rfl ?_
      obtain ⟨h2, H⟩ := zio H
      refine aw_iald' (q := 20) (v := s.1 63 x3.toNatClampNeg) dX3_setFrom_19 rfl (by decide) (o_X3a2 s R) (zin_in h2) rfl ?_
      refine aw_ishl (q := 21) dX3_setFrom_20 rfl ?_
      refine aw_ior (q := 22) dX3_setFrom_21 rfl ?_
      obtain ⟨y3, q4, H⟩ := zltd H
      refine aw_nm q4 ?_
      refine aw_istore_n (q := 23) (L' := [some (.ref 51), none, some (.int y3), some (.int x3)]) dX3_setFrom_22 rfl (by decide) rfl rfl ?_
      refine aw_iinc (q := 26) (v := x3 + 1) (L' := [some (.ref 51), none, some (.int y3), some (.int (x3 + 1))]) dX3_setFrom_23 rfl rfl (by first | rfl | decide) (by decide) rfl rfl ?_
      refine aw_goto (q := 4) dX3_setFrom_26 (by decide) ?_
      exact aw_fewer (L' := [some (.ref 51), none, some (.int y3), some (.int (x3 + 1))]) ⟨rfl, ⟨rfl, ⟨rfl, trivial⟩⟩⟩ (ih s y3 (x3 + 1) _ H KE)
def f_X3_setFrom (s : zs) (x1 : Int32) : Option Int32 :=
  Option.bind (f_X3_setFrom_4 zFu s 0 x1) fun e1 =>
  some e1
set_option maxHeartbeats 4000000 in
set_option maxRecDepth 100000 in
theorem c_X3_setFrom {G : zG} {sl : Nat} (s : zs) (R : zr) (x1 : Int32) {v9 : Int32} (H : f_X3_setFrom s x1 = some v9) : zMv G 0 M_X3_setFrom [.ref 51, .int x1] sl (zT s R) (fun r h' => r = some (.int v9) ∧ h' = (zT s R)) := by
  unfold f_X3_setFrom at H
  refine zMv_of (L := [some (.ref 51), some (.int x1), none, none]) (by decide) rfl (Nat.le_of_ble_eq_true rfl) rfl ?_
  refine aw_iconst (q := 1) (v := 0) dX3_setFrom_0 rfl (by decide) ?_
  refine aw_istore_n (q := 2) (L' := [some (.ref 51), some (.int x1), some (.int 0), none]) dX3_setFrom_1 rfl (by decide) rfl rfl ?_
  refine aw_iload_n (q := 3) dX3_setFrom_2 rfl rfl ?_
  refine aw_istore_n (q := 4) (L' := [some (.ref 51), some (.int x1), some (.int 0), some (.int x1)]) dX3_setFrom_3 rfl (by decide) rfl rfl ?_
  obtain ⟨e1, he1, H⟩ := zbd H
  refine aw_fewer (L' := [some (.ref 51), none, some (.int 0), some (.int x1)]) ⟨rfl, ⟨rfl, ⟨rfl, trivial⟩⟩⟩ ?_
  refine L_X3_setFrom_4 R  zFu s 0 x1 e1 he1 ?_
  refine aw_iload_n (q := 30) dX3_setFrom_29 rfl rfl ?_
  cases H
  exact aw_ret dX3_setFrom_30 rfl rfl rfl rfl ⟨rfl, rfl⟩
def f_X3_doNet (s : zs) : Option (Int32 × zs) :=
  Option.bind (f_X3_setFrom s 0) fun v1 =>
  zlt (f_X0_refusalOfNet s 52 v1 : Int32) fun y2 =>
  if y2 = 0 then (
    Option.bind (f_X0_addNet s 52 v1) fun v5 =>
    some (y2, v5.2)
  ) else (
    some (y2, s)
  )
set_option maxHeartbeats 4000000 in
set_option maxRecDepth 100000 in
theorem c_X3_doNet {G : zG} {sl : Nat} (s : zs) (R : zr)  {v9 : (Int32 × zs)} (H : f_X3_doNet s = some v9) : zMv G 2 M_X3_doNet [.ref 51] sl (zT s R) (fun r h' => r = some (.int v9.1) ∧ h' = zT v9.2 R) := by
  unfold f_X3_doNet at H
  refine zMv_of (L := [some (.ref 51), none, none]) (by decide) rfl (Nat.le_of_ble_eq_true rfl) rfl ?_
  refine aw_aload_n (q := 1) dX3_doNet_0 rfl rfl ?_
  refine aw_iconst (q := 2) (v := 0) dX3_doNet_1 rfl (by decide) ?_
  obtain ⟨v1, hv1, H⟩ := zbd H
  refine aw_cv (M' := M_X3_setFrom) (as := [.int 0]) (q := 5) dX3_doNet_2 rfl W_X3_setFrom k_X3_146 i_X3_setFrom v_X3_setFrom (by decide) (o_X3 s R) rfl rfl rfl (by decide) (Nat.le_of_ble_eq_true rfl) (c_X3_setFrom s R 0 hv1) (Nat.le_refl _) (Nat.le_refl _) ?_
  rintro r9 h9 ⟨rfl, rfl⟩
  refine aw_istore_n (q := 6) (L' := [some (.ref 51), some (.int v1), none]) dX3_doNet_5 rfl (by decide) rfl rfl ?_
  refine aw_aload_n (q := 7) dX3_doNet_6 rfl rfl ?_
  refine aw_getr (q := 10) dX3_doNet_7 rfl e_X3_12 (by decide) (o_X3 s R) rfl ?_
  refine aw_iload_n (q := 11) dX3_doNet_10 rfl rfl ?_
  refine aw_cv (M' := M_X0_refusalOfNet) (as := [.int v1]) (q := 14) dX3_doNet_11 rfl W_X0_refusalOfNet k_X3_152 i_X0_refusalOfNet v_X0_refusalOfNet (zB_lt0 zB52) (o_X0 zB52 s R) rfl rfl rfl (by decide) (Nat.le_of_ble_eq_true rfl) (c_X0_refusalOfNet s R zB52 v1) (Nat.le_refl _) (Nat.le_refl _) ?_
  rintro r9 h9 ⟨rfl, rfl⟩
  obtain ⟨y2, q3, H⟩ := zltd H
  refine aw_nm q3 ?_
  refine aw_istore_n (q := 15) (L' := [some (.ref 51), some (.int v1), some (.int y2)]) dX3_doNet_14 rfl (by decide) rfl rfl ?_
  refine aw_iload_n (q := 16) dX3_doNet_15 rfl rfl ?_
  refine aw_if_neP (q := 19) (t := 28) dX3_doNet_16 rfl (by decide) (fun h4 => ?_) (fun h4 => ?_)
  · replace H := zt h4 H
    refine aw_aload_n (q := 20) dX3_doNet_19 rfl rfl ?_
    refine aw_getr (q := 23) dX3_doNet_20 rfl e_X3_12 (by decide) (o_X3 s R) rfl ?_
    refine aw_iload_n (q := 24) dX3_doNet_23 rfl rfl ?_
    obtain ⟨v5, hv5, H⟩ := zbd H
    refine aw_cv (M' := M_X0_addNet) (as := [.int v1]) (q := 27) dX3_doNet_24 rfl W_X0_addNet k_X3_155 i_X0_addNet v_X0_addNet (zB_lt0 zB52) (o_X0 zB52 s R) rfl rfl rfl (by decide) (Nat.le_of_ble_eq_true rfl) (c_X0_addNet s R zB52 v1 hv5) (Nat.le_refl _) (Nat.le_refl _) ?_
    rintro r9 h9 ⟨rfl, rfl⟩
    refine aw_pop (q := 28) dX3_doNet_27 rfl rfl ?_
    refine aw_iload_n (q := 29) dX3_doNet_28 rfl rfl ?_
    cases H
    exact aw_ret dX3_doNet_29 rfl rfl rfl rfl ⟨rfl, rfl⟩
  · replace H := zf h4 H
    refine aw_iload_n (q := 29) dX3_doNet_28 rfl rfl ?_
    cases H
    exact aw_ret dX3_doNet_29 rfl rfl rfl rfl ⟨rfl, rfl⟩
def f_X3_doChip (s : zs) : Option (Int32 × zs) :=
  Option.bind (f_X3_setFrom s 2) fun v1 =>
  zlt (f_X0_refusalOfChip s 52 (s.1 63 0) (s.1 63 1) v1 : Int32) fun y2 =>
  if y2 = 0 then (
    Option.bind (f_X0_addChip s 52 (s.1 63 0) (s.1 63 1) v1) fun v5 =>
    some (y2, v5.2)
  ) else (
    some (y2, s)
  )
set_option maxHeartbeats 4000000 in
set_option maxRecDepth 100000 in
theorem c_X3_doChip {G : zG} {sl : Nat} (s : zs) (R : zr)  {v9 : (Int32 × zs)} (H : f_X3_doChip s = some v9) : zMv G 2 M_X3_doChip [.ref 51] sl (zT s R) (fun r h' => r = some (.int v9.1) ∧ h' = zT v9.2 R) := by
  unfold f_X3_doChip at H
  refine zMv_of (L := [some (.ref 51), none, none]) (by decide) rfl (Nat.le_of_ble_eq_true rfl) rfl ?_
  refine aw_aload_n (q := 1) dX3_doChip_0 rfl rfl ?_
  refine aw_iconst (q := 2) (v := 2) dX3_doChip_1 rfl (by decide) ?_
  obtain ⟨v1, hv1, H⟩ := zbd H
  refine aw_cv (M' := M_X3_setFrom) (as := [.int 2]) (q := 5) dX3_doChip_2 rfl W_X3_setFrom k_X3_146 i_X3_setFrom v_X3_setFrom (by decide) (o_X3 s R) rfl rfl rfl (by decide) (Nat.le_of_ble_eq_true rfl) (c_X3_setFrom s R 2 hv1) (Nat.le_refl _) (Nat.le_refl _) ?_
  rintro r9 h9 ⟨rfl, rfl⟩
  refine aw_istore_n (q := 6) (L' := [some (.ref 51), some (.int v1), none]) dX3_doChip_5 rfl (by decide) rfl rfl ?_
  refine aw_aload_n (q := 7) dX3_doChip_6 rfl rfl ?_
  refine aw_getr (q := 10) dX3_doChip_7 rfl e_X3_12 (by decide) (o_X3 s R) rfl ?_
  refine aw_aload_n (q := 11) dX3_doChip_10 rfl rfl ?_
  refine aw_getr (q := 14) dX3_doChip_11 rfl e_X3_22 (by decide) (o_X3 s R) rfl ?_
  refine aw_iconst (q := 15) (v := 0) dX3_doChip_14 rfl (by decide) ?_
  refine aw_iald' (q := 16) (v := s.1 63 0) dX3_doChip_15 rfl (by decide) (o_X3a2 s R) (zin_in (by decide)) rfl ?_
  refine aw_aload_n (q := 17) dX3_doChip_16 rfl rfl ?_
  refine aw_getr (q := 20) dX3_doChip_17 rfl e_X3_22 (by decide) (o_X3 s R) rfl ?_
  refine aw_iconst (q := 21) (v := 1) dX3_doChip_20 rfl (by decide) ?_
  refine aw_iald' (q := 22) (v := s.1 63 1) dX3_doChip_21 rfl (by decide) (o_X3a2 s R) (zin_in (by decide)) rfl ?_
  refine aw_iload_n (q := 23) dX3_doChip_22 rfl rfl ?_
  refine aw_cv (M' := M_X0_refusalOfChip) (as := [.int (s.1 63 0), .int (s.1 63 1), .int v1]) (q := 26) dX3_doChip_23 rfl W_X0_refusalOfChip k_X3_158 i_X0_refusalOfChip v_X0_refusalOfChip (zB_lt0 zB52) (o_X0 zB52 s R) rfl rfl rfl (by decide) (Nat.le_of_ble_eq_true rfl) (c_X0_refusalOfChip s R zB52 (s.1 63 0) (s.1 63 1) v1) (Nat.le_refl _) (Nat.le_refl _) ?_
  rintro r9 h9 ⟨rfl, rfl⟩
  obtain ⟨y2, q3, H⟩ := zltd H
  refine aw_nm q3 ?_
  refine aw_istore_n (q := 27) (L' := [some (.ref 51), some (.int v1), some (.int y2)]) dX3_doChip_26 rfl (by decide) rfl rfl ?_
  refine aw_iload_n (q := 28) dX3_doChip_27 rfl rfl ?_
  refine aw_if_neP (q := 31) (t := 52) dX3_doChip_28 rfl (by decide) (fun h4 => ?_) (fun h4 => ?_)
  · replace H := zt h4 H
    refine aw_aload_n (q := 32) dX3_doChip_31 rfl rfl ?_
    refine aw_getr (q := 35) dX3_doChip_32 rfl e_X3_12 (by decide) (o_X3 s R) rfl ?_
    refine aw_aload_n (q := 36) dX3_doChip_35 rfl rfl ?_
    refine aw_getr (q := 39) dX3_doChip_36 rfl e_X3_22 (by decide) (o_X3 s R) rfl ?_
    refine aw_iconst (q := 40) (v := 0) dX3_doChip_39 rfl (by decide) ?_
    refine aw_iald' (q := 41) (v := s.1 63 0) dX3_doChip_40 rfl (by decide) (o_X3a2 s R) (zin_in (by decide)) rfl ?_
    refine aw_aload_n (q := 42) dX3_doChip_41 rfl rfl ?_
    refine aw_getr (q := 45) dX3_doChip_42 rfl e_X3_22 (by decide) (o_X3 s R) rfl ?_
    refine aw_iconst (q := 46) (v := 1) dX3_doChip_45 rfl (by decide) ?_
    refine aw_iald' (q := 47) (v := s.1 63 1) dX3_doChip_46 rfl (by decide) (o_X3a2 s R) (zin_in (by decide)) rfl ?_
    refine aw_iload_n (q := 48) dX3_doChip_47 rfl rfl ?_
    obtain ⟨v5, hv5, H⟩ := zbd H
    refine aw_cv (M' := M_X0_addChip) (as := [.int (s.1 63 0), .int (s.1 63 1), .int v1]) (q := 51) dX3_doChip_48 rfl W_X0_addChip k_X3_161 i_X0_addChip v_X0_addChip (zB_lt0 zB52) (o_X0 zB52 s R) rfl rfl rfl (by decide) (Nat.le_of_ble_eq_true rfl) (c_X0_addChip s R zB52 (s.1 63 0) (s.1 63 1) v1 hv5) (Nat.le_refl _) (Nat.le_refl _) ?_
    rintro r9 h9 ⟨rfl, rfl⟩
    refine aw_pop (q := 52) dX3_doChip_51 rfl rfl ?_
    refine aw_iload_n (q := 53) dX3_doChip_52 rfl rfl ?_
    cases H
    exact aw_ret dX3_doChip_53 rfl rfl rfl rfl ⟨rfl, rfl⟩
  · replace H := zf h4 H
    refine aw_iload_n (q := 53) dX3_doChip_52 rfl rfl ?_
    cases H
    exact aw_ret dX3_doChip_53 rfl rfl rfl rfl ⟨rfl, rfl⟩
