def f_X7_findsLikes_19 : Nat → zr → Int32 → Int32 → Option (zr)
  | 0, _, _, _ => none
  | k + 1, s, x1, x2 =>
    if (10 : Int32) < x2 then (
      some s
    ) else (
      if f_X7_isBoard s x2 = true then (
        Option.bind (f_X7_likeSet s x2) fun v3 =>
        if zin ((x1 * 11) + x2) 77 = true then
        zlt (zm s 5 (((x1 * 11) + x2).toNatClampNeg) v3) fun s5 =>
        f_X7_findsLikes_19 k s5 x1 (x2 + 1)
        else none
      ) else (
        if zin ((x1 * 11) + x2) 77 = true then
        zlt (zm s 5 (((x1 * 11) + x2).toNatClampNeg) 0) fun s8 =>
        f_X7_findsLikes_19 k s8 x1 (x2 + 1)
        else none
      )
    )
set_option maxHeartbeats 4000000 in
set_option maxRecDepth 100000 in
theorem L_X7_findsLikes_19 {G : zG} {sl : Nat} {P : Option Value → zH → Prop} (sg : zs) (x1 : Int32) : ∀ (k : Nat) (s : zr) (x2 : Int32) (e : zr), f_X7_findsLikes_19 k s x1 x2 = some e → (AV G M_X7_findsLikes 9 sl P 59 [some (.ref 120), some (.int x1), none] [] (zT sg e)) → AV G M_X7_findsLikes 9 sl P 19 [some (.ref 120), some (.int x1), some (.int x2)] [] (zT sg s) := by
  intro k
  induction k with
  | zero =>
    intro s x2 e H
    unfold f_X7_findsLikes_19 at H
    cases H
  | succ k ih =>
    intro s x2 e H KE
    unfold f_X7_findsLikes_19 at H
    refine aw_iload_n (q := 20) dX7_findsLikes_19 rfl rfl ?_
    refine aw_bipush (q := 22) (v := 10) dX7_findsLikes_20 rfl (by decide) ?_
    refine aw_icmp_gt (q := 25) (t := 59) dX7_findsLikes_22 rfl (by decide) (fun h1 => ?_) (fun h1 => ?_)
    · replace H := zt h1 H
      cases H
      exact aw_fewer (L' := [some (.ref 120), some (.int x1), none]) ⟨rfl, ⟨rfl, trivial⟩⟩ KE
    · replace H := zf h1 H
      refine aw_aload_n (q := 26) dX7_findsLikes_25 rfl rfl ?_
      refine aw_getr (q := 29) dX7_findsLikes_26 rfl e_X7_22 (by decide) (o_X7 sg s) rfl ?_
      refine aw_iload_n (q := 30) dX7_findsLikes_29 rfl rfl ?_
      refine aw_bipush (q := 32) (v := 11) dX7_findsLikes_30 rfl (by decide) ?_
      refine aw_imul (q := 33) dX7_findsLikes_32 rfl ?_
      refine aw_iload_n (q := 34) dX7_findsLikes_33 rfl rfl ?_
      refine aw_iadd (q := 35) dX7_findsLikes_34 rfl ?_
      refine aw_aload_n (q := 36) dX7_findsLikes_35 rfl rfl ?_
      refine aw_iload_n (q := 37) dX7_findsLikes_36 rfl rfl ?_
      refine aw_cv (M' := M_X7_isBoard) (as := [.int x2]) (q := 40) dX7_findsLikes_37 rfl W_X7_isBoard k_X7_134 i_X7_isBoard v_X7_isBoard (by decide) (o_X7 sg s) rfl rfl rfl (by decide) (Nat.le_of_ble_eq_true rfl) (c_X7_isBoard sg s x2) (Nat.le_refl _) (Nat.le_refl _) ?_
      rintro r9 h9 ⟨rfl, rfl⟩
      refine aw_ifeqB (q := 43) (t := 51) dX7_findsLikes_40 rfl (by decide) (fun h2 => ?_) (fun h2 => ?_)
      · replace H := zt h2 H
        refine aw_aload_n (q := 44) dX7_findsLikes_43 rfl rfl ?_
        refine aw_iload_n (q := 45) dX7_findsLikes_44 rfl rfl ?_
        obtain ⟨v3, hv3, H⟩ := zbd H
        refine aw_cv (M' := M_X7_likeSet) (as := [.int x2]) (q := 48) dX7_findsLikes_45 rfl W_X7_likeSet k_X7_160 i_X7_likeSet v_X7_likeSet (by decide) (o_X7 sg s) rfl rfl rfl (by decide) (Nat.le_of_ble_eq_true rfl) (c_X7_likeSet sg s x2 hv3) (Nat.le_refl _) (Nat.le_refl _) ?_
        rintro r9 h9 ⟨rfl, rfl⟩
        refine aw_goto (q := 52) dX7_findsLikes_48 (by decide) ?_
        obtain ⟨h4, H⟩ := zio H
        obtain ⟨s5, q6, H⟩ := zltd H
        refine aw_iast (q := 53) dX7_findsLikes_52 rfl (by decide) (o_X7a5 sg s) (zin_in h4) ((p_X7a5).trans (congrArg (fun z => zT sg z) q6.symm)) ?_
        refine aw_iinc (q := 56) (v := x2 + 1) (L' := [some (.ref 120), some (.int x1), some (.int (x2 + 1))]) dX7_findsLikes_53 rfl rfl (by first | rfl | decide) (by decide) rfl rfl ?_
        refine aw_goto (q := 19) dX7_findsLikes_56 (by decide) ?_
        exact aw_fewer (L' := [some (.ref 120), some (.int x1), some (.int (x2 + 1))]) ⟨rfl, ⟨rfl, ⟨rfl, trivial⟩⟩⟩ (ih s5 (x2 + 1) _ H KE)
      · replace H := zf h2 H
        refine aw_iconst (q := 52) (v := 0) dX7_findsLikes_51 rfl (by decide) ?_
        obtain ⟨h7, H⟩ := zio H
        obtain ⟨s8, q9, H⟩ := zltd H
        refine aw_iast (q := 53) dX7_findsLikes_52 rfl (by decide) (o_X7a5 sg s) (zin_in h7) ((p_X7a5).trans (congrArg (fun z => zT sg z) q9.symm)) ?_
        refine aw_iinc (q := 56) (v := x2 + 1) (L' := [some (.ref 120), some (.int x1), some (.int (x2 + 1))]) dX7_findsLikes_53 rfl rfl (by first | rfl | decide) (by decide) rfl rfl ?_
        refine aw_goto (q := 19) dX7_findsLikes_56 (by decide) ?_
        exact aw_fewer (L' := [some (.ref 120), some (.int x1), some (.int (x2 + 1))]) ⟨rfl, ⟨rfl, ⟨rfl, trivial⟩⟩⟩ (ih s8 (x2 + 1) _ H KE)
def f_X7_findsLikes_2 : Nat → zr → Int32 → Option (zr)
  | 0, _, _ => none
  | k + 1, s, x1 =>
    if (7 : Int32) ≤ x1 then (
      some s
    ) else (
      Option.bind (f_X7_touchedOn s x1) fun v2 =>
      Option.bind (f_X7_measures s v2) fun v3 =>
      Option.bind (f_X7_findsLikes_19 zFu v3 x1 0) fun e4 =>
      f_X7_findsLikes_2 k e4 (x1 + 1)
    )
set_option maxHeartbeats 4000000 in
set_option maxRecDepth 100000 in
theorem L_X7_findsLikes_2 {G : zG} {sl : Nat} {P : Option Value → zH → Prop} (sg : zs)  : ∀ (k : Nat) (s : zr) (x1 : Int32) (e : zr), f_X7_findsLikes_2 k s x1 = some e → (AV G M_X7_findsLikes 9 sl P 65 [none, none, none] [] (zT sg e)) → AV G M_X7_findsLikes 9 sl P 2 [some (.ref 120), some (.int x1), none] [] (zT sg s) := by
  intro k
  induction k with
  | zero =>
    intro s x1 e H
    unfold f_X7_findsLikes_2 at H
    cases H
  | succ k ih =>
    intro s x1 e H KE
    unfold f_X7_findsLikes_2 at H
    refine aw_iload_n (q := 3) dX7_findsLikes_2 rfl rfl ?_
    refine aw_bipush (q := 5) (v := 7) dX7_findsLikes_3 rfl (by decide) ?_
    refine aw_icmp_ge (q := 8) (t := 65) dX7_findsLikes_5 rfl (by decide) (fun h1 => ?_) (fun h1 => ?_)
    · replace H := zt h1 H
      cases H
      exact aw_fewer (L' := [none, none, none]) trivial KE
    · replace H := zf h1 H
      refine aw_aload_n (q := 9) dX7_findsLikes_8 rfl rfl ?_
      refine aw_aload_n (q := 10) dX7_findsLikes_9 rfl rfl ?_
      refine aw_iload_n (q := 11) dX7_findsLikes_10 rfl rfl ?_
      obtain ⟨v2, hv2, H⟩ := zbd H
      refine aw_cv (M' := M_X7_touchedOn) (as := [.int x1]) (q := 14) dX7_findsLikes_11 rfl W_X7_touchedOn k_X7_90 i_X7_touchedOn v_X7_touchedOn (by decide) (o_X7 sg s) rfl rfl rfl (by decide) (Nat.le_of_ble_eq_true rfl) (c_X7_touchedOn sg s x1 hv2) (Nat.le_refl _) (Nat.le_refl _) ?_
      rintro r9 h9 ⟨rfl, rfl⟩
      obtain ⟨v3, hv3, H⟩ := zbd H
      refine aw_cv (M' := M_X7_measures) (as := [.int v2]) (q := 17) dX7_findsLikes_14 rfl W_X7_measures k_X7_156 i_X7_measures v_X7_measures (by decide) (o_X7 sg s) rfl rfl rfl (by decide) (Nat.le_of_ble_eq_true rfl) (c_X7_measures sg s v2 hv3) (Nat.le_refl _) (Nat.le_refl _) ?_
      rintro r9 h9 ⟨rfl, rfl⟩
      refine aw_iconst (q := 18) (v := 0) dX7_findsLikes_17 rfl (by decide) ?_
      refine aw_istore_n (q := 19) (L' := [some (.ref 120), some (.int x1), some (.int 0)]) dX7_findsLikes_18 rfl (by decide) rfl rfl ?_
      obtain ⟨e4, he4, H⟩ := zbd H
      refine aw_fewer (L' := [some (.ref 120), some (.int x1), some (.int 0)]) ⟨rfl, ⟨rfl, ⟨rfl, trivial⟩⟩⟩ ?_
      refine L_X7_findsLikes_19 sg x1 zFu v3 0 e4 he4 ?_
      refine aw_iinc (q := 62) (v := x1 + 1) (L' := [some (.ref 120), some (.int (x1 + 1)), none]) dX7_findsLikes_59 rfl rfl (by first | rfl | decide) (by decide) rfl rfl ?_
      refine aw_goto (q := 2) dX7_findsLikes_62 (by decide) ?_
      exact aw_fewer (L' := [some (.ref 120), some (.int (x1 + 1)), none]) ⟨rfl, ⟨rfl, trivial⟩⟩ (ih e4 (x1 + 1) _ H KE)
def f_X7_findsLikes (s : zr) : Option zr :=
  Option.bind (f_X7_findsLikes_2 zFu s 0) fun e1 =>
  some e1
set_option maxHeartbeats 4000000 in
set_option maxRecDepth 100000 in
theorem c_X7_findsLikes {G : zG} {sl : Nat} (sg : zs) (s : zr)  {v9 : zr} (H : f_X7_findsLikes s = some v9) : zMv G 9 M_X7_findsLikes [.ref 120] sl (zT sg s) (fun r h' => r = none ∧ h' = zT sg v9) := by
  unfold f_X7_findsLikes at H
  refine zMv_of (L := [some (.ref 120), none, none]) (by decide) rfl (Nat.le_of_ble_eq_true rfl) rfl ?_
  refine aw_iconst (q := 1) (v := 0) dX7_findsLikes_0 rfl (by decide) ?_
  refine aw_istore_n (q := 2) (L' := [some (.ref 120), some (.int 0), none]) dX7_findsLikes_1 rfl (by decide) rfl rfl ?_
  obtain ⟨e1, he1, H⟩ := zbd H
  refine aw_fewer (L' := [some (.ref 120), some (.int 0), none]) ⟨rfl, ⟨rfl, trivial⟩⟩ ?_
  refine L_X7_findsLikes_2 sg  zFu s 0 e1 he1 ?_
  cases H
  exact aw_vret dX7_findsLikes_65 rfl rfl rfl ⟨rfl, rfl⟩
def f_X7_areApart_6 : Nat → zr → Int32 → Int32 → Int32 → Bool → Int32 → Option (Bool)
  | 0, _, _, _, _, _, _ => none
  | k + 1, s, x1, x2, x3, x4, x5 =>
    if (7 : Int32) ≤ x5 then (
      some x4
    ) else (
      if x4 = true then (
        f_X7_areApart_6 k s x1 x2 x3 true (x5 + 1)
      ) else (
        if f_X7_has x3 x5 = true then (
          if zin ((x5 * 11) + x1) 77 = true then
          if f_X7_has (s 5 (((x5 * 11) + x1).toNatClampNeg)) x2 = true then (
            f_X7_areApart_6 k s x1 x2 x3 false (x5 + 1)
          ) else (
            f_X7_areApart_6 k s x1 x2 x3 true (x5 + 1)
          )
          else none
        ) else (
          f_X7_areApart_6 k s x1 x2 x3 false (x5 + 1)
        )
      )
    )
set_option maxHeartbeats 4000000 in
set_option maxRecDepth 100000 in
theorem L_X7_areApart_6 {G : zG} {sl : Nat} {P : Option Value → zH → Prop} (sg : zs) (x1 : Int32) (x2 : Int32) (x3 : Int32) : ∀ (k : Nat) (s : zr) (x4 : Bool) (x5 : Int32) (e : Bool), f_X7_areApart_6 k s x1 x2 x3 x4 x5 = some e → (AV G M_X7_areApart 1 sl P 59 [none, none, none, none, some (.int (zb e)), none] [] (zT sg s)) → AV G M_X7_areApart 1 sl P 6 [some (.ref 120), some (.int x1), some (.int x2), some (.int x3), some (.int (zb x4)), some (.int x5)] [] (zT sg s) := by
  intro k
  induction k with
  | zero =>
    intro s x4 x5 e H
    unfold f_X7_areApart_6 at H
    cases H
  | succ k ih =>
    intro s x4 x5 e H KE
    unfold f_X7_areApart_6 at H
    refine aw_iload (q := 8) dX7_areApart_6 rfl rfl ?_
    refine aw_bipush (q := 10) (v := 7) dX7_areApart_8 rfl (by decide) ?_
    refine aw_icmp_ge (q := 13) (t := 59) dX7_areApart_10 rfl (by decide) (fun h1 => ?_) (fun h1 => ?_)
    · replace H := zt h1 H
      cases H
      exact aw_fewer (L' := [none, none, none, none, some (.int (zb x4)), none]) ⟨rfl, trivial⟩ KE
    · replace H := zf h1 H
      refine aw_iload (q := 15) dX7_areApart_13 rfl rfl ?_
      refine aw_ifneB (q := 18) (t := 46) dX7_areApart_15 rfl (by decide) (fun h2 => ?_) (fun h2 => ?_)
      · replace H := zt h2 H
        refine aw_iconst (q := 47) (v := 1) dX7_areApart_46 rfl (by decide) ?_
        refine aw_goto (q := 51) dX7_areApart_47 (by decide) ?_
        refine aw_istore (q := 53) (L' := [some (.ref 120), some (.int x1), some (.int x2), some (.int x3), some (.int 1), some (.int x5)]) dX7_areApart_51 rfl (by decide) rfl rfl ?_
        refine aw_iinc (q := 56) (v := x5 + 1) (L' := [some (.ref 120), some (.int x1), some (.int x2), some (.int x3), some (.int 1), some (.int (x5 + 1))]) dX7_areApart_53 rfl rfl (by first | rfl | decide) (by decide) rfl rfl ?_
        refine aw_goto (q := 6) dX7_areApart_56 (by decide) ?_
        exact aw_fewer (L' := [some (.ref 120), some (.int x1), some (.int x2), some (.int x3), some (.int (zb true)), some (.int (x5 + 1))]) ⟨rfl, ⟨rfl, ⟨rfl, ⟨rfl, ⟨rfl, ⟨rfl, trivial⟩⟩⟩⟩⟩⟩ (ih s true (x5 + 1) _ H KE)
      · replace H := zf h2 H
        refine aw_iload_n (q := 19) dX7_areApart_18 rfl rfl ?_
        refine aw_iload (q := 21) dX7_areApart_19 rfl rfl ?_
        refine aw_cs (M' := M_X7_has) (as := [.int x3, .int x5]) (q := 24) dX7_areApart_21 rfl W_X7_has k_X7_36 s_X7_has rfl rfl (by decide) (Nat.le_of_ble_eq_true rfl) (c_X7_has (zT sg s) x3 x5) (Nat.le_refl _) (Nat.le_refl _) ?_
        rintro r9 h9 ⟨rfl, rfl⟩
        refine aw_ifeqB (q := 27) (t := 50) dX7_areApart_24 rfl (by decide) (fun h3 => ?_) (fun h3 => ?_)
        · replace H := zt h3 H
          refine aw_aload_n (q := 28) dX7_areApart_27 rfl rfl ?_
          refine aw_getr (q := 31) dX7_areApart_28 rfl e_X7_22 (by decide) (o_X7 sg s) rfl ?_
          refine aw_iload (q := 33) dX7_areApart_31 rfl rfl ?_
          refine aw_bipush (q := 35) (v := 11) dX7_areApart_33 rfl (by decide) ?_
          refine aw_imul (q := 36) dX7_areApart_35 rfl ?_
          refine aw_iload_n (q := 37) dX7_areApart_36 rfl rfl ?_
          refine aw_iadd (q := 38) dX7_areApart_37 rfl ?_
          obtain ⟨h4, H⟩ := zio H
          refine aw_iald' (q := 39) (v := s 5 (((x5 * 11) + x1).toNatClampNeg)) dX7_areApart_38 rfl (by decide) (o_X7a5 sg s) (zin_in h4) rfl ?_
          refine aw_iload_n (q := 40) dX7_areApart_39 rfl rfl ?_
          refine aw_cs (M' := M_X7_has) (as := [.int (s 5 (((x5 * 11) + x1).toNatClampNeg)), .int x2]) (q := 43) dX7_areApart_40 rfl W_X7_has k_X7_36 s_X7_has rfl rfl (by decide) (Nat.le_of_ble_eq_true rfl) (c_X7_has (zT sg s) (s 5 (((x5 * 11) + x1).toNatClampNeg)) x2) (Nat.le_refl _) (Nat.le_refl _) ?_
          rintro r9 h9 ⟨rfl, rfl⟩
          refine aw_ifneB (q := 46) (t := 50) dX7_areApart_43 rfl (by decide) (fun h5 => ?_) (fun h5 => ?_)
          · replace H := zt h5 H
            refine aw_iconst (q := 51) (v := 0) dX7_areApart_50 rfl (by decide) ?_
            refine aw_istore (q := 53) (L' := [some (.ref 120), some (.int x1), some (.int x2), some (.int x3), some (.int 0), some (.int x5)]) dX7_areApart_51 rfl (by decide) rfl rfl ?_
            refine aw_iinc (q := 56) (v := x5 + 1) (L' := [some (.ref 120), some (.int x1), some (.int x2), some (.int x3), some (.int 0), some (.int (x5 + 1))]) dX7_areApart_53 rfl rfl (by first | rfl | decide) (by decide) rfl rfl ?_
            refine aw_goto (q := 6) dX7_areApart_56 (by decide) ?_
            exact aw_fewer (L' := [some (.ref 120), some (.int x1), some (.int x2), some (.int x3), some (.int (zb false)), some (.int (x5 + 1))]) ⟨rfl, ⟨rfl, ⟨rfl, ⟨rfl, ⟨rfl, ⟨rfl, trivial⟩⟩⟩⟩⟩⟩ (ih s false (x5 + 1) _ H KE)
          · replace H := zf h5 H
            refine aw_iconst (q := 47) (v := 1) dX7_areApart_46 rfl (by decide) ?_
            refine aw_goto (q := 51) dX7_areApart_47 (by decide) ?_
            refine aw_istore (q := 53) (L' := [some (.ref 120), some (.int x1), some (.int x2), some (.int x3), some (.int 1), some (.int x5)]) dX7_areApart_51 rfl (by decide) rfl rfl ?_
            refine aw_iinc (q := 56) (v := x5 + 1) (L' := [some (.ref 120), some (.int x1), some (.int x2), some (.int x3), some (.int 1), some (.int (x5 + 1))]) dX7_areApart_53 rfl rfl (by first | rfl | decide) (by decide) rfl rfl ?_
            refine aw_goto (q := 6) dX7_areApart_56 (by decide) ?_
            exact aw_fewer (L' := [some (.ref 120), some (.int x1), some (.int x2), some (.int x3), some (.int (zb true)), some (.int (x5 + 1))]) ⟨rfl, ⟨rfl, ⟨rfl, ⟨rfl, ⟨rfl, ⟨rfl, trivial⟩⟩⟩⟩⟩⟩ (ih s true (x5 + 1) _ H KE)
        · replace H := zf h3 H
          refine aw_iconst (q := 51) (v := 0) dX7_areApart_50 rfl (by decide) ?_
          refine aw_istore (q := 53) (L' := [some (.ref 120), some (.int x1), some (.int x2), some (.int x3), some (.int 0), some (.int x5)]) dX7_areApart_51 rfl (by decide) rfl rfl ?_
          refine aw_iinc (q := 56) (v := x5 + 1) (L' := [some (.ref 120), some (.int x1), some (.int x2), some (.int x3), some (.int 0), some (.int (x5 + 1))]) dX7_areApart_53 rfl rfl (by first | rfl | decide) (by decide) rfl rfl ?_
          refine aw_goto (q := 6) dX7_areApart_56 (by decide) ?_
          exact aw_fewer (L' := [some (.ref 120), some (.int x1), some (.int x2), some (.int x3), some (.int (zb false)), some (.int (x5 + 1))]) ⟨rfl, ⟨rfl, ⟨rfl, ⟨rfl, ⟨rfl, ⟨rfl, trivial⟩⟩⟩⟩⟩⟩ (ih s false (x5 + 1) _ H KE)
def f_X7_areApart (s : zr) (x1 : Int32) (x2 : Int32) (x3 : Int32) : Option Bool :=
  Option.bind (f_X7_areApart_6 zFu s x1 x2 x3 false 0) fun e1 =>
  some e1
set_option maxHeartbeats 4000000 in
set_option maxRecDepth 100000 in
theorem c_X7_areApart {G : zG} {sl : Nat} (sg : zs) (s : zr) (x1 : Int32) (x2 : Int32) (x3 : Int32) {v9 : Bool} (H : f_X7_areApart s x1 x2 x3 = some v9) : zMv G 1 M_X7_areApart [.ref 120, .int x1, .int x2, .int x3] sl (zT sg s) (fun r h' => r = some (.int (zb v9)) ∧ h' = (zT sg s)) := by
  unfold f_X7_areApart at H
  refine zMv_of (L := [some (.ref 120), some (.int x1), some (.int x2), some (.int x3), none, none]) (by decide) rfl (Nat.le_of_ble_eq_true rfl) rfl ?_
  refine aw_iconst (q := 1) (v := 0) dX7_areApart_0 rfl (by decide) ?_
  refine aw_istore (q := 3) (L' := [some (.ref 120), some (.int x1), some (.int x2), some (.int x3), some (.int 0), none]) dX7_areApart_1 rfl (by decide) rfl rfl ?_
  refine aw_iconst (q := 4) (v := 0) dX7_areApart_3 rfl (by decide) ?_
  refine aw_istore (q := 6) (L' := [some (.ref 120), some (.int x1), some (.int x2), some (.int x3), some (.int 0), some (.int 0)]) dX7_areApart_4 rfl (by decide) rfl rfl ?_
  obtain ⟨e1, he1, H⟩ := zbd H
  refine aw_fewer (L' := [some (.ref 120), some (.int x1), some (.int x2), some (.int x3), some (.int (zb false)), some (.int 0)]) ⟨rfl, ⟨rfl, ⟨rfl, ⟨rfl, ⟨rfl, ⟨rfl, trivial⟩⟩⟩⟩⟩⟩ ?_
  refine L_X7_areApart_6 sg x1 x2 x3 zFu s false 0 e1 he1 ?_
  refine aw_iload (q := 61) dX7_areApart_59 rfl rfl ?_
  cases H
  exact aw_retB dX7_areApart_61 rfl rfl rfl ⟨rfl, rfl⟩
def f_X7_doesAll_18 : Nat → zr → Int32 → Int32 → Int32 → Bool → Int32 → Option (Bool)
  | 0, _, _, _, _, _, _ => none
  | k + 1, s, x1, x2, x4, x3, x5 =>
    if (10 : Int32) < x5 then (
      some x3
    ) else (
      if f_X7_isBoard s x4 = true then (
        if f_X7_isBoard s x5 = true then (
          if x1 = 1 then (
            if x3 = true then (
              Option.bind (f_X7_areApart s x4 x5 x2) fun v6 =>
              if v6 = true then (
                f_X7_doesAll_18 k s x1 x2 x4 true (x5 + 1)
              ) else (
                Option.bind (f_X7_areApart s x4 x5 127) fun v8 =>
                if v8 = true then (
                  f_X7_doesAll_18 k s x1 x2 x4 false (x5 + 1)
                ) else (
                  f_X7_doesAll_18 k s x1 x2 x4 true (x5 + 1)
                )
              )
            ) else (
              f_X7_doesAll_18 k s x1 x2 x4 false (x5 + 1)
            )
          ) else (
            if x5 = 10 then (
              if x3 = true then (
                Option.bind (f_X7_areApart s x4 x5 x2) fun v12 =>
                if v12 = true then (
                  f_X7_doesAll_18 k s x1 x2 x4 true (x5 + 1)
                ) else (
                  Option.bind (f_X7_areApart s x4 x5 127) fun v14 =>
                  if v14 = true then (
                    f_X7_doesAll_18 k s x1 x2 x4 false (x5 + 1)
                  ) else (
                    f_X7_doesAll_18 k s x1 x2 x4 true (x5 + 1)
                  )
                )
              ) else (
                f_X7_doesAll_18 k s x1 x2 x4 false (x5 + 1)
              )
            ) else (
              if x3 = true then (
                f_X7_doesAll_18 k s x1 x2 x4 true (x5 + 1)
              ) else (
                f_X7_doesAll_18 k s x1 x2 x4 false (x5 + 1)
              )
            )
          )
        ) else (
          if x3 = true then (
            f_X7_doesAll_18 k s x1 x2 x4 true (x5 + 1)
          ) else (
            f_X7_doesAll_18 k s x1 x2 x4 false (x5 + 1)
          )
        )
      ) else (
        if x3 = true then (
          f_X7_doesAll_18 k s x1 x2 x4 true (x5 + 1)
        ) else (
          f_X7_doesAll_18 k s x1 x2 x4 false (x5 + 1)
        )
      )
    )
set_option maxHeartbeats 4000000 in
set_option maxRecDepth 100000 in
theorem L_X7_doesAll_18 {G : zG} {sl : Nat} {P : Option Value → zH → Prop} (sg : zs) (x1 : Int32) (x2 : Int32) (x4 : Int32) : ∀ (k : Nat) (s : zr) (x3 : Bool) (x5 : Int32) (e : Bool), f_X7_doesAll_18 k s x1 x2 x4 x3 x5 = some e → (AV G M_X7_doesAll 2 sl P 108 [some (.ref 120), some (.int x1), some (.int x2), some (.int (zb e)), some (.int x4), none, none] [] (zT sg s)) → AV G M_X7_doesAll 2 sl P 18 [some (.ref 120), some (.int x1), some (.int x2), some (.int (zb x3)), some (.int x4), some (.int x5), none] [] (zT sg s) := by
  intro k
  induction k with
  | zero =>
    intro s x3 x5 e H
    unfold f_X7_doesAll_18 at H
    cases H
  | succ k ih =>
    intro s x3 x5 e H KE
    unfold f_X7_doesAll_18 at H
    refine aw_iload (q := 20) dX7_doesAll_18 rfl rfl ?_
    refine aw_bipush (q := 22) (v := 10) dX7_doesAll_20 rfl (by decide) ?_
    refine aw_icmp_gt (q := 25) (t := 108) dX7_doesAll_22 rfl (by decide) (fun h1 => ?_) (fun h1 => ?_)
    · replace H := zt h1 H
      cases H
      exact aw_fewer (L' := [some (.ref 120), some (.int x1), some (.int x2), some (.int (zb x3)), some (.int x4), none, none]) ⟨rfl, ⟨rfl, ⟨rfl, ⟨rfl, ⟨rfl, trivial⟩⟩⟩⟩⟩ KE
    · replace H := zf h1 H
      refine aw_aload_n (q := 26) dX7_doesAll_25 rfl rfl ?_
      refine aw_iload (q := 28) dX7_doesAll_26 rfl rfl ?_
      refine aw_cv (M' := M_X7_isBoard) (as := [.int x4]) (q := 31) dX7_doesAll_28 rfl W_X7_isBoard k_X7_134 i_X7_isBoard v_X7_isBoard (by decide) (o_X7 sg s) rfl rfl rfl (by decide) (Nat.le_of_ble_eq_true rfl) (c_X7_isBoard sg s x4) (Nat.le_refl _) (Nat.le_refl _) ?_
      rintro r9 h9 ⟨rfl, rfl⟩
      refine aw_ifeqB (q := 34) (t := 59) dX7_doesAll_31 rfl (by decide) (fun h2 => ?_) (fun h2 => ?_)
      · replace H := zt h2 H
        refine aw_aload_n (q := 35) dX7_doesAll_34 rfl rfl ?_
        refine aw_iload (q := 37) dX7_doesAll_35 rfl rfl ?_
        refine aw_cv (M' := M_X7_isBoard) (as := [.int x5]) (q := 40) dX7_doesAll_37 rfl W_X7_isBoard k_X7_134 i_X7_isBoard v_X7_isBoard (by decide) (o_X7 sg s) rfl rfl rfl (by decide) (Nat.le_of_ble_eq_true rfl) (c_X7_isBoard sg s x5) (Nat.le_refl _) (Nat.le_refl _) ?_
        rintro r9 h9 ⟨rfl, rfl⟩
        refine aw_ifeqB (q := 43) (t := 59) dX7_doesAll_40 rfl (by decide) (fun h3 => ?_) (fun h3 => ?_)
        · replace H := zt h3 H
          refine aw_iload_n (q := 44) dX7_doesAll_43 rfl rfl ?_
          refine aw_iconst (q := 45) (v := 1) dX7_doesAll_44 rfl (by decide) ?_
          refine aw_icmp_eq (q := 48) (t := 55) dX7_doesAll_45 rfl (by decide) (fun h4 => ?_) (fun h4 => ?_)
          · replace H := zt h4 H
            refine aw_iconst (q := 56) (v := 1) dX7_doesAll_55 rfl (by decide) ?_
            refine aw_goto (q := 60) dX7_doesAll_56 (by decide) ?_
            refine aw_istore (q := 62) (L' := [some (.ref 120), some (.int x1), some (.int x2), some (.int (zb x3)), some (.int x4), some (.int x5), some (.int 1)]) dX7_doesAll_60 rfl (by decide) rfl rfl ?_
            refine aw_iload_n (q := 63) dX7_doesAll_62 rfl rfl ?_
            refine aw_ifeqB (q := 66) (t := 100) dX7_doesAll_63 rfl (by decide) (fun h5 => ?_) (fun h5 => ?_)
            · replace H := zt h5 H
              refine aw_iload (q := 68) dX7_doesAll_66 rfl rfl ?_
              refine aw_if_eq (q := 71) (t := 96) dX7_doesAll_68 rfl (by decide) (fun z => absurd z (by decide)) (fun _ => ?_)
              refine aw_aload_n (q := 72) dX7_doesAll_71 rfl rfl ?_
              refine aw_iload (q := 74) dX7_doesAll_72 rfl rfl ?_
              refine aw_iload (q := 76) dX7_doesAll_74 rfl rfl ?_
              refine aw_iload_n (q := 77) dX7_doesAll_76 rfl rfl ?_
              obtain ⟨v6, hv6, H⟩ := zbd H
              refine aw_cv (M' := M_X7_areApart) (as := [.int x4, .int x5, .int x2]) (q := 80) dX7_doesAll_77 rfl W_X7_areApart k_X7_163 i_X7_areApart v_X7_areApart (by decide) (o_X7 sg s) rfl rfl rfl (by decide) (Nat.le_of_ble_eq_true rfl) (c_X7_areApart sg s x4 x5 x2 hv6) (Nat.le_refl _) (Nat.le_refl _) ?_
              rintro r9 h9 ⟨rfl, rfl⟩
              refine aw_ifneB (q := 83) (t := 96) dX7_doesAll_80 rfl (by decide) (fun h7 => ?_) (fun h7 => ?_)
              · replace H := zt h7 H
                refine aw_iconst (q := 97) (v := 1) dX7_doesAll_96 rfl (by decide) ?_
                refine aw_goto (q := 101) dX7_doesAll_97 (by decide) ?_
                refine aw_istore_n (q := 102) (L' := [some (.ref 120), some (.int x1), some (.int x2), some (.int 1), some (.int x4), some (.int x5), some (.int 1)]) dX7_doesAll_101 rfl (by decide) rfl rfl ?_
                refine aw_iinc (q := 105) (v := x5 + 1) (L' := [some (.ref 120), some (.int x1), some (.int x2), some (.int 1), some (.int x4), some (.int (x5 + 1)), some (.int 1)]) dX7_doesAll_102 rfl rfl (by first | rfl | decide) (by decide) rfl rfl ?_
                refine aw_goto (q := 18) dX7_doesAll_105 (by decide) ?_
                exact aw_fewer (L' := [some (.ref 120), some (.int x1), some (.int x2), some (.int (zb true)), some (.int x4), some (.int (x5 + 1)), none]) ⟨rfl, ⟨rfl, ⟨rfl, ⟨rfl, ⟨rfl, ⟨rfl, trivial⟩⟩⟩⟩⟩⟩ (ih s true (x5 + 1) _ H KE)
              · replace H := zf h7 H
                refine aw_aload_n (q := 84) dX7_doesAll_83 rfl rfl ?_
                refine aw_iload (q := 86) dX7_doesAll_84 rfl rfl ?_
                refine aw_iload (q := 88) dX7_doesAll_86 rfl rfl ?_
                refine aw_bipush (q := 90) (v := 127) dX7_doesAll_88 rfl (by decide) ?_
                obtain ⟨v8, hv8, H⟩ := zbd H
                refine aw_cv (M' := M_X7_areApart) (as := [.int x4, .int x5, .int 127]) (q := 93) dX7_doesAll_90 rfl W_X7_areApart k_X7_163 i_X7_areApart v_X7_areApart (by decide) (o_X7 sg s) rfl rfl rfl (by decide) (Nat.le_of_ble_eq_true rfl) (c_X7_areApart sg s x4 x5 127 hv8) (Nat.le_refl _) (Nat.le_refl _) ?_
                rintro r9 h9 ⟨rfl, rfl⟩
                refine aw_ifneB (q := 96) (t := 100) dX7_doesAll_93 rfl (by decide) (fun h9 => ?_) (fun h9 => ?_)
                · replace H := zt h9 H
                  refine aw_iconst (q := 101) (v := 0) dX7_doesAll_100 rfl (by decide) ?_
                  refine aw_istore_n (q := 102) (L' := [some (.ref 120), some (.int x1), some (.int x2), some (.int 0), some (.int x4), some (.int x5), some (.int 1)]) dX7_doesAll_101 rfl (by decide) rfl rfl ?_
                  refine aw_iinc (q := 105) (v := x5 + 1) (L' := [some (.ref 120), some (.int x1), some (.int x2), some (.int 0), some (.int x4), some (.int (x5 + 1)), some (.int 1)]) dX7_doesAll_102 rfl rfl (by first | rfl | decide) (by decide) rfl rfl ?_
                  refine aw_goto (q := 18) dX7_doesAll_105 (by decide) ?_
                  exact aw_fewer (L' := [some (.ref 120), some (.int x1), some (.int x2), some (.int (zb false)), some (.int x4), some (.int (x5 + 1)), none]) ⟨rfl, ⟨rfl, ⟨rfl, ⟨rfl, ⟨rfl, ⟨rfl, trivial⟩⟩⟩⟩⟩⟩ (ih s false (x5 + 1) _ H KE)
                · replace H := zf h9 H
                  refine aw_iconst (q := 97) (v := 1) dX7_doesAll_96 rfl (by decide) ?_
                  refine aw_goto (q := 101) dX7_doesAll_97 (by decide) ?_
                  refine aw_istore_n (q := 102) (L' := [some (.ref 120), some (.int x1), some (.int x2), some (.int 1), some (.int x4), some (.int x5), some (.int 1)]) dX7_doesAll_101 rfl (by decide) rfl rfl ?_
                  refine aw_iinc (q := 105) (v := x5 + 1) (L' := [some (.ref 120), some (.int x1), some (.int x2), some (.int 1), some (.int x4), some (.int (x5 + 1)), some (.int 1)]) dX7_doesAll_102 rfl rfl (by first | rfl | decide) (by decide) rfl rfl ?_
                  refine aw_goto (q := 18) dX7_doesAll_105 (by decide) ?_
                  exact aw_fewer (L' := [some (.ref 120), some (.int x1), some (.int x2), some (.int (zb true)), some (.int x4), some (.int (x5 + 1)), none]) ⟨rfl, ⟨rfl, ⟨rfl, ⟨rfl, ⟨rfl, ⟨rfl, trivial⟩⟩⟩⟩⟩⟩ (ih s true (x5 + 1) _ H KE)
            · replace H := zf h5 H
              refine aw_iconst (q := 101) (v := 0) dX7_doesAll_100 rfl (by decide) ?_
              refine aw_istore_n (q := 102) (L' := [some (.ref 120), some (.int x1), some (.int x2), some (.int 0), some (.int x4), some (.int x5), some (.int 1)]) dX7_doesAll_101 rfl (by decide) rfl rfl ?_
              refine aw_iinc (q := 105) (v := x5 + 1) (L' := [some (.ref 120), some (.int x1), some (.int x2), some (.int 0), some (.int x4), some (.int (x5 + 1)), some (.int 1)]) dX7_doesAll_102 rfl rfl (by first | rfl | decide) (by decide) rfl rfl ?_
              refine aw_goto (q := 18) dX7_doesAll_105 (by decide) ?_
              exact aw_fewer (L' := [some (.ref 120), some (.int x1), some (.int x2), some (.int (zb false)), some (.int x4), some (.int (x5 + 1)), none]) ⟨rfl, ⟨rfl, ⟨rfl, ⟨rfl, ⟨rfl, ⟨rfl, trivial⟩⟩⟩⟩⟩⟩ (ih s false (x5 + 1) _ H KE)
          · replace H := zf h4 H
            refine aw_iload (q := 50) dX7_doesAll_48 rfl rfl ?_
            refine aw_bipush (q := 52) (v := 10) dX7_doesAll_50 rfl (by decide) ?_
            refine aw_icmp_neP (q := 55) (t := 59) dX7_doesAll_52 rfl (by decide) (fun h10 => ?_) (fun h10 => ?_)
            · replace H := zt h10 H
              refine aw_iconst (q := 56) (v := 1) dX7_doesAll_55 rfl (by decide) ?_
              refine aw_goto (q := 60) dX7_doesAll_56 (by decide) ?_
              refine aw_istore (q := 62) (L' := [some (.ref 120), some (.int x1), some (.int x2), some (.int (zb x3)), some (.int x4), some (.int x5), some (.int 1)]) dX7_doesAll_60 rfl (by decide) rfl rfl ?_
              refine aw_iload_n (q := 63) dX7_doesAll_62 rfl rfl ?_
              refine aw_ifeqB (q := 66) (t := 100) dX7_doesAll_63 rfl (by decide) (fun h11 => ?_) (fun h11 => ?_)
              · replace H := zt h11 H
                refine aw_iload (q := 68) dX7_doesAll_66 rfl rfl ?_
                refine aw_if_eq (q := 71) (t := 96) dX7_doesAll_68 rfl (by decide) (fun z => absurd z (by decide)) (fun _ => ?_)
                refine aw_aload_n (q := 72) dX7_doesAll_71 rfl rfl ?_
                refine aw_iload (q := 74) dX7_doesAll_72 rfl rfl ?_
                refine aw_iload (q := 76) dX7_doesAll_74 rfl rfl ?_
                refine aw_iload_n (q := 77) dX7_doesAll_76 rfl rfl ?_
                obtain ⟨v12, hv12, H⟩ := zbd H
                refine aw_cv (M' := M_X7_areApart) (as := [.int x4, .int x5, .int x2]) (q := 80) dX7_doesAll_77 rfl W_X7_areApart k_X7_163 i_X7_areApart v_X7_areApart (by decide) (o_X7 sg s) rfl rfl rfl (by decide) (Nat.le_of_ble_eq_true rfl) (c_X7_areApart sg s x4 x5 x2 hv12) (Nat.le_refl _) (Nat.le_refl _) ?_
                rintro r9 h9 ⟨rfl, rfl⟩
                refine aw_ifneB (q := 83) (t := 96) dX7_doesAll_80 rfl (by decide) (fun h13 => ?_) (fun h13 => ?_)
                · replace H := zt h13 H
                  refine aw_iconst (q := 97) (v := 1) dX7_doesAll_96 rfl (by decide) ?_
                  refine aw_goto (q := 101) dX7_doesAll_97 (by decide) ?_
                  refine aw_istore_n (q := 102) (L' := [some (.ref 120), some (.int x1), some (.int x2), some (.int 1), some (.int x4), some (.int x5), some (.int 1)]) dX7_doesAll_101 rfl (by decide) rfl rfl ?_
                  refine aw_iinc (q := 105) (v := x5 + 1) (L' := [some (.ref 120), some (.int x1), some (.int x2), some (.int 1), some (.int x4), some (.int (x5 + 1)), some (.int 1)]) dX7_doesAll_102 rfl rfl (by first | rfl | decide) (by decide) rfl rfl ?_
                  refine aw_goto (q := 18) dX7_doesAll_105 (by decide) ?_
                  exact aw_fewer (L' := [some (.ref 120), some (.int x1), some (.int x2), some (.int (zb true)), some (.int x4), some (.int (x5 + 1)), none]) ⟨rfl, ⟨rfl, ⟨rfl, ⟨rfl, ⟨rfl, ⟨rfl, trivial⟩⟩⟩⟩⟩⟩ (ih s true (x5 + 1) _ H KE)
                · replace H := zf h13 H
                  refine aw_aload_n (q := 84) dX7_doesAll_83 rfl rfl ?_
                  refine aw_iload (q := 86) dX7_doesAll_84 rfl rfl ?_
                  refine aw_iload (q := 88) dX7_doesAll_86 rfl rfl ?_
                  refine aw_bipush (q := 90) (v := 127) dX7_doesAll_88 rfl (by decide) ?_
                  obtain ⟨v14, hv14, H⟩ := zbd H
                  refine aw_cv (M' := M_X7_areApart) (as := [.int x4, .int x5, .int 127]) (q := 93) dX7_doesAll_90 rfl W_X7_areApart k_X7_163 i_X7_areApart v_X7_areApart (by decide) (o_X7 sg s) rfl rfl rfl (by decide) (Nat.le_of_ble_eq_true rfl) (c_X7_areApart sg s x4 x5 127 hv14) (Nat.le_refl _) (Nat.le_refl _) ?_
                  rintro r9 h9 ⟨rfl, rfl⟩
                  refine aw_ifneB (q := 96) (t := 100) dX7_doesAll_93 rfl (by decide) (fun h15 => ?_) (fun h15 => ?_)
                  · replace H := zt h15 H
                    refine aw_iconst (q := 101) (v := 0) dX7_doesAll_100 rfl (by decide) ?_
                    refine aw_istore_n (q := 102) (L' := [some (.ref 120), some (.int x1), some (.int x2), some (.int 0), some (.int x4), some (.int x5), some (.int 1)]) dX7_doesAll_101 rfl (by decide) rfl rfl ?_
                    refine aw_iinc (q := 105) (v := x5 + 1) (L' := [some (.ref 120), some (.int x1), some (.int x2), some (.int 0), some (.int x4), some (.int (x5 + 1)), some (.int 1)]) dX7_doesAll_102 rfl rfl (by first | rfl | decide) (by decide) rfl rfl ?_
                    refine aw_goto (q := 18) dX7_doesAll_105 (by decide) ?_
                    exact aw_fewer (L' := [some (.ref 120), some (.int x1), some (.int x2), some (.int (zb false)), some (.int x4), some (.int (x5 + 1)), none]) ⟨rfl, ⟨rfl, ⟨rfl, ⟨rfl, ⟨rfl, ⟨rfl, trivial⟩⟩⟩⟩⟩⟩ (ih s false (x5 + 1) _ H KE)
                  · replace H := zf h15 H
                    refine aw_iconst (q := 97) (v := 1) dX7_doesAll_96 rfl (by decide) ?_
                    refine aw_goto (q := 101) dX7_doesAll_97 (by decide) ?_
                    refine aw_istore_n (q := 102) (L' := [some (.ref 120), some (.int x1), some (.int x2), some (.int 1), some (.int x4), some (.int x5), some (.int 1)]) dX7_doesAll_101 rfl (by decide) rfl rfl ?_
                    refine aw_iinc (q := 105) (v := x5 + 1) (L' := [some (.ref 120), some (.int x1), some (.int x2), some (.int 1), some (.int x4), some (.int (x5 + 1)), some (.int 1)]) dX7_doesAll_102 rfl rfl (by first | rfl | decide) (by decide) rfl rfl ?_
                    refine aw_goto (q := 18) dX7_doesAll_105 (by decide) ?_
                    exact aw_fewer (L' := [some (.ref 120), some (.int x1), some (.int x2), some (.int (zb true)), some (.int x4), some (.int (x5 + 1)), none]) ⟨rfl, ⟨rfl, ⟨rfl, ⟨rfl, ⟨rfl, ⟨rfl, trivial⟩⟩⟩⟩⟩⟩ (ih s true (x5 + 1) _ H KE)
              · replace H := zf h11 H
                refine aw_iconst (q := 101) (v := 0) dX7_doesAll_100 rfl (by decide) ?_
                refine aw_istore_n (q := 102) (L' := [some (.ref 120), some (.int x1), some (.int x2), some (.int 0), some (.int x4), some (.int x5), some (.int 1)]) dX7_doesAll_101 rfl (by decide) rfl rfl ?_
                refine aw_iinc (q := 105) (v := x5 + 1) (L' := [some (.ref 120), some (.int x1), some (.int x2), some (.int 0), some (.int x4), some (.int (x5 + 1)), some (.int 1)]) dX7_doesAll_102 rfl rfl (by first | rfl | decide) (by decide) rfl rfl ?_
                refine aw_goto (q := 18) dX7_doesAll_105 (by decide) ?_
                exact aw_fewer (L' := [some (.ref 120), some (.int x1), some (.int x2), some (.int (zb false)), some (.int x4), some (.int (x5 + 1)), none]) ⟨rfl, ⟨rfl, ⟨rfl, ⟨rfl, ⟨rfl, ⟨rfl, trivial⟩⟩⟩⟩⟩⟩ (ih s false (x5 + 1) _ H KE)
            · replace H := zf h10 H
              refine aw_iconst (q := 60) (v := 0) dX7_doesAll_59 rfl (by decide) ?_
              refine aw_istore (q := 62) (L' := [some (.ref 120), some (.int x1), some (.int x2), some (.int (zb x3)), some (.int x4), some (.int x5), some (.int 0)]) dX7_doesAll_60 rfl (by decide) rfl rfl ?_
              refine aw_iload_n (q := 63) dX7_doesAll_62 rfl rfl ?_
              refine aw_ifeqB (q := 66) (t := 100) dX7_doesAll_63 rfl (by decide) (fun h16 => ?_) (fun h16 => ?_)
              · replace H := zt h16 H
                refine aw_iload (q := 68) dX7_doesAll_66 rfl rfl ?_
                refine aw_if_eq (q := 71) (t := 96) dX7_doesAll_68 rfl (by decide) (fun _ => ?_) (fun z => absurd (by decide) z)
                refine aw_iconst (q := 97) (v := 1) dX7_doesAll_96 rfl (by decide) ?_
                refine aw_goto (q := 101) dX7_doesAll_97 (by decide) ?_
                refine aw_istore_n (q := 102) (L' := [some (.ref 120), some (.int x1), some (.int x2), some (.int 1), some (.int x4), some (.int x5), some (.int 0)]) dX7_doesAll_101 rfl (by decide) rfl rfl ?_
                refine aw_iinc (q := 105) (v := x5 + 1) (L' := [some (.ref 120), some (.int x1), some (.int x2), some (.int 1), some (.int x4), some (.int (x5 + 1)), some (.int 0)]) dX7_doesAll_102 rfl rfl (by first | rfl | decide) (by decide) rfl rfl ?_
                refine aw_goto (q := 18) dX7_doesAll_105 (by decide) ?_
                exact aw_fewer (L' := [some (.ref 120), some (.int x1), some (.int x2), some (.int (zb true)), some (.int x4), some (.int (x5 + 1)), none]) ⟨rfl, ⟨rfl, ⟨rfl, ⟨rfl, ⟨rfl, ⟨rfl, trivial⟩⟩⟩⟩⟩⟩ (ih s true (x5 + 1) _ H KE)
              · replace H := zf h16 H
                refine aw_iconst (q := 101) (v := 0) dX7_doesAll_100 rfl (by decide) ?_
                refine aw_istore_n (q := 102) (L' := [some (.ref 120), some (.int x1), some (.int x2), some (.int 0), some (.int x4), some (.int x5), some (.int 0)]) dX7_doesAll_101 rfl (by decide) rfl rfl ?_
                refine aw_iinc (q := 105) (v := x5 + 1) (L' := [some (.ref 120), some (.int x1), some (.int x2), some (.int 0), some (.int x4), some (.int (x5 + 1)), some (.int 0)]) dX7_doesAll_102 rfl rfl (by first | rfl | decide) (by decide) rfl rfl ?_
                refine aw_goto (q := 18) dX7_doesAll_105 (by decide) ?_
                exact aw_fewer (L' := [some (.ref 120), some (.int x1), some (.int x2), some (.int (zb false)), some (.int x4), some (.int (x5 + 1)), none]) ⟨rfl, ⟨rfl, ⟨rfl, ⟨rfl, ⟨rfl, ⟨rfl, trivial⟩⟩⟩⟩⟩⟩ (ih s false (x5 + 1) _ H KE)
        · replace H := zf h3 H
          refine aw_iconst (q := 60) (v := 0) dX7_doesAll_59 rfl (by decide) ?_
          refine aw_istore (q := 62) (L' := [some (.ref 120), some (.int x1), some (.int x2), some (.int (zb x3)), some (.int x4), some (.int x5), some (.int 0)]) dX7_doesAll_60 rfl (by decide) rfl rfl ?_
          refine aw_iload_n (q := 63) dX7_doesAll_62 rfl rfl ?_
          refine aw_ifeqB (q := 66) (t := 100) dX7_doesAll_63 rfl (by decide) (fun h17 => ?_) (fun h17 => ?_)
          · replace H := zt h17 H
            refine aw_iload (q := 68) dX7_doesAll_66 rfl rfl ?_
            refine aw_if_eq (q := 71) (t := 96) dX7_doesAll_68 rfl (by decide) (fun _ => ?_) (fun z => absurd (by decide) z)
            refine aw_iconst (q := 97) (v := 1) dX7_doesAll_96 rfl (by decide) ?_
            refine aw_goto (q := 101) dX7_doesAll_97 (by decide) ?_
            refine aw_istore_n (q := 102) (L' := [some (.ref 120), some (.int x1), some (.int x2), some (.int 1), some (.int x4), some (.int x5), some (.int 0)]) dX7_doesAll_101 rfl (by decide) rfl rfl ?_
            refine aw_iinc (q := 105) (v := x5 + 1) (L' := [some (.ref 120), some (.int x1), some (.int x2), some (.int 1), some (.int x4), some (.int (x5 + 1)), some (.int 0)]) dX7_doesAll_102 rfl rfl (by first | rfl | decide) (by decide) rfl rfl ?_
            refine aw_goto (q := 18) dX7_doesAll_105 (by decide) ?_
            exact aw_fewer (L' := [some (.ref 120), some (.int x1), some (.int x2), some (.int (zb true)), some (.int x4), some (.int (x5 + 1)), none]) ⟨rfl, ⟨rfl, ⟨rfl, ⟨rfl, ⟨rfl, ⟨rfl, trivial⟩⟩⟩⟩⟩⟩ (ih s true (x5 + 1) _ H KE)
          · replace H := zf h17 H
            refine aw_iconst (q := 101) (v := 0) dX7_doesAll_100 rfl (by decide) ?_
            refine aw_istore_n (q := 102) (L' := [some (.ref 120), some (.int x1), some (.int x2), some (.int 0), some (.int x4), some (.int x5), some (.int 0)]) dX7_doesAll_101 rfl (by decide) rfl rfl ?_
            refine aw_iinc (q := 105) (v := x5 + 1) (L' := [some (.ref 120), some (.int x1), some (.int x2), some (.int 0), some (.int x4), some (.int (x5 + 1)), some (.int 0)]) dX7_doesAll_102 rfl rfl (by first | rfl | decide) (by decide) rfl rfl ?_
            refine aw_goto (q := 18) dX7_doesAll_105 (by decide) ?_
            exact aw_fewer (L' := [some (.ref 120), some (.int x1), some (.int x2), some (.int (zb false)), some (.int x4), some (.int (x5 + 1)), none]) ⟨rfl, ⟨rfl, ⟨rfl, ⟨rfl, ⟨rfl, ⟨rfl, trivial⟩⟩⟩⟩⟩⟩ (ih s false (x5 + 1) _ H KE)
      · replace H := zf h2 H
        refine aw_iconst (q := 60) (v := 0) dX7_doesAll_59 rfl (by decide) ?_
        refine aw_istore (q := 62) (L' := [some (.ref 120), some (.int x1), some (.int x2), some (.int (zb x3)), some (.int x4), some (.int x5), some (.int 0)]) dX7_doesAll_60 rfl (by decide) rfl rfl ?_
        refine aw_iload_n (q := 63) dX7_doesAll_62 rfl rfl ?_
        refine aw_ifeqB (q := 66) (t := 100) dX7_doesAll_63 rfl (by decide) (fun h18 => ?_) (fun h18 => ?_)
        · replace H := zt h18 H
          refine aw_iload (q := 68) dX7_doesAll_66 rfl rfl ?_
          refine aw_if_eq (q := 71) (t := 96) dX7_doesAll_68 rfl (by decide) (fun _ => ?_) (fun z => absurd (by decide) z)
          refine aw_iconst (q := 97) (v := 1) dX7_doesAll_96 rfl (by decide) ?_
          refine aw_goto (q := 101) dX7_doesAll_97 (by decide) ?_
          refine aw_istore_n (q := 102) (L' := [some (.ref 120), some (.int x1), some (.int x2), some (.int 1), some (.int x4), some (.int x5), some (.int 0)]) dX7_doesAll_101 rfl (by decide) rfl rfl ?_
          refine aw_iinc (q := 105) (v := x5 + 1) (L' := [some (.ref 120), some (.int x1), some (.int x2), some (.int 1), some (.int x4), some (.int (x5 + 1)), some (.int 0)]) dX7_doesAll_102 rfl rfl (by first | rfl | decide) (by decide) rfl rfl ?_
          refine aw_goto (q := 18) dX7_doesAll_105 (by decide) ?_
          exact aw_fewer (L' := [some (.ref 120), some (.int x1), some (.int x2), some (.int (zb true)), some (.int x4), some (.int (x5 + 1)), none]) ⟨rfl, ⟨rfl, ⟨rfl, ⟨rfl, ⟨rfl, ⟨rfl, trivial⟩⟩⟩⟩⟩⟩ (ih s true (x5 + 1) _ H KE)
        · replace H := zf h18 H
          refine aw_iconst (q := 101) (v := 0) dX7_doesAll_100 rfl (by decide) ?_
          refine aw_istore_n (q := 102) (L' := [some (.ref 120), some (.int x1), some (.int x2), some (.int 0), some (.int x4), some (.int x5), some (.int 0)]) dX7_doesAll_101 rfl (by decide) rfl rfl ?_
          refine aw_iinc (q := 105) (v := x5 + 1) (L' := [some (.ref 120), some (.int x1), some (.int x2), some (.int 0), some (.int x4), some (.int (x5 + 1)), some (.int 0)]) dX7_doesAll_102 rfl rfl (by first | rfl | decide) (by decide) rfl rfl ?_
          refine aw_goto (q := 18) dX7_doesAll_105 (by decide) ?_
          exact aw_fewer (L' := [some (.ref 120), some (.int x1), some (.int x2), some (.int (zb false)), some (.int x4), some (.int (x5 + 1)), none]) ⟨rfl, ⟨rfl, ⟨rfl, ⟨rfl, ⟨rfl, ⟨rfl, trivial⟩⟩⟩⟩⟩⟩ (ih s false (x5 + 1) _ H KE)
def f_X7_doesAll_5 : Nat → zr → Int32 → Int32 → Bool → Int32 → Option (Bool)
  | 0, _, _, _, _, _ => none
  | k + 1, s, x1, x2, x3, x4 =>
    if (10 : Int32) ≤ x4 then (
      some x3
    ) else (
      zlt (x4 + 1 : Int32) fun y2 =>
      Option.bind (f_X7_doesAll_18 zFu s x1 x2 x4 x3 y2) fun e4 =>
      f_X7_doesAll_5 k s x1 x2 e4 (x4 + 1)
    )
set_option maxHeartbeats 4000000 in
set_option maxRecDepth 100000 in
theorem L_X7_doesAll_5 {G : zG} {sl : Nat} {P : Option Value → zH → Prop} (sg : zs) (x1 : Int32) (x2 : Int32) : ∀ (k : Nat) (s : zr) (x3 : Bool) (x4 : Int32) (e : Bool), f_X7_doesAll_5 k s x1 x2 x3 x4 = some e → (AV G M_X7_doesAll 2 sl P 114 [none, none, none, some (.int (zb e)), none, none, none] [] (zT sg s)) → AV G M_X7_doesAll 2 sl P 5 [some (.ref 120), some (.int x1), some (.int x2), some (.int (zb x3)), some (.int x4), none, none] [] (zT sg s) := by
  intro k
  induction k with
  | zero =>
    intro s x3 x4 e H
    unfold f_X7_doesAll_5 at H
    cases H
  | succ k ih =>
    intro s x3 x4 e H KE
    unfold f_X7_doesAll_5 at H
    refine aw_iload (q := 7) dX7_doesAll_5 rfl rfl ?_
    refine aw_bipush (q := 9) (v := 10) dX7_doesAll_7 rfl (by decide) ?_
    refine aw_icmp_ge (q := 12) (t := 114) dX7_doesAll_9 rfl (by decide) (fun h1 => ?_) (fun h1 => ?_)
    · replace H := zt h1 H
      cases H
      exact aw_fewer (L' := [none, none, none, some (.int (zb x3)), none, none, none]) ⟨rfl, trivial⟩ KE
    · replace H := zf h1 H
      refine aw_iload (q := 14) dX7_doesAll_12 rfl rfl ?_
      refine aw_iconst (q := 15) (v := 1) dX7_doesAll_14 rfl (by decide) ?_
      refine aw_iadd (q := 16) dX7_doesAll_15 rfl ?_
      obtain ⟨y2, q3, H⟩ := zltd H
      refine aw_nm q3 ?_
      refine aw_istore (q := 18) (L' := [some (.ref 120), some (.int x1), some (.int x2), some (.int (zb x3)), some (.int x4), some (.int y2), none]) dX7_doesAll_16 rfl (by decide) rfl rfl ?_
      obtain ⟨e4, he4, H⟩ := zbd H
      refine aw_fewer (L' := [some (.ref 120), some (.int x1), some (.int x2), some (.int (zb x3)), some (.int x4), some (.int y2), none]) ⟨rfl, ⟨rfl, ⟨rfl, ⟨rfl, ⟨rfl, ⟨rfl, trivial⟩⟩⟩⟩⟩⟩ ?_
      refine L_X7_doesAll_18 sg x1 x2 x4 zFu s x3 y2 e4 he4 ?_
      refine aw_iinc (q := 111) (v := x4 + 1) (L' := [some (.ref 120), some (.int x1), some (.int x2), some (.int (zb e4)), some (.int (x4 + 1)), none, none]) dX7_doesAll_108 rfl rfl (by first | rfl | decide) (by decide) rfl rfl ?_
      refine aw_goto (q := 5) dX7_doesAll_111 (by decide) ?_
      exact aw_fewer (L' := [some (.ref 120), some (.int x1), some (.int x2), some (.int (zb e4)), some (.int (x4 + 1)), none, none]) ⟨rfl, ⟨rfl, ⟨rfl, ⟨rfl, ⟨rfl, trivial⟩⟩⟩⟩⟩ (ih s e4 (x4 + 1) _ H KE)
def f_X7_doesAll (s : zr) (x1 : Int32) (x2 : Int32) : Option Bool :=
  Option.bind (f_X7_doesAll_5 zFu s x1 x2 true 0) fun e1 =>
  some e1
set_option maxHeartbeats 4000000 in
set_option maxRecDepth 100000 in
theorem c_X7_doesAll {G : zG} {sl : Nat} (sg : zs) (s : zr) (x1 : Int32) (x2 : Int32) {v9 : Bool} (H : f_X7_doesAll s x1 x2 = some v9) : zMv G 2 M_X7_doesAll [.ref 120, .int x1, .int x2] sl (zT sg s) (fun r h' => r = some (.int (zb v9)) ∧ h' = (zT sg s)) := by
  unfold f_X7_doesAll at H
  refine zMv_of (L := [some (.ref 120), some (.int x1), some (.int x2), none, none, none, none]) (by decide) rfl (Nat.le_of_ble_eq_true rfl) rfl ?_
  refine aw_iconst (q := 1) (v := 1) dX7_doesAll_0 rfl (by decide) ?_
  refine aw_istore_n (q := 2) (L' := [some (.ref 120), some (.int x1), some (.int x2), some (.int 1), none, none, none]) dX7_doesAll_1 rfl (by decide) rfl rfl ?_
  refine aw_iconst (q := 3) (v := 0) dX7_doesAll_2 rfl (by decide) ?_
  refine aw_istore (q := 5) (L' := [some (.ref 120), some (.int x1), some (.int x2), some (.int 1), some (.int 0), none, none]) dX7_doesAll_3 rfl (by decide) rfl rfl ?_
  obtain ⟨e1, he1, H⟩ := zbd H
  refine aw_fewer (L' := [some (.ref 120), some (.int x1), some (.int x2), some (.int (zb true)), some (.int 0), none, none]) ⟨rfl, ⟨rfl, ⟨rfl, ⟨rfl, ⟨rfl, trivial⟩⟩⟩⟩⟩ ?_
  refine L_X7_doesAll_5 sg x1 x2 zFu s true 0 e1 he1 ?_
  refine aw_iload_n (q := 115) dX7_doesAll_114 rfl rfl ?_
  cases H
  exact aw_retB dX7_doesAll_115 rfl rfl rfl ⟨rfl, rfl⟩
def f_X7_fewestDays_32 : Nat → zr → Int32 → Int32 → Int32 → Int32 → Option (Int32)
  | 0, _, _, _, _, _ => none
  | k + 1, s, x1, x2, x3, x4 =>
    if x4 < 0 then (
      some x3
    ) else (
      Option.bind (f_X7_ones x4) fun v2 =>
      Option.bind (f_X7_ones x3) fun v3 =>
      if v3 < v2 then (
        f_X7_fewestDays_32 k s x1 x2 x3 (x4 + (-1))
      ) else (
        Option.bind (f_X7_doesAll s x1 x4) fun v5 =>
        if v5 = true then (
          f_X7_fewestDays_32 k s x1 x2 x4 (x4 + (-1))
        ) else (
          f_X7_fewestDays_32 k s x1 x2 x3 (x4 + (-1))
        )
      )
    )
set_option maxHeartbeats 4000000 in
set_option maxRecDepth 100000 in
theorem L_X7_fewestDays_32 {G : zG} {sl : Nat} {P : Option Value → zH → Prop} (sg : zs) (x1 : Int32) (x2 : Int32) : ∀ (k : Nat) (s : zr) (x3 : Int32) (x4 : Int32) (e : Int32), f_X7_fewestDays_32 k s x1 x2 x3 x4 = some e → (AV G M_X7_fewestDays 10 sl P 68 [none, none, some (.int x2), some (.int e), none] [] (zT sg s)) → AV G M_X7_fewestDays 10 sl P 32 [some (.ref 120), some (.int x1), some (.int x2), some (.int x3), some (.int x4)] [] (zT sg s) := by
  intro k
  induction k with
  | zero =>
    intro s x3 x4 e H
    unfold f_X7_fewestDays_32 at H
    cases H
  | succ k ih =>
    intro s x3 x4 e H KE
    unfold f_X7_fewestDays_32 at H
    refine aw_iload (q := 34) dX7_fewestDays_32 rfl rfl ?_
    refine aw_if_lt (q := 37) (t := 68) dX7_fewestDays_34 rfl (by decide) (fun h1 => ?_) (fun h1 => ?_)
    · replace H := zt h1 H
      cases H
      exact aw_fewer (L' := [none, none, some (.int x2), some (.int x3), none]) ⟨rfl, ⟨rfl, trivial⟩⟩ KE
    · replace H := zf h1 H
      refine aw_iload (q := 39) dX7_fewestDays_37 rfl rfl ?_
      obtain ⟨v2, hv2, H⟩ := zbd H
      refine aw_cs (M' := M_X7_ones) (as := [.int x4]) (q := 42) dX7_fewestDays_39 rfl W_X7_ones k_X7_49 s_X7_ones rfl rfl (by decide) (Nat.le_of_ble_eq_true rfl) (c_X7_ones (zT sg s) x4 hv2) (Nat.le_refl _) (Nat.le_refl _) ?_
      rintro r9 h9 ⟨rfl, rfl⟩
      refine aw_iload_n (q := 43) dX7_fewestDays_42 rfl rfl ?_
      obtain ⟨v3, hv3, H⟩ := zbd H
      refine aw_cs (M' := M_X7_ones) (as := [.int x3]) (q := 46) dX7_fewestDays_43 rfl W_X7_ones k_X7_49 s_X7_ones rfl rfl (by decide) (Nat.le_of_ble_eq_true rfl) (c_X7_ones (zT sg s) x3 hv3) (Nat.le_refl _) (Nat.le_refl _) ?_
      rintro r9 h9 ⟨rfl, rfl⟩
      refine aw_icmp_gt (q := 49) (t := 62) dX7_fewestDays_46 rfl (by decide) (fun h4 => ?_) (fun h4 => ?_)
      · replace H := zt h4 H
        refine aw_iinc (q := 65) (v := x4 + (-1)) (L' := [some (.ref 120), some (.int x1), some (.int x2), some (.int x3), some (.int (x4 + (-1)))]) dX7_fewestDays_62 rfl rfl (by first | rfl | decide) (by decide) rfl rfl ?_
        refine aw_goto (q := 32) dX7_fewestDays_65 (by decide) ?_
        exact aw_fewer (L' := [some (.ref 120), some (.int x1), some (.int x2), some (.int x3), some (.int (x4 + (-1)))]) ⟨rfl, ⟨rfl, ⟨rfl, ⟨rfl, ⟨rfl, trivial⟩⟩⟩⟩⟩ (ih s x3 (x4 + (-1)) _ H KE)
      · replace H := zf h4 H
        refine aw_aload_n (q := 50) dX7_fewestDays_49 rfl rfl ?_
        refine aw_iload_n (q := 51) dX7_fewestDays_50 rfl rfl ?_
        refine aw_iload (q := 53) dX7_fewestDays_51 rfl rfl ?_
        obtain ⟨v5, hv5, H⟩ := zbd H
        refine aw_cv (M' := M_X7_doesAll) (as := [.int x1, .int x4]) (q := 56) dX7_fewestDays_53 rfl W_X7_doesAll k_X7_169 i_X7_doesAll v_X7_doesAll (by decide) (o_X7 sg s) rfl rfl rfl (by decide) (Nat.le_of_ble_eq_true rfl) (c_X7_doesAll sg s x1 x4 hv5) (Nat.le_refl _) (Nat.le_refl _) ?_
        rintro r9 h9 ⟨rfl, rfl⟩
        refine aw_ifeqB (q := 59) (t := 62) dX7_fewestDays_56 rfl (by decide) (fun h6 => ?_) (fun h6 => ?_)
        · replace H := zt h6 H
          refine aw_iload (q := 61) dX7_fewestDays_59 rfl rfl ?_
          refine aw_istore_n (q := 62) (L' := [some (.ref 120), some (.int x1), some (.int x2), some (.int x4), some (.int x4)]) dX7_fewestDays_61 rfl (by decide) rfl rfl ?_
          refine aw_iinc (q := 65) (v := x4 + (-1)) (L' := [some (.ref 120), some (.int x1), some (.int x2), some (.int x4), some (.int (x4 + (-1)))]) dX7_fewestDays_62 rfl rfl (by first | rfl | decide) (by decide) rfl rfl ?_
          refine aw_goto (q := 32) dX7_fewestDays_65 (by decide) ?_
          exact aw_fewer (L' := [some (.ref 120), some (.int x1), some (.int x2), some (.int x4), some (.int (x4 + (-1)))]) ⟨rfl, ⟨rfl, ⟨rfl, ⟨rfl, ⟨rfl, trivial⟩⟩⟩⟩⟩ (ih s x4 (x4 + (-1)) _ H KE)
        · replace H := zf h6 H
          refine aw_iinc (q := 65) (v := x4 + (-1)) (L' := [some (.ref 120), some (.int x1), some (.int x2), some (.int x3), some (.int (x4 + (-1)))]) dX7_fewestDays_62 rfl rfl (by first | rfl | decide) (by decide) rfl rfl ?_
          refine aw_goto (q := 32) dX7_fewestDays_65 (by decide) ?_
          exact aw_fewer (L' := [some (.ref 120), some (.int x1), some (.int x2), some (.int x3), some (.int (x4 + (-1)))]) ⟨rfl, ⟨rfl, ⟨rfl, ⟨rfl, ⟨rfl, trivial⟩⟩⟩⟩⟩ (ih s x3 (x4 + (-1)) _ H KE)
def f_X7_fewestDays (s : zr) (x1 : Int32) (x2 : Int32) : Option (Int32 × zr) :=
  if f_X7_isIn x1 0 1 = true then (
    if f_X7_isIn x2 0 1 = true then (
      Option.bind (f_X7_findsLikes s) fun v3 =>
      Option.bind (f_X7_fewestDays_32 zFu v3 x1 x2 127 126) fun e4 =>
      if x2 = 0 then (
        Option.bind (f_X7_ones e4) fun v6 =>
        some (v6, v3)
      ) else (
        some (e4, v3)
      )
    ) else (
      some ((-1000001), s)
    )
  ) else (
    some ((-1000001), s)
  )
set_option maxHeartbeats 4000000 in
set_option maxRecDepth 100000 in
theorem c_X7_fewestDays {G : zG} {sl : Nat} (sg : zs) (s : zr) (x1 : Int32) (x2 : Int32) {v9 : (Int32 × zr)} (H : f_X7_fewestDays s x1 x2 = some v9) : zMv G 10 M_X7_fewestDays [.ref 120, .int x1, .int x2] sl (zT sg s) (fun r h' => r = some (.int v9.1) ∧ h' = zT sg v9.2) := by
  unfold f_X7_fewestDays at H
  refine zMv_of (L := [some (.ref 120), some (.int x1), some (.int x2), none, none]) (by decide) rfl (Nat.le_of_ble_eq_true rfl) rfl ?_
  refine aw_iload_n (q := 1) dX7_fewestDays_0 rfl rfl ?_
  refine aw_iconst (q := 2) (v := 0) dX7_fewestDays_1 rfl (by decide) ?_
  refine aw_iconst (q := 3) (v := 1) dX7_fewestDays_2 rfl (by decide) ?_
  refine aw_cs (M' := M_X7_isIn) (as := [.int x1, .int 0, .int 1]) (q := 6) dX7_fewestDays_3 rfl W_X7_isIn k_X7_45 s_X7_isIn rfl rfl (by decide) (Nat.le_of_ble_eq_true rfl) (c_X7_isIn (zT sg s) x1 0 1) (Nat.le_refl _) (Nat.le_refl _) ?_
  rintro r9 h9 ⟨rfl, rfl⟩
  refine aw_ifeqB (q := 9) (t := 18) dX7_fewestDays_6 rfl (by decide) (fun h1 => ?_) (fun h1 => ?_)
  · replace H := zt h1 H
    refine aw_iload_n (q := 10) dX7_fewestDays_9 rfl rfl ?_
    refine aw_iconst (q := 11) (v := 0) dX7_fewestDays_10 rfl (by decide) ?_
    refine aw_iconst (q := 12) (v := 1) dX7_fewestDays_11 rfl (by decide) ?_
    refine aw_cs (M' := M_X7_isIn) (as := [.int x2, .int 0, .int 1]) (q := 15) dX7_fewestDays_12 rfl W_X7_isIn k_X7_45 s_X7_isIn rfl rfl (by decide) (Nat.le_of_ble_eq_true rfl) (c_X7_isIn (zT sg s) x2 0 1) (Nat.le_refl _) (Nat.le_refl _) ?_
    rintro r9 h9 ⟨rfl, rfl⟩
    refine aw_ifneB (q := 18) (t := 21) dX7_fewestDays_15 rfl (by decide) (fun h2 => ?_) (fun h2 => ?_)
    · replace H := zt h2 H
      refine aw_aload_n (q := 22) dX7_fewestDays_21 rfl rfl ?_
      obtain ⟨v3, hv3, H⟩ := zbd H
      refine aw_cv (M' := M_X7_findsLikes) (as := []) (q := 25) dX7_fewestDays_22 rfl W_X7_findsLikes k_X7_166 i_X7_findsLikes v_X7_findsLikes (by decide) (o_X7 sg s) rfl rfl rfl (by decide) (Nat.le_of_ble_eq_true rfl) (c_X7_findsLikes sg s hv3) (Nat.le_refl _) (Nat.le_refl _) ?_
      rintro r9 h9 ⟨rfl, rfl⟩
      refine aw_bipush (q := 27) (v := 127) dX7_fewestDays_25 rfl (by decide) ?_
      refine aw_istore_n (q := 28) (L' := [some (.ref 120), some (.int x1), some (.int x2), some (.int 127), none]) dX7_fewestDays_27 rfl (by decide) rfl rfl ?_
      refine aw_bipush (q := 30) (v := 126) dX7_fewestDays_28 rfl (by decide) ?_
      refine aw_istore (q := 32) (L' := [some (.ref 120), some (.int x1), some (.int x2), some (.int 127), some (.int 126)]) dX7_fewestDays_30 rfl (by decide) rfl rfl ?_
      obtain ⟨e4, he4, H⟩ := zbd H
      refine aw_fewer (L' := [some (.ref 120), some (.int x1), some (.int x2), some (.int 127), some (.int 126)]) ⟨rfl, ⟨rfl, ⟨rfl, ⟨rfl, ⟨rfl, trivial⟩⟩⟩⟩⟩ ?_
      refine L_X7_fewestDays_32 sg x1 x2 zFu v3 127 126 e4 he4 ?_
      refine aw_iload_n (q := 69) dX7_fewestDays_68 rfl rfl ?_
      refine aw_if_neP (q := 72) (t := 79) dX7_fewestDays_69 rfl (by decide) (fun h5 => ?_) (fun h5 => ?_)
      · replace H := zt h5 H
        refine aw_iload_n (q := 73) dX7_fewestDays_72 rfl rfl ?_
        obtain ⟨v6, hv6, H⟩ := zbd H
        refine aw_cs (M' := M_X7_ones) (as := [.int e4]) (q := 76) dX7_fewestDays_73 rfl W_X7_ones k_X7_49 s_X7_ones rfl rfl (by decide) (Nat.le_of_ble_eq_true rfl) (c_X7_ones (zT sg v3) e4 hv6) (Nat.le_refl _) (Nat.le_refl _) ?_
        rintro r9 h9 ⟨rfl, rfl⟩
        refine aw_goto (q := 80) dX7_fewestDays_76 (by decide) ?_
        cases H
        exact aw_ret dX7_fewestDays_80 rfl rfl rfl rfl ⟨rfl, rfl⟩
      · replace H := zf h5 H
        refine aw_iload_n (q := 80) dX7_fewestDays_79 rfl rfl ?_
        cases H
        exact aw_ret dX7_fewestDays_80 rfl rfl rfl rfl ⟨rfl, rfl⟩
    · replace H := zf h2 H
      refine aw_ldc (q := 20) dX7_fewestDays_18 rfl q_X7_53 ?_
      cases H
      exact aw_ret dX7_fewestDays_20 rfl rfl rfl rfl ⟨rfl, rfl⟩
  · replace H := zf h1 H
    refine aw_ldc (q := 20) dX7_fewestDays_18 rfl q_X7_53 ?_
    cases H
    exact aw_ret dX7_fewestDays_20 rfl rfl rfl rfl ⟨rfl, rfl⟩
def f_X7_isTold (s : zr) (x1 : Int32) (x2 : Int32) : Option (Bool × zr) :=
  Option.bind (f_X7_measuresOne s 0 x1 x2) fun v1 =>
  Option.bind (f_X7_measuresOne v1 10 (-1) x2) fun v2 =>
  Option.bind (f_X7_isLike v2 0 10) fun v3 =>
  if v3 = true then (
    some (false, v2)
  ) else (
    some (true, v2)
  )
set_option maxHeartbeats 4000000 in
set_option maxRecDepth 100000 in
theorem c_X7_isTold {G : zG} {sl : Nat} (sg : zs) (s : zr) (x1 : Int32) (x2 : Int32) {v9 : (Bool × zr)} (H : f_X7_isTold s x1 x2 = some v9) : zMv G 8 M_X7_isTold [.ref 120, .int x1, .int x2] sl (zT sg s) (fun r h' => r = some (.int (zb v9.1)) ∧ h' = zT sg v9.2) := by
  unfold f_X7_isTold at H
  refine zMv_of (L := [some (.ref 120), some (.int x1), some (.int x2)]) (by decide) rfl (Nat.le_of_ble_eq_true rfl) rfl ?_
  refine aw_aload_n (q := 1) dX7_isTold_0 rfl rfl ?_
  refine aw_iconst (q := 2) (v := 0) dX7_isTold_1 rfl (by decide) ?_
  refine aw_iload_n (q := 3) dX7_isTold_2 rfl rfl ?_
  refine aw_iload_n (q := 4) dX7_isTold_3 rfl rfl ?_
  obtain ⟨v1, hv1, H⟩ := zbd H
  refine aw_cv (M' := M_X7_measuresOne) (as := [.int 0, .int x1, .int x2]) (q := 7) dX7_isTold_4 rfl W_X7_measuresOne k_X7_137 i_X7_measuresOne v_X7_measuresOne (by decide) (o_X7 sg s) rfl rfl rfl (by decide) (Nat.le_of_ble_eq_true rfl) (c_X7_measuresOne sg s 0 x1 x2 hv1) (Nat.le_refl _) (Nat.le_refl _) ?_
  rintro r9 h9 ⟨rfl, rfl⟩
  refine aw_aload_n (q := 8) dX7_isTold_7 rfl rfl ?_
  refine aw_bipush (q := 10) (v := 10) dX7_isTold_8 rfl (by decide) ?_
  refine aw_iconst (q := 11) (v := (-1)) dX7_isTold_10 rfl (by decide) ?_
  refine aw_iload_n (q := 12) dX7_isTold_11 rfl rfl ?_
  obtain ⟨v2, hv2, H⟩ := zbd H
  refine aw_cv (M' := M_X7_measuresOne) (as := [.int 10, .int (-1), .int x2]) (q := 15) dX7_isTold_12 rfl W_X7_measuresOne k_X7_137 i_X7_measuresOne v_X7_measuresOne (by decide) (o_X7 sg v1) rfl rfl rfl (by decide) (Nat.le_of_ble_eq_true rfl) (c_X7_measuresOne sg v1 10 (-1) x2 hv2) (Nat.le_refl _) (Nat.le_refl _) ?_
  rintro r9 h9 ⟨rfl, rfl⟩
  refine aw_aload_n (q := 16) dX7_isTold_15 rfl rfl ?_
  refine aw_iconst (q := 17) (v := 0) dX7_isTold_16 rfl (by decide) ?_
  refine aw_bipush (q := 19) (v := 10) dX7_isTold_17 rfl (by decide) ?_
  obtain ⟨v3, hv3, H⟩ := zbd H
  refine aw_cv (M' := M_X7_isLike) (as := [.int 0, .int 10]) (q := 22) dX7_isTold_19 rfl W_X7_isLike k_X7_141 i_X7_isLike v_X7_isLike (by decide) (o_X7 sg v2) rfl rfl rfl (by decide) (Nat.le_of_ble_eq_true rfl) (c_X7_isLike sg v2 0 10 hv3) (Nat.le_refl _) (Nat.le_refl _) ?_
  rintro r9 h9 ⟨rfl, rfl⟩
  refine aw_ifneB (q := 25) (t := 29) dX7_isTold_22 rfl (by decide) (fun h4 => ?_) (fun h4 => ?_)
  · replace H := zt h4 H
    refine aw_iconst (q := 30) (v := 0) dX7_isTold_29 rfl (by decide) ?_
    cases H
    exact aw_ret dX7_isTold_30 rfl rfl rfl rfl ⟨rfl, rfl⟩
  · replace H := zf h4 H
    refine aw_iconst (q := 26) (v := 1) dX7_isTold_25 rfl (by decide) ?_
    refine aw_goto (q := 30) dX7_isTold_26 (by decide) ?_
    cases H
    exact aw_ret dX7_isTold_30 rfl rfl rfl rfl ⟨rfl, rfl⟩
def f_X7_wantedSet_13 : Nat → zr → Int32 → Int32 → Int32 → Option ((zr) ⊕ (Int32 × zr))
  | 0, _, _, _, _ => none
  | k + 1, s, x1, x2, x3 =>
    if (16 : Int32) ≤ x3 then (
      some (Sum.inl s)
    ) else (
      if f_X7_has x2 x3 = true then (
        f_X7_wantedSet_13 k s x1 x2 (x3 + 1)
      ) else (
        Option.bind (f_X7_isTold s x1 (x2 ||| ((1 : Int32) <<< (x3 &&& 31)))) fun v3 =>
        if v3.1 = true then (
          some (Sum.inr ((1 : Int32) <<< (x3 &&& 31), v3.2))
        ) else (
          f_X7_wantedSet_13 k v3.2 x1 x2 (x3 + 1)
        )
      )
    )
set_option maxHeartbeats 4000000 in
set_option maxRecDepth 100000 in
theorem L_X7_wantedSet_13 {G : zG} {sl : Nat} {P : Option Value → zH → Prop} (sg : zs) (x1 : Int32) (x2 : Int32) : ∀ (k : Nat) (s : zr) (x3 : Int32) (e : (zr) ⊕ (Int32 × zr)), f_X7_wantedSet_13 k s x1 x2 x3 = some e → (∀ x9, e = Sum.inl x9 → AV G M_X7_wantedSet 9 sl P 50 [some (.ref 120), some (.int x1), some (.int x2), none, none, none] [] (zT sg x9)) → (∀ v9, e = Sum.inr v9 → P (some (.int v9.1)) (zT sg v9.2)) → AV G M_X7_wantedSet 9 sl P 13 [some (.ref 120), some (.int x1), some (.int x2), some (.int x3), none, none] [] (zT sg s) := by
  intro k
  induction k with
  | zero =>
    intro s x3 e H
    unfold f_X7_wantedSet_13 at H
    cases H
  | succ k ih =>
    intro s x3 e H KE KR
    unfold f_X7_wantedSet_13 at H
    refine aw_iload_n (q := 14) dX7_wantedSet_13 rfl rfl ?_
    refine aw_bipush (q := 16) (v := 16) dX7_wantedSet_14 rfl (by decide) ?_
    refine aw_icmp_ge (q := 19) (t := 50) dX7_wantedSet_16 rfl (by decide) (fun h1 => ?_) (fun h1 => ?_)
    · replace H := zt h1 H
      cases H
      exact aw_fewer (L' := [some (.ref 120), some (.int x1), some (.int x2), none, none, none]) ⟨rfl, ⟨rfl, ⟨rfl, trivial⟩⟩⟩ (KE _ rfl)
    · replace H := zf h1 H
      refine aw_iload_n (q := 20) dX7_wantedSet_19 rfl rfl ?_
      refine aw_iload_n (q := 21) dX7_wantedSet_20 rfl rfl ?_
      refine aw_cs (M' := M_X7_has) (as := [.int x2, .int x3]) (q := 24) dX7_wantedSet_21 rfl W_X7_has k_X7_36 s_X7_has rfl rfl (by decide) (Nat.le_of_ble_eq_true rfl) (c_X7_has (zT sg s) x2 x3) (Nat.le_refl _) (Nat.le_refl _) ?_
      rintro r9 h9 ⟨rfl, rfl⟩
      refine aw_ifneB (q := 27) (t := 44) dX7_wantedSet_24 rfl (by decide) (fun h2 => ?_) (fun h2 => ?_)
      · replace H := zt h2 H
        refine aw_iinc (q := 47) (v := x3 + 1) (L' := [some (.ref 120), some (.int x1), some (.int x2), some (.int (x3 + 1)), none, none]) dX7_wantedSet_44 rfl rfl (by first | rfl | decide) (by decide) rfl rfl ?_
        refine aw_goto (q := 13) dX7_wantedSet_47 (by decide) ?_
        exact aw_fewer (L' := [some (.ref 120), some (.int x1), some (.int x2), some (.int (x3 + 1)), none, none]) ⟨rfl, ⟨rfl, ⟨rfl, ⟨rfl, trivial⟩⟩⟩⟩ (ih s (x3 + 1) _ H KE KR)
      · replace H := zf h2 H
        refine aw_aload_n (q := 28) dX7_wantedSet_27 rfl rfl ?_
        refine aw_iload_n (q := 29) dX7_wantedSet_28 rfl rfl ?_
        refine aw_iload_n (q := 30) dX7_wantedSet_29 rfl rfl ?_
        refine aw_iconst (q := 31) (v := 1) dX7_wantedSet_30 rfl (by decide) ?_
        refine aw_iload_n (q := 32) dX7_wantedSet_31 rfl rfl ?_
        refine aw_ishl (q := 33) dX7_wantedSet_32 rfl ?_
        refine aw_ior (q := 34) dX7_wantedSet_33 rfl ?_
        obtain ⟨v3, hv3, H⟩ := zbd H
        refine aw_cv (M' := M_X7_isTold) (as := [.int x1, .int (x2 ||| ((1 : Int32) <<< (x3 &&& 31)))]) (q := 37) dX7_wantedSet_34 rfl W_X7_isTold k_X7_172 i_X7_isTold v_X7_isTold (by decide) (o_X7 sg s) rfl rfl rfl (by decide) (Nat.le_of_ble_eq_true rfl) (c_X7_isTold sg s x1 (x2 ||| ((1 : Int32) <<< (x3 &&& 31))) hv3) (Nat.le_refl _) (Nat.le_refl _) ?_
        rintro r9 h9 ⟨rfl, rfl⟩
        refine aw_ifeqB (q := 40) (t := 44) dX7_wantedSet_37 rfl (by decide) (fun h4 => ?_) (fun h4 => ?_)
        · replace H := zt h4 H
          refine aw_iconst (q := 41) (v := 1) dX7_wantedSet_40 rfl (by decide) ?_
          refine aw_iload_n (q := 42) dX7_wantedSet_41 rfl rfl ?_
          refine aw_ishl (q := 43) dX7_wantedSet_42 rfl ?_
          cases H
          exact aw_ret dX7_wantedSet_43 rfl rfl rfl rfl (KR _ rfl)
        · replace H := zf h4 H
          refine aw_iinc (q := 47) (v := x3 + 1) (L' := [some (.ref 120), some (.int x1), some (.int x2), some (.int (x3 + 1)), none, none]) dX7_wantedSet_44 rfl rfl (by first | rfl | decide) (by decide) rfl rfl ?_
          refine aw_goto (q := 13) dX7_wantedSet_47 (by decide) ?_
          exact aw_fewer (L' := [some (.ref 120), some (.int x1), some (.int x2), some (.int (x3 + 1)), none, none]) ⟨rfl, ⟨rfl, ⟨rfl, ⟨rfl, trivial⟩⟩⟩⟩ (ih v3.2 (x3 + 1) _ H KE KR)
def f_X7_wantedSet_61 : Nat → zr → Int32 → Int32 → Int32 → Int32 → Option ((zr) ⊕ (Int32 × zr))
  | 0, _, _, _, _, _ => none
  | k + 1, s, x1, x2, x3, x4 =>
    if x3 ≤ x4 then (
      some (Sum.inl s)
    ) else (
      zlt (((1 : Int32) <<< (x3 &&& 31)) ||| ((1 : Int32) <<< (x4 &&& 31)) : Int32) fun y2 =>
      if (x2 &&& y2) = 0 then (
        Option.bind (f_X7_isTold s x1 (x2 ||| y2)) fun v5 =>
        if v5.1 = true then (
          some (Sum.inr (y2, v5.2))
        ) else (
          f_X7_wantedSet_61 k v5.2 x1 x2 x3 (x4 + 1)
        )
      ) else (
        f_X7_wantedSet_61 k s x1 x2 x3 (x4 + 1)
      )
    )
set_option maxHeartbeats 4000000 in
set_option maxRecDepth 100000 in
theorem L_X7_wantedSet_61 {G : zG} {sl : Nat} {P : Option Value → zH → Prop} (sg : zs) (x1 : Int32) (x2 : Int32) (x3 : Int32) : ∀ (k : Nat) (s : zr) (x4 : Int32) (e : (zr) ⊕ (Int32 × zr)), f_X7_wantedSet_61 k s x1 x2 x3 x4 = some e → (∀ x9, e = Sum.inl x9 → AV G M_X7_wantedSet 9 sl P 105 [some (.ref 120), some (.int x1), some (.int x2), some (.int x3), none, none] [] (zT sg x9)) → (∀ v9, e = Sum.inr v9 → P (some (.int v9.1)) (zT sg v9.2)) → AV G M_X7_wantedSet 9 sl P 61 [some (.ref 120), some (.int x1), some (.int x2), some (.int x3), some (.int x4), none] [] (zT sg s) := by
  intro k
  induction k with
  | zero =>
    intro s x4 e H
    unfold f_X7_wantedSet_61 at H
    cases H
  | succ k ih =>
    intro s x4 e H KE KR
    unfold f_X7_wantedSet_61 at H
    refine aw_iload (q := 63) dX7_wantedSet_61 rfl rfl ?_
    refine aw_iload_n (q := 64) dX7_wantedSet_63 rfl rfl ?_
    refine aw_icmp_ge (q := 67) (t := 105) dX7_wantedSet_64 rfl (by decide) (fun h1 => ?_) (fun h1 => ?_)
    · replace H := zt h1 H
      cases H
      exact aw_fewer (L' := [some (.ref 120), some (.int x1), some (.int x2), some (.int x3), none, none]) ⟨rfl, ⟨rfl, ⟨rfl, ⟨rfl, trivial⟩⟩⟩⟩ (KE _ rfl)
    · replace H := zf h1 H
      refine aw_iconst (q := 68) (v := 1) dX7_wantedSet_67 rfl (by decide) ?_
      refine aw_iload_n (q := 69) dX7_wantedSet_68 rfl rfl ?_
      refine aw_ishl (q := 70) dX7_wantedSet_69 rfl ?_
      refine aw_iconst (q := 71) (v := 1) dX7_wantedSet_70 rfl (by decide) ?_
      refine aw_iload (q := 73) dX7_wantedSet_71 rfl rfl ?_
      refine aw_ishl (q := 74) dX7_wantedSet_73 rfl ?_
      refine aw_ior (q := 75) dX7_wantedSet_74 rfl ?_
      obtain ⟨y2, q3, H⟩ := zltd H
      refine aw_nm q3 ?_
      refine aw_istore (q := 77) (L' := [some (.ref 120), some (.int x1), some (.int x2), some (.int x3), some (.int x4), some (.int y2)]) dX7_wantedSet_75 rfl (by decide) rfl rfl ?_
      refine aw_iload_n (q := 78) dX7_wantedSet_77 rfl rfl ?_
      refine aw_iload (q := 80) dX7_wantedSet_78 rfl rfl ?_
      refine aw_iand (q := 81) dX7_wantedSet_80 rfl ?_
      refine aw_if_neP (q := 84) (t := 99) dX7_wantedSet_81 rfl (by decide) (fun h4 => ?_) (fun h4 => ?_)
      · replace H := zt h4 H
        refine aw_aload_n (q := 85) dX7_wantedSet_84 rfl rfl ?_
        refine aw_iload_n (q := 86) dX7_wantedSet_85 rfl rfl ?_
        refine aw_iload_n (q := 87) dX7_wantedSet_86 rfl rfl ?_
        refine aw_iload (q := 89) dX7_wantedSet_87 rfl rfl ?_
        refine aw_ior (q := 90) dX7_wantedSet_89 rfl ?_
        obtain ⟨v5, hv5, H⟩ := zbd H
        refine aw_cv (M' := M_X7_isTold) (as := [.int x1, .int (x2 ||| y2)]) (q := 93) dX7_wantedSet_90 rfl W_X7_isTold k_X7_172 i_X7_isTold v_X7_isTold (by decide) (o_X7 sg s) rfl rfl rfl (by decide) (Nat.le_of_ble_eq_true rfl) (c_X7_isTold sg s x1 (x2 ||| y2) hv5) (Nat.le_refl _) (Nat.le_refl _) ?_
        rintro r9 h9 ⟨rfl, rfl⟩
        refine aw_ifeqB (q := 96) (t := 99) dX7_wantedSet_93 rfl (by decide) (fun h6 => ?_) (fun h6 => ?_)
        · replace H := zt h6 H
          refine aw_iload (q := 98) dX7_wantedSet_96 rfl rfl ?_
          cases H
          exact aw_ret dX7_wantedSet_98 rfl rfl rfl rfl (KR _ rfl)
        · replace H := zf h6 H
          refine aw_iinc (q := 102) (v := x4 + 1) (L' := [some (.ref 120), some (.int x1), some (.int x2), some (.int x3), some (.int (x4 + 1)), some (.int y2)]) dX7_wantedSet_99 rfl rfl (by first | rfl | decide) (by decide) rfl rfl ?_
          refine aw_goto (q := 61) dX7_wantedSet_102 (by decide) ?_
          exact aw_fewer (L' := [some (.ref 120), some (.int x1), some (.int x2), some (.int x3), some (.int (x4 + 1)), none]) ⟨rfl, ⟨rfl, ⟨rfl, ⟨rfl, ⟨rfl, trivial⟩⟩⟩⟩⟩ (ih v5.2 (x4 + 1) _ H KE KR)
      · replace H := zf h4 H
        refine aw_iinc (q := 102) (v := x4 + 1) (L' := [some (.ref 120), some (.int x1), some (.int x2), some (.int x3), some (.int (x4 + 1)), some (.int y2)]) dX7_wantedSet_99 rfl rfl (by first | rfl | decide) (by decide) rfl rfl ?_
        refine aw_goto (q := 61) dX7_wantedSet_102 (by decide) ?_
        exact aw_fewer (L' := [some (.ref 120), some (.int x1), some (.int x2), some (.int x3), some (.int (x4 + 1)), none]) ⟨rfl, ⟨rfl, ⟨rfl, ⟨rfl, ⟨rfl, trivial⟩⟩⟩⟩⟩ (ih s (x4 + 1) _ H KE KR)
def f_X7_wantedSet_52 : Nat → zr → Int32 → Int32 → Int32 → Option ((zr) ⊕ (Int32 × zr))
  | 0, _, _, _, _ => none
  | k + 1, s, x1, x2, x3 =>
    if (16 : Int32) ≤ x3 then (
      some (Sum.inl s)
    ) else (
      Option.bind (f_X7_wantedSet_61 zFu s x1 x2 x3 0) fun e2 => match e2 with
      | Sum.inr r3 => some (Sum.inr r3)
      | Sum.inl e2i =>
      f_X7_wantedSet_52 k e2i x1 x2 (x3 + 1)
    )
set_option maxHeartbeats 4000000 in
set_option maxRecDepth 100000 in
theorem L_X7_wantedSet_52 {G : zG} {sl : Nat} {P : Option Value → zH → Prop} (sg : zs) (x1 : Int32) (x2 : Int32) : ∀ (k : Nat) (s : zr) (x3 : Int32) (e : (zr) ⊕ (Int32 × zr)), f_X7_wantedSet_52 k s x1 x2 x3 = some e → (∀ x9, e = Sum.inl x9 → AV G M_X7_wantedSet 9 sl P 111 [none, none, none, none, none, none] [] (zT sg x9)) → (∀ v9, e = Sum.inr v9 → P (some (.int v9.1)) (zT sg v9.2)) → AV G M_X7_wantedSet 9 sl P 52 [some (.ref 120), some (.int x1), some (.int x2), some (.int x3), none, none] [] (zT sg s) := by
  intro k
  induction k with
  | zero =>
    intro s x3 e H
    unfold f_X7_wantedSet_52 at H
    cases H
  | succ k ih =>
    intro s x3 e H KE KR
    unfold f_X7_wantedSet_52 at H
    refine aw_iload_n (q := 53) dX7_wantedSet_52 rfl rfl ?_
    refine aw_bipush (q := 55) (v := 16) dX7_wantedSet_53 rfl (by decide) ?_
    refine aw_icmp_ge (q := 58) (t := 111) dX7_wantedSet_55 rfl (by decide) (fun h1 => ?_) (fun h1 => ?_)
    · replace H := zt h1 H
      cases H
      exact aw_fewer (L' := [none, none, none, none, none, none]) trivial (KE _ rfl)
    · replace H := zf h1 H
      refine aw_iconst (q := 59) (v := 0) dX7_wantedSet_58 rfl (by decide) ?_
      refine aw_istore (q := 61) (L' := [some (.ref 120), some (.int x1), some (.int x2), some (.int x3), some (.int 0), none]) dX7_wantedSet_59 rfl (by decide) rfl rfl ?_
      obtain ⟨e2, he2, H⟩ := zbd H
      refine aw_fewer (L' := [some (.ref 120), some (.int x1), some (.int x2), some (.int x3), some (.int 0), none]) ⟨rfl, ⟨rfl, ⟨rfl, ⟨rfl, ⟨rfl, trivial⟩⟩⟩⟩⟩ ?_
      refine L_X7_wantedSet_61 sg x1 x2 x3 zFu s 0 e2 he2 (fun e2i h9 => ?_) (fun r3 h9 => ?_)
      · subst h9
        replace H : _ = _ := H
        refine aw_iinc (q := 108) (v := x3 + 1) (L' := [some (.ref 120), some (.int x1), some (.int x2), some (.int (x3 + 1)), none, none]) dX7_wantedSet_105 rfl rfl (by first | rfl | decide) (by decide) rfl rfl ?_
        refine aw_goto (q := 52) dX7_wantedSet_108 (by decide) ?_
        exact aw_fewer (L' := [some (.ref 120), some (.int x1), some (.int x2), some (.int (x3 + 1)), none, none]) ⟨rfl, ⟨rfl, ⟨rfl, ⟨rfl, trivial⟩⟩⟩⟩ (ih e2i (x3 + 1) _ H KE KR)
      · subst h9
        cases H
        exact KR _ rfl
def f_X7_wantedSet (s : zr) (x1 : Int32) (x2 : Int32) : Option (Int32 × zr) :=
  Option.bind (f_X7_isTold s x1 x2) fun v1 =>
  if v1.1 = true then (
    some (0, v1.2)
  ) else (
    Option.bind (f_X7_wantedSet_13 zFu v1.2 x1 x2 0) fun e3 => match e3 with
    | Sum.inr r6 => some r6
    | Sum.inl e3i =>
    Option.bind (f_X7_wantedSet_52 zFu e3i x1 x2 1) fun e7 => match e7 with
    | Sum.inr r8 => some r8
    | Sum.inl e7i =>
    some ((-1), e7i)
  )
set_option maxHeartbeats 4000000 in
set_option maxRecDepth 100000 in
theorem c_X7_wantedSet {G : zG} {sl : Nat} (sg : zs) (s : zr) (x1 : Int32) (x2 : Int32) {v9 : (Int32 × zr)} (H : f_X7_wantedSet s x1 x2 = some v9) : zMv G 9 M_X7_wantedSet [.ref 120, .int x1, .int x2] sl (zT sg s) (fun r h' => r = some (.int v9.1) ∧ h' = zT sg v9.2) := by
  unfold f_X7_wantedSet at H
  refine zMv_of (L := [some (.ref 120), some (.int x1), some (.int x2), none, none, none]) (by decide) rfl (Nat.le_of_ble_eq_true rfl) rfl ?_
  refine aw_aload_n (q := 1) dX7_wantedSet_0 rfl rfl ?_
  refine aw_iload_n (q := 2) dX7_wantedSet_1 rfl rfl ?_
  refine aw_iload_n (q := 3) dX7_wantedSet_2 rfl rfl ?_
  obtain ⟨v1, hv1, H⟩ := zbd H
  refine aw_cv (M' := M_X7_isTold) (as := [.int x1, .int x2]) (q := 6) dX7_wantedSet_3 rfl W_X7_isTold k_X7_172 i_X7_isTold v_X7_isTold (by decide) (o_X7 sg s) rfl rfl rfl (by decide) (Nat.le_of_ble_eq_true rfl) (c_X7_isTold sg s x1 x2 hv1) (Nat.le_refl _) (Nat.le_refl _) ?_
  rintro r9 h9 ⟨rfl, rfl⟩
  refine aw_ifeqB (q := 9) (t := 11) dX7_wantedSet_6 rfl (by decide) (fun h2 => ?_) (fun h2 => ?_)
  · replace H := zt h2 H
    refine aw_iconst (q := 10) (v := 0) dX7_wantedSet_9 rfl (by decide) ?_
    cases H
    exact aw_ret dX7_wantedSet_10 rfl rfl rfl rfl ⟨rfl, rfl⟩
  · replace H := zf h2 H
    refine aw_iconst (q := 12) (v := 0) dX7_wantedSet_11 rfl (by decide) ?_
    refine aw_istore_n (q := 13) (L' := [some (.ref 120), some (.int x1), some (.int x2), some (.int 0), none, none]) dX7_wantedSet_12 rfl (by decide) rfl rfl ?_
    obtain ⟨e3, he3, H⟩ := zbd H
    refine aw_fewer (L' := [some (.ref 120), some (.int x1), some (.int x2), some (.int 0), none, none]) ⟨rfl, ⟨rfl, ⟨rfl, ⟨rfl, trivial⟩⟩⟩⟩ ?_
    refine L_X7_wantedSet_13 sg x1 x2 zFu v1.2 0 e3 he3 (fun e3i h9 => ?_) (fun r6 h9 => ?_)
    · subst h9
      replace H : _ = _ := H
      refine aw_iconst (q := 51) (v := 1) dX7_wantedSet_50 rfl (by decide) ?_
      refine aw_istore_n (q := 52) (L' := [some (.ref 120), some (.int x1), some (.int x2), some (.int 1), none, none]) dX7_wantedSet_51 rfl (by decide) rfl rfl ?_
      obtain ⟨e7, he7, H⟩ := zbd H
      refine aw_fewer (L' := [some (.ref 120), some (.int x1), some (.int x2), some (.int 1), none, none]) ⟨rfl, ⟨rfl, ⟨rfl, ⟨rfl, trivial⟩⟩⟩⟩ ?_
      refine L_X7_wantedSet_52 sg x1 x2 zFu e3i 1 e7 he7 (fun e7i h9 => ?_) (fun r8 h9 => ?_)
      · subst h9
        replace H : _ = _ := H
        refine aw_iconst (q := 112) (v := (-1)) dX7_wantedSet_111 rfl (by decide) ?_
        cases H
        exact aw_ret dX7_wantedSet_112 rfl rfl rfl rfl ⟨rfl, rfl⟩
      · subst h9
        cases H
        exact ⟨rfl, rfl⟩
    · subst h9
      cases H
      exact ⟨rfl, rfl⟩
def f_X7_wanted (s : zr) (x1 : Int32) (x2 : Int32) (x3 : Int32) : Option (Int32 × zr) :=
  if f_X7_isFault s x1 = true then (
    if f_X7_isDay x2 = true then (
      if f_X7_isIn x3 0 1 = true then (
        Option.bind (f_X7_touchedOn s x2) fun v4 =>
        Option.bind (f_X7_wantedSet s x1 v4) fun v5 =>
        if v5.1 = (-1) then (
          some ((-1000004), v5.2)
        ) else (
          if x3 = 0 then (
            Option.bind (f_X7_ones v5.1) fun v8 =>
            some (v8, v5.2)
          ) else (
            some (v5.1, v5.2)
          )
        )
      ) else (
        some ((-1000001), s)
      )
    ) else (
      some ((-1000001), s)
    )
  ) else (
    some ((-1000001), s)
  )
set_option maxHeartbeats 4000000 in
set_option maxRecDepth 100000 in
theorem c_X7_wanted {G : zG} {sl : Nat} (sg : zs) (s : zr) (x1 : Int32) (x2 : Int32) (x3 : Int32) {v9 : (Int32 × zr)} (H : f_X7_wanted s x1 x2 x3 = some v9) : zMv G 10 M_X7_wanted [.ref 120, .int x1, .int x2, .int x3] sl (zT sg s) (fun r h' => r = some (.int v9.1) ∧ h' = zT sg v9.2) := by
  unfold f_X7_wanted at H
  refine zMv_of (L := [some (.ref 120), some (.int x1), some (.int x2), some (.int x3), none]) (by decide) rfl (Nat.le_of_ble_eq_true rfl) rfl ?_
  refine aw_aload_n (q := 1) dX7_wanted_0 rfl rfl ?_
  refine aw_iload_n (q := 2) dX7_wanted_1 rfl rfl ?_
  refine aw_cv (M' := M_X7_isFault) (as := [.int x1]) (q := 5) dX7_wanted_2 rfl W_X7_isFault k_X7_100 i_X7_isFault v_X7_isFault (by decide) (o_X7 sg s) rfl rfl rfl (by decide) (Nat.le_of_ble_eq_true rfl) (c_X7_isFault sg s x1) (Nat.le_refl _) (Nat.le_refl _) ?_
  rintro r9 h9 ⟨rfl, rfl⟩
  refine aw_ifeqB (q := 8) (t := 24) dX7_wanted_5 rfl (by decide) (fun h1 => ?_) (fun h1 => ?_)
  · replace H := zt h1 H
    refine aw_iload_n (q := 9) dX7_wanted_8 rfl rfl ?_
    refine aw_cs (M' := M_X7_isDay) (as := [.int x2]) (q := 12) dX7_wanted_9 rfl W_X7_isDay k_X7_144 s_X7_isDay rfl rfl (by decide) (Nat.le_of_ble_eq_true rfl) (c_X7_isDay (zT sg s) x2) (Nat.le_refl _) (Nat.le_refl _) ?_
    rintro r9 h9 ⟨rfl, rfl⟩
    refine aw_ifeqB (q := 15) (t := 24) dX7_wanted_12 rfl (by decide) (fun h2 => ?_) (fun h2 => ?_)
    · replace H := zt h2 H
      refine aw_iload_n (q := 16) dX7_wanted_15 rfl rfl ?_
      refine aw_iconst (q := 17) (v := 0) dX7_wanted_16 rfl (by decide) ?_
      refine aw_iconst (q := 18) (v := 1) dX7_wanted_17 rfl (by decide) ?_
      refine aw_cs (M' := M_X7_isIn) (as := [.int x3, .int 0, .int 1]) (q := 21) dX7_wanted_18 rfl W_X7_isIn k_X7_45 s_X7_isIn rfl rfl (by decide) (Nat.le_of_ble_eq_true rfl) (c_X7_isIn (zT sg s) x3 0 1) (Nat.le_refl _) (Nat.le_refl _) ?_
      rintro r9 h9 ⟨rfl, rfl⟩
      refine aw_ifneB (q := 24) (t := 27) dX7_wanted_21 rfl (by decide) (fun h3 => ?_) (fun h3 => ?_)
      · replace H := zt h3 H
        refine aw_aload_n (q := 28) dX7_wanted_27 rfl rfl ?_
        refine aw_iload_n (q := 29) dX7_wanted_28 rfl rfl ?_
        refine aw_aload_n (q := 30) dX7_wanted_29 rfl rfl ?_
        refine aw_iload_n (q := 31) dX7_wanted_30 rfl rfl ?_
        obtain ⟨v4, hv4, H⟩ := zbd H
        refine aw_cv (M' := M_X7_touchedOn) (as := [.int x2]) (q := 34) dX7_wanted_31 rfl W_X7_touchedOn k_X7_90 i_X7_touchedOn v_X7_touchedOn (by decide) (o_X7 sg s) rfl rfl rfl (by decide) (Nat.le_of_ble_eq_true rfl) (c_X7_touchedOn sg s x2 hv4) (Nat.le_refl _) (Nat.le_refl _) ?_
        rintro r9 h9 ⟨rfl, rfl⟩
        obtain ⟨v5, hv5, H⟩ := zbd H
        refine aw_cv (M' := M_X7_wantedSet) (as := [.int x1, .int v4]) (q := 37) dX7_wanted_34 rfl W_X7_wantedSet k_X7_175 i_X7_wantedSet v_X7_wantedSet (by decide) (o_X7 sg s) rfl rfl rfl (by decide) (Nat.le_of_ble_eq_true rfl) (c_X7_wantedSet sg s x1 v4 hv5) (Nat.le_refl _) (Nat.le_refl _) ?_
        rintro r9 h9 ⟨rfl, rfl⟩
        refine aw_istore (q := 39) (L' := [some (.ref 120), some (.int x1), some (.int x2), some (.int x3), some (.int v5.1)]) dX7_wanted_37 rfl (by decide) rfl rfl ?_
        refine aw_iload (q := 41) dX7_wanted_39 rfl rfl ?_
        refine aw_iconst (q := 42) (v := (-1)) dX7_wanted_41 rfl (by decide) ?_
        refine aw_icmp_neP (q := 45) (t := 48) dX7_wanted_42 rfl (by decide) (fun h6 => ?_) (fun h6 => ?_)
        · replace H := zt h6 H
          refine aw_ldc (q := 47) dX7_wanted_45 rfl q_X7_93 ?_
          cases H
          exact aw_ret dX7_wanted_47 rfl rfl rfl rfl ⟨rfl, rfl⟩
        · replace H := zf h6 H
          refine aw_iload_n (q := 49) dX7_wanted_48 rfl rfl ?_
          refine aw_if_neP (q := 52) (t := 60) dX7_wanted_49 rfl (by decide) (fun h7 => ?_) (fun h7 => ?_)
          · replace H := zt h7 H
            refine aw_iload (q := 54) dX7_wanted_52 rfl rfl ?_
            obtain ⟨v8, hv8, H⟩ := zbd H
            refine aw_cs (M' := M_X7_ones) (as := [.int v5.1]) (q := 57) dX7_wanted_54 rfl W_X7_ones k_X7_49 s_X7_ones rfl rfl (by decide) (Nat.le_of_ble_eq_true rfl) (c_X7_ones (zT sg v5.2) v5.1 hv8) (Nat.le_refl _) (Nat.le_refl _) ?_
            rintro r9 h9 ⟨rfl, rfl⟩
            refine aw_goto (q := 62) dX7_wanted_57 (by decide) ?_
            cases H
            exact aw_ret dX7_wanted_62 rfl rfl rfl rfl ⟨rfl, rfl⟩
          · replace H := zf h7 H
            refine aw_iload (q := 62) dX7_wanted_60 rfl rfl ?_
            cases H
            exact aw_ret dX7_wanted_62 rfl rfl rfl rfl ⟨rfl, rfl⟩
      · replace H := zf h3 H
        refine aw_ldc (q := 26) dX7_wanted_24 rfl q_X7_53 ?_
        cases H
        exact aw_ret dX7_wanted_26 rfl rfl rfl rfl ⟨rfl, rfl⟩
    · replace H := zf h2 H
      refine aw_ldc (q := 26) dX7_wanted_24 rfl q_X7_53 ?_
      cases H
      exact aw_ret dX7_wanted_26 rfl rfl rfl rfl ⟨rfl, rfl⟩
  · replace H := zf h1 H
    refine aw_ldc (q := 26) dX7_wanted_24 rfl q_X7_53 ?_
    cases H
    exact aw_ret dX7_wanted_26 rfl rfl rfl rfl ⟨rfl, rfl⟩
def f_X7_floatBits_12 : Nat → Int32 → Int32 → Int64 → Option (Int32 × Int64)
  | 0, _, _, _ => none
  | k + 1, x1, x2, x3 =>
    if (0 : Int32) ≤ (lg_cmp x3 x1.toInt64) then (
      some (x2, x3)
    ) else (
      f_X7_floatBits_12 k x1 (x2 + (-1)) (x3 * 2)
    )
set_option maxHeartbeats 4000000 in
set_option maxRecDepth 100000 in
theorem L_X7_floatBits_12 {G : zG} {sl : Nat} {P : Option Value → zH → Prop} (h : zH) (x1 : Int32) : ∀ (k : Nat)  (x2 : Int32) (x3 : Int64) (e : Int32 × Int64), f_X7_floatBits_12 k x1 x2 x3 = some e → (AV G M_X7_floatBits 0 sl P 31 [none, some (.int x1), some (.int e.1), some (.long e.2), none, none, none, none, none, none, none] [] h) → AV G M_X7_floatBits 0 sl P 12 [none, some (.int x1), some (.int x2), some (.long x3), none, none, none, none, none, none, none] [] h := by
  intro k
  induction k with
  | zero =>
    intro  x2 x3 e H
    unfold f_X7_floatBits_12 at H
    cases H
  | succ k ih =>
    intro  x2 x3 e H KE
    unfold f_X7_floatBits_12 at H
    refine aw_lload_n (q := 13) dX7_floatBits_12 rfl rfl ?_
    refine aw_iload_n (q := 14) dX7_floatBits_13 rfl rfl ?_
    refine aw_i2l (q := 15) dX7_floatBits_14 rfl ?_
    refine aw_lcmp (q := 16) dX7_floatBits_15 rfl ?_
    refine aw_if_ge (q := 19) (t := 31) dX7_floatBits_16 rfl (by decide) (fun h1 => ?_) (fun h1 => ?_)
    · replace H := zt h1 H
      cases H
      exact aw_fewer (L' := [none, some (.int x1), some (.int x2), some (.long x3), none, none, none, none, none, none, none]) ⟨rfl, ⟨rfl, ⟨rfl, trivial⟩⟩⟩ KE
    · replace H := zf h1 H
      refine aw_lload_n (q := 20) dX7_floatBits_19 rfl rfl ?_
      refine aw_ldc2 (q := 23) dX7_floatBits_20 rfl q_X7_178 ?_
      refine aw_lmul (q := 24) dX7_floatBits_23 rfl ?_
      refine aw_lstore_n (q := 25) (L' := [none, some (.int x1), some (.int x2), some (.long (x3 * 2)), none, none, none, none, none, none, none]) dX7_floatBits_24 rfl (by decide) rfl rfl ?_
      refine aw_iinc (q := 28) (v := x2 + (-1)) (L' := [none, some (.int x1), some (.int (x2 + (-1))), some (.long (x3 * 2)), none, none, none, none, none, none, none]) dX7_floatBits_25 rfl rfl (by first | rfl | decide) (by decide) rfl rfl ?_
      refine aw_goto (q := 12) dX7_floatBits_28 (by decide) ?_
      exact aw_fewer (L' := [none, some (.int x1), some (.int (x2 + (-1))), some (.long (x3 * 2)), none, none, none, none, none, none, none]) ⟨rfl, ⟨rfl, ⟨rfl, trivial⟩⟩⟩ (ih  (x2 + (-1)) (x3 * 2) _ H KE)
def f_X7_floatBits (x0 : Int32) (x1 : Int32) : Option Int32 :=
  if x0 = 0 then (
    some 0
  ) else (
    Option.bind (f_X7_floatBits_12 zFu x1 127 x0.toInt64) fun e2 =>
    if ¬ x1.toInt64 = 0 then
    if (0 : Int32) < (lg_cmp (2 * ((e2.2 * 8388608) - (e2.2 * 8388608) / x1.toInt64 * x1.toInt64)) x1.toInt64) then (
      some ((e2.1 <<< (23 &&& 31)) + (((((e2.2 * 8388608) / x1.toInt64) + 1) - 8388608).toInt32))
    ) else (
      if (lg_cmp (2 * ((e2.2 * 8388608) - (e2.2 * 8388608) / x1.toInt64 * x1.toInt64)) x1.toInt64) = 0 then (
        if (lg_cmp (((e2.2 * 8388608) / x1.toInt64) - ((e2.2 * 8388608) / x1.toInt64) / 2 * 2) 1) = 0 then (
          some ((e2.1 <<< (23 &&& 31)) + (((((e2.2 * 8388608) / x1.toInt64) + 1) - 8388608).toInt32))
        ) else (
          some ((e2.1 <<< (23 &&& 31)) + ((((e2.2 * 8388608) / x1.toInt64) - 8388608).toInt32))
        )
      ) else (
        some ((e2.1 <<< (23 &&& 31)) + ((((e2.2 * 8388608) / x1.toInt64) - 8388608).toInt32))
      )
    )
    else none
  )
set_option maxHeartbeats 4000000 in
set_option maxRecDepth 100000 in
theorem c_X7_floatBits {G : zG} {sl : Nat} (h : zH) (x0 : Int32) (x1 : Int32) {v9 : Int32} (H : f_X7_floatBits x0 x1 = some v9) : zMv G 0 M_X7_floatBits [.int x0, .int x1] sl h (fun r h' => r = some (.int v9) ∧ h' = h) := by
  unfold f_X7_floatBits at H
  refine zMv_of (L := [some (.int x0), some (.int x1), none, none, none, none, none, none, none, none, none]) (by decide) rfl (Nat.le_of_ble_eq_true rfl) rfl ?_
  refine aw_iload_n (q := 1) dX7_floatBits_0 rfl rfl ?_
  refine aw_if_neP (q := 4) (t := 6) dX7_floatBits_1 rfl (by decide) (fun h1 => ?_) (fun h1 => ?_)
  · replace H := zt h1 H
    refine aw_iconst (q := 5) (v := 0) dX7_floatBits_4 rfl (by decide) ?_
    cases H
    exact aw_ret dX7_floatBits_5 rfl rfl rfl rfl ⟨rfl, rfl⟩
  · replace H := zf h1 H
    refine aw_bipush (q := 8) (v := 127) dX7_floatBits_6 rfl (by decide) ?_
    refine aw_istore_n (q := 9) (L' := [some (.int x0), some (.int x1), some (.int 127), none, none, none, none, none, none, none, none]) dX7_floatBits_8 rfl (by decide) rfl rfl ?_
    refine aw_iload_n (q := 10) dX7_floatBits_9 rfl rfl ?_
    refine aw_i2l (q := 11) dX7_floatBits_10 rfl ?_
    refine aw_lstore_n (q := 12) (L' := [some (.int x0), some (.int x1), some (.int 127), some (.long x0.toInt64), none, none, none, none, none, none, none]) dX7_floatBits_11 rfl (by decide) rfl rfl ?_
    obtain ⟨e2, he2, H⟩ := zbd H
    refine aw_fewer (L' := [none, some (.int x1), some (.int 127), some (.long x0.toInt64), none, none, none, none, none, none, none]) ⟨rfl, ⟨rfl, ⟨rfl, trivial⟩⟩⟩ ?_
    refine L_X7_floatBits_12 h x1 zFu  127 x0.toInt64 e2 he2 ?_
    refine aw_lload_n (q := 32) dX7_floatBits_31 rfl rfl ?_
    refine aw_ldc2 (q := 35) dX7_floatBits_32 rfl q_X7_180 ?_
    refine aw_lmul (q := 36) dX7_floatBits_35 rfl ?_
    refine aw_lstore (q := 38) (L' := [none, some (.int x1), some (.int e2.1), some (.long e2.2), none, some (.long (e2.2 * 8388608)), none, none, none, none, none]) dX7_floatBits_36 rfl (by decide) rfl rfl ?_
    refine aw_lload (q := 40) dX7_floatBits_38 rfl rfl ?_
    refine aw_iload_n (q := 41) dX7_floatBits_40 rfl rfl ?_
    refine aw_i2l (q := 42) dX7_floatBits_41 rfl ?_
    obtain ⟨h3, H⟩ := zio H
    refine aw_ldiv (q := 43) dX7_floatBits_42 rfl h3 ?_
    refine aw_lstore (q := 45) (L' := [none, some (.int x1), some (.int e2.1), some (.long e2.2), none, some (.long (e2.2 * 8388608)), none, some (.long ((e2.2 * 8388608) / x1.toInt64)), none, none, none]) dX7_floatBits_43 rfl (by decide) rfl rfl ?_
    refine aw_ldc2 (q := 48) dX7_floatBits_45 rfl q_X7_178 ?_
    refine aw_lload (q := 50) dX7_floatBits_48 rfl rfl ?_
    refine aw_iload_n (q := 51) dX7_floatBits_50 rfl rfl ?_
    refine aw_i2l (q := 52) dX7_floatBits_51 rfl ?_
    refine aw_lrem (q := 53) dX7_floatBits_52 rfl h3 ?_
    refine aw_lmul (q := 54) dX7_floatBits_53 rfl ?_
    refine aw_lstore (q := 56) (L' := [none, some (.int x1), some (.int e2.1), some (.long e2.2), none, some (.long (e2.2 * 8388608)), none, some (.long ((e2.2 * 8388608) / x1.toInt64)), none, some (.long (2 * ((e2.2 * 8388608) - (e2.2 * 8388608) / x1.toInt64 * x1.toInt64))), none]) dX7_floatBits_54 rfl (by decide) rfl rfl ?_
    refine aw_lload (q := 58) dX7_floatBits_56 rfl rfl ?_
    refine aw_iload_n (q := 59) dX7_floatBits_58 rfl rfl ?_
    refine aw_i2l (q := 60) dX7_floatBits_59 rfl ?_
    refine aw_lcmp (q := 61) dX7_floatBits_60 rfl ?_
    refine aw_if_gt (q := 64) (t := 83) dX7_floatBits_61 rfl (by decide) (fun h4 => ?_) (fun h4 => ?_)
    · replace H := zt h4 H
      refine aw_lload (q := 85) dX7_floatBits_83 rfl rfl ?_
      refine aw_lconst (q := 86) (v := 1) dX7_floatBits_85 rfl rfl ?_
      refine aw_ladd (q := 87) dX7_floatBits_86 rfl ?_
      refine aw_lstore (q := 89) (L' := [none, some (.int x1), some (.int e2.1), some (.long e2.2), none, some (.long (e2.2 * 8388608)), none, some (.long (((e2.2 * 8388608) / x1.toInt64) + 1)), none, some (.long (2 * ((e2.2 * 8388608) - (e2.2 * 8388608) / x1.toInt64 * x1.toInt64))), none]) dX7_floatBits_87 rfl (by decide) rfl rfl ?_
      refine aw_iload_n (q := 90) dX7_floatBits_89 rfl rfl ?_
      refine aw_bipush (q := 92) (v := 23) dX7_floatBits_90 rfl (by decide) ?_
      refine aw_ishl (q := 93) dX7_floatBits_92 rfl ?_
      refine aw_lload (q := 95) dX7_floatBits_93 rfl rfl ?_
      refine aw_ldc2 (q := 98) dX7_floatBits_95 rfl q_X7_180 ?_
      refine aw_lsub (q := 99) dX7_floatBits_98 rfl ?_
      refine aw_l2i (q := 100) dX7_floatBits_99 rfl ?_
      refine aw_iadd (q := 101) dX7_floatBits_100 rfl ?_
      cases H
      exact aw_ret dX7_floatBits_101 rfl rfl rfl rfl ⟨rfl, rfl⟩
    · replace H := zf h4 H
      refine aw_lload (q := 66) dX7_floatBits_64 rfl rfl ?_
      refine aw_iload_n (q := 67) dX7_floatBits_66 rfl rfl ?_
      refine aw_i2l (q := 68) dX7_floatBits_67 rfl ?_
      refine aw_lcmp (q := 69) dX7_floatBits_68 rfl ?_
      refine aw_if_neP (q := 72) (t := 89) dX7_floatBits_69 rfl (by decide) (fun h5 => ?_) (fun h5 => ?_)
      · replace H := zt h5 H
        refine aw_lload (q := 74) dX7_floatBits_72 rfl rfl ?_
        refine aw_ldc2 (q := 77) dX7_floatBits_74 rfl q_X7_178 ?_
        refine aw_lrem (q := 78) dX7_floatBits_77 rfl (by decide) ?_
        refine aw_lconst (q := 79) (v := 1) dX7_floatBits_78 rfl rfl ?_
        refine aw_lcmp (q := 80) dX7_floatBits_79 rfl ?_
        refine aw_if_neP (q := 83) (t := 89) dX7_floatBits_80 rfl (by decide) (fun h6 => ?_) (fun h6 => ?_)
        · replace H := zt h6 H
          refine aw_lload (q := 85) dX7_floatBits_83 rfl rfl ?_
          refine aw_lconst (q := 86) (v := 1) dX7_floatBits_85 rfl rfl ?_
          refine aw_ladd (q := 87) dX7_floatBits_86 rfl ?_
          refine aw_lstore (q := 89) (L' := [none, some (.int x1), some (.int e2.1), some (.long e2.2), none, some (.long (e2.2 * 8388608)), none, some (.long (((e2.2 * 8388608) / x1.toInt64) + 1)), none, some (.long (2 * ((e2.2 * 8388608) - (e2.2 * 8388608) / x1.toInt64 * x1.toInt64))), none]) dX7_floatBits_87 rfl (by decide) rfl rfl ?_
          refine aw_iload_n (q := 90) dX7_floatBits_89 rfl rfl ?_
          refine aw_bipush (q := 92) (v := 23) dX7_floatBits_90 rfl (by decide) ?_
          refine aw_ishl (q := 93) dX7_floatBits_92 rfl ?_
          refine aw_lload (q := 95) dX7_floatBits_93 rfl rfl ?_
          refine aw_ldc2 (q := 98) dX7_floatBits_95 rfl q_X7_180 ?_
          refine aw_lsub (q := 99) dX7_floatBits_98 rfl ?_
          refine aw_l2i (q := 100) dX7_floatBits_99 rfl ?_
          refine aw_iadd (q := 101) dX7_floatBits_100 rfl ?_
          cases H
          exact aw_ret dX7_floatBits_101 rfl rfl rfl rfl ⟨rfl, rfl⟩
        · replace H := zf h6 H
          refine aw_iload_n (q := 90) dX7_floatBits_89 rfl rfl ?_
          refine aw_bipush (q := 92) (v := 23) dX7_floatBits_90 rfl (by decide) ?_
          refine aw_ishl (q := 93) dX7_floatBits_92 rfl ?_
          refine aw_lload (q := 95) dX7_floatBits_93 rfl rfl ?_
          refine aw_ldc2 (q := 98) dX7_floatBits_95 rfl q_X7_180 ?_
          refine aw_lsub (q := 99) dX7_floatBits_98 rfl ?_
          refine aw_l2i (q := 100) dX7_floatBits_99 rfl ?_
          refine aw_iadd (q := 101) dX7_floatBits_100 rfl ?_
          cases H
          exact aw_ret dX7_floatBits_101 rfl rfl rfl rfl ⟨rfl, rfl⟩
      · replace H := zf h5 H
        refine aw_iload_n (q := 90) dX7_floatBits_89 rfl rfl ?_
        refine aw_bipush (q := 92) (v := 23) dX7_floatBits_90 rfl (by decide) ?_
        refine aw_ishl (q := 93) dX7_floatBits_92 rfl ?_
        refine aw_lload (q := 95) dX7_floatBits_93 rfl rfl ?_
        refine aw_ldc2 (q := 98) dX7_floatBits_95 rfl q_X7_180 ?_
        refine aw_lsub (q := 99) dX7_floatBits_98 rfl ?_
        refine aw_l2i (q := 100) dX7_floatBits_99 rfl ?_
        refine aw_iadd (q := 101) dX7_floatBits_100 rfl ?_
        cases H
        exact aw_ret dX7_floatBits_101 rfl rfl rfl rfl ⟨rfl, rfl⟩
def f_X7_share_14 : Nat → zr → Int32 → Int32 → Int32 → Option (zr × Int32)
  | 0, _, _, _, _ => none
  | k + 1, s, x1, x2, x3 =>
    if (s 1 2) ≤ x3 then (
      some (s, x2)
    ) else (
      Option.bind (f_X7_touchedOn s x1) fun v2 =>
      Option.bind (f_X7_isTold s x3 v2) fun v3 =>
      if v3.1 = true then (
        zlt (x2 + 1 : Int32) fun y5 =>
        f_X7_share_14 k v3.2 x1 y5 (x3 + 1)
      ) else (
        zlt (x2 + 0 : Int32) fun y7 =>
        f_X7_share_14 k v3.2 x1 y7 (x3 + 1)
      )
    )
set_option maxHeartbeats 4000000 in
set_option maxRecDepth 100000 in
theorem L_X7_share_14 {G : zG} {sl : Nat} {P : Option Value → zH → Prop} (sg : zs) (x1 : Int32) : ∀ (k : Nat) (s : zr) (x2 : Int32) (x3 : Int32) (e : zr × Int32), f_X7_share_14 k s x1 x2 x3 = some e → (AV G M_X7_share 9 sl P 51 [some (.ref 120), none, some (.int e.2), none] [] (zT sg e.1)) → AV G M_X7_share 9 sl P 14 [some (.ref 120), some (.int x1), some (.int x2), some (.int x3)] [] (zT sg s) := by
  intro k
  induction k with
  | zero =>
    intro s x2 x3 e H
    unfold f_X7_share_14 at H
    cases H
  | succ k ih =>
    intro s x2 x3 e H KE
    unfold f_X7_share_14 at H
    refine aw_iload_n (q := 15) dX7_share_14 rfl rfl ?_
    refine aw_aload_n (q := 16) dX7_share_15 rfl rfl ?_
    refine aw_getr (q := 19) dX7_share_16 rfl e_X7_7 (by decide) (o_X7 sg s) rfl ?_
    refine aw_iconst (q := 20) (v := 2) dX7_share_19 rfl (by decide) ?_
    refine aw_iald' (q := 21) (v := s 1 2) dX7_share_20 rfl (by decide) (o_X7a0 sg s) (zin_in (by decide)) rfl ?_
    refine aw_icmp_ge (q := 24) (t := 51) dX7_share_21 rfl (by decide) (fun h1 => ?_) (fun h1 => ?_)
    · replace H := zt h1 H
      cases H
      exact aw_fewer (L' := [some (.ref 120), none, some (.int x2), none]) ⟨rfl, ⟨rfl, trivial⟩⟩ KE
    · replace H := zf h1 H
      refine aw_iload_n (q := 25) dX7_share_24 rfl rfl ?_
      refine aw_aload_n (q := 26) dX7_share_25 rfl rfl ?_
      refine aw_iload_n (q := 27) dX7_share_26 rfl rfl ?_
      refine aw_aload_n (q := 28) dX7_share_27 rfl rfl ?_
      refine aw_iload_n (q := 29) dX7_share_28 rfl rfl ?_
      obtain ⟨v2, hv2, H⟩ := zbd H
      refine aw_cv (M' := M_X7_touchedOn) (as := [.int x1]) (q := 32) dX7_share_29 rfl W_X7_touchedOn k_X7_90 i_X7_touchedOn v_X7_touchedOn (by decide) (o_X7 sg s) rfl rfl rfl (by decide) (Nat.le_of_ble_eq_true rfl) (c_X7_touchedOn sg s x1 hv2) (Nat.le_refl _) (Nat.le_refl _) ?_
      rintro r9 h9 ⟨rfl, rfl⟩
      obtain ⟨v3, hv3, H⟩ := zbd H
      refine aw_cv (M' := M_X7_isTold) (as := [.int x3, .int v2]) (q := 35) dX7_share_32 rfl W_X7_isTold k_X7_172 i_X7_isTold v_X7_isTold (by decide) (o_X7 sg s) rfl rfl rfl (by decide) (Nat.le_of_ble_eq_true rfl) (c_X7_isTold sg s x3 v2 hv3) (Nat.le_refl _) (Nat.le_refl _) ?_
      rintro r9 h9 ⟨rfl, rfl⟩
      refine aw_ifeqB (q := 38) (t := 42) dX7_share_35 rfl (by decide) (fun h4 => ?_) (fun h4 => ?_)
      · replace H := zt h4 H
        refine aw_iconst (q := 39) (v := 1) dX7_share_38 rfl (by decide) ?_
        refine aw_goto (q := 43) dX7_share_39 (by decide) ?_
        refine aw_iadd (q := 44) dX7_share_43 rfl ?_
        obtain ⟨y5, q6, H⟩ := zltd H
        refine aw_nm q6 ?_
        refine aw_istore_n (q := 45) (L' := [some (.ref 120), some (.int x1), some (.int y5), some (.int x3)]) dX7_share_44 rfl (by decide) rfl rfl ?_
        refine aw_iinc (q := 48) (v := x3 + 1) (L' := [some (.ref 120), some (.int x1), some (.int y5), some (.int (x3 + 1))]) dX7_share_45 rfl rfl (by first | rfl | decide) (by decide) rfl rfl ?_
        refine aw_goto (q := 14) dX7_share_48 (by decide) ?_
        exact aw_fewer (L' := [some (.ref 120), some (.int x1), some (.int y5), some (.int (x3 + 1))]) ⟨rfl, ⟨rfl, ⟨rfl, ⟨rfl, trivial⟩⟩⟩⟩ (ih v3.2 y5 (x3 + 1) _ H KE)
      · replace H := zf h4 H
        refine aw_iconst (q := 43) (v := 0) dX7_share_42 rfl (by decide) ?_
        refine aw_iadd (q := 44) dX7_share_43 rfl ?_
        obtain ⟨y7, q8, H⟩ := zltd H
        refine aw_nm q8 ?_
        refine aw_istore_n (q := 45) (L' := [some (.ref 120), some (.int x1), some (.int y7), some (.int x3)]) dX7_share_44 rfl (by decide) rfl rfl ?_
        refine aw_iinc (q := 48) (v := x3 + 1) (L' := [some (.ref 120), some (.int x1), some (.int y7), some (.int (x3 + 1))]) dX7_share_45 rfl rfl (by first | rfl | decide) (by decide) rfl rfl ?_
        refine aw_goto (q := 14) dX7_share_48 (by decide) ?_
        exact aw_fewer (L' := [some (.ref 120), some (.int x1), some (.int y7), some (.int (x3 + 1))]) ⟨rfl, ⟨rfl, ⟨rfl, ⟨rfl, trivial⟩⟩⟩⟩ (ih v3.2 y7 (x3 + 1) _ H KE)
def f_X7_share (s : zr) (x1 : Int32) : Option (Int32 × zr) :=
  if f_X7_isDay x1 = true then (
    Option.bind (f_X7_share_14 zFu s x1 0 0) fun e2 =>
    if (e2.1 1 2) = 0 then (
      Option.bind (f_X7_floatBits 1 1) fun v4 =>
      some (v4, e2.1)
    ) else (
      Option.bind (f_X7_floatBits e2.2 (e2.1 1 2)) fun v5 =>
      some (v5, e2.1)
    )
  ) else (
    some ((-1000001), s)
  )
set_option maxHeartbeats 4000000 in
set_option maxRecDepth 100000 in
theorem c_X7_share {G : zG} {sl : Nat} (sg : zs) (s : zr) (x1 : Int32) {v9 : (Int32 × zr)} (H : f_X7_share s x1 = some v9) : zMv G 9 M_X7_share [.ref 120, .int x1] sl (zT sg s) (fun r h' => r = some (.int v9.1) ∧ h' = zT sg v9.2) := by
  unfold f_X7_share at H
  refine zMv_of (L := [some (.ref 120), some (.int x1), none, none]) (by decide) rfl (Nat.le_of_ble_eq_true rfl) rfl ?_
  refine aw_iload_n (q := 1) dX7_share_0 rfl rfl ?_
  refine aw_cs (M' := M_X7_isDay) (as := [.int x1]) (q := 4) dX7_share_1 rfl W_X7_isDay k_X7_144 s_X7_isDay rfl rfl (by decide) (Nat.le_of_ble_eq_true rfl) (c_X7_isDay (zT sg s) x1) (Nat.le_refl _) (Nat.le_refl _) ?_
  rintro r9 h9 ⟨rfl, rfl⟩
  refine aw_ifneB (q := 7) (t := 10) dX7_share_4 rfl (by decide) (fun h1 => ?_) (fun h1 => ?_)
  · replace H := zt h1 H
    refine aw_iconst (q := 11) (v := 0) dX7_share_10 rfl (by decide) ?_
    refine aw_istore_n (q := 12) (L' := [some (.ref 120), some (.int x1), some (.int 0), none]) dX7_share_11 rfl (by decide) rfl rfl ?_
    refine aw_iconst (q := 13) (v := 0) dX7_share_12 rfl (by decide) ?_
    refine aw_istore_n (q := 14) (L' := [some (.ref 120), some (.int x1), some (.int 0), some (.int 0)]) dX7_share_13 rfl (by decide) rfl rfl ?_
    obtain ⟨e2, he2, H⟩ := zbd H
    refine aw_fewer (L' := [some (.ref 120), some (.int x1), some (.int 0), some (.int 0)]) ⟨rfl, ⟨rfl, ⟨rfl, ⟨rfl, trivial⟩⟩⟩⟩ ?_
    refine L_X7_share_14 sg x1 zFu s 0 0 e2 he2 ?_
    refine aw_aload_n (q := 52) dX7_share_51 rfl rfl ?_
    refine aw_getr (q := 55) dX7_share_52 rfl e_X7_7 (by decide) (o_X7 sg e2.1) rfl ?_
    refine aw_iconst (q := 56) (v := 2) dX7_share_55 rfl (by decide) ?_
    refine aw_iald' (q := 57) (v := e2.1 1 2) dX7_share_56 rfl (by decide) (o_X7a0 sg e2.1) (zin_in (by decide)) rfl ?_
    refine aw_if_neP (q := 60) (t := 68) dX7_share_57 rfl (by decide) (fun h3 => ?_) (fun h3 => ?_)
    · replace H := zt h3 H
      refine aw_iconst (q := 61) (v := 1) dX7_share_60 rfl (by decide) ?_
      refine aw_iconst (q := 62) (v := 1) dX7_share_61 rfl (by decide) ?_
      obtain ⟨v4, hv4, H⟩ := zbd H
      refine aw_cs (M' := M_X7_floatBits) (as := [.int 1, .int 1]) (q := 65) dX7_share_62 rfl W_X7_floatBits k_X7_182 s_X7_floatBits rfl rfl (by decide) (Nat.le_of_ble_eq_true rfl) (c_X7_floatBits (zT sg e2.1) 1 1 hv4) (Nat.le_refl _) (Nat.le_refl _) ?_
      rintro r9 h9 ⟨rfl, rfl⟩
      refine aw_goto (q := 78) dX7_share_65 (by decide) ?_
      cases H
      exact aw_ret dX7_share_78 rfl rfl rfl rfl ⟨rfl, rfl⟩
    · replace H := zf h3 H
      refine aw_iload_n (q := 69) dX7_share_68 rfl rfl ?_
      refine aw_aload_n (q := 70) dX7_share_69 rfl rfl ?_
      refine aw_getr (q := 73) dX7_share_70 rfl e_X7_7 (by decide) (o_X7 sg e2.1) rfl ?_
      refine aw_iconst (q := 74) (v := 2) dX7_share_73 rfl (by decide) ?_
      refine aw_iald' (q := 75) (v := e2.1 1 2) dX7_share_74 rfl (by decide) (o_X7a0 sg e2.1) (zin_in (by decide)) rfl ?_
      obtain ⟨v5, hv5, H⟩ := zbd H
      refine aw_cs (M' := M_X7_floatBits) (as := [.int e2.2, .int (e2.1 1 2)]) (q := 78) dX7_share_75 rfl W_X7_floatBits k_X7_182 s_X7_floatBits rfl rfl (by decide) (Nat.le_of_ble_eq_true rfl) (c_X7_floatBits (zT sg e2.1) e2.2 (e2.1 1 2) hv5) (Nat.le_refl _) (Nat.le_refl _) ?_
      rintro r9 h9 ⟨rfl, rfl⟩
      cases H
      exact aw_ret dX7_share_78 rfl rfl rfl rfl ⟨rfl, rfl⟩
  · replace H := zf h1 H
    refine aw_ldc (q := 9) dX7_share_7 rfl q_X7_53 ?_
    cases H
    exact aw_ret dX7_share_9 rfl rfl rfl rfl ⟨rfl, rfl⟩
def f_X7_plant (s : zr) (x1 : Int32) : Option (Int32 × zr) :=
  if f_X7_isFaultOrNone s x1 = true then (
    Option.bind (f_X7_records s) fun v2 =>
    zlt (zm v2 1 6 x1) fun s3 =>
    zlt (zm s3 1 7 ((((1 : Int32) <<< ((s3 1 2) &&& 31)) - 1) ||| 1024)) fun s5 =>
    Option.bind (f_X7_ones (s5 1 7)) fun v7 =>
    some (v7, s5)
  ) else (
    some ((-1000001), s)
  )
set_option maxHeartbeats 4000000 in
set_option maxRecDepth 100000 in
theorem c_X7_plant {G : zG} {sl : Nat} (sg : zs) (s : zr) (x1 : Int32) {v9 : (Int32 × zr)} (H : f_X7_plant s x1 = some v9) : zMv G 2 M_X7_plant [.ref 120, .int x1] sl (zT sg s) (fun r h' => r = some (.int v9.1) ∧ h' = zT sg v9.2) := by
  unfold f_X7_plant at H
  refine zMv_of (L := [some (.ref 120), some (.int x1)]) (by decide) rfl (Nat.le_of_ble_eq_true rfl) rfl ?_
  refine aw_aload_n (q := 1) dX7_plant_0 rfl rfl ?_
  refine aw_iload_n (q := 2) dX7_plant_1 rfl rfl ?_
  refine aw_cv (M' := M_X7_isFaultOrNone) (as := [.int x1]) (q := 5) dX7_plant_2 rfl W_X7_isFaultOrNone k_X7_147 i_X7_isFaultOrNone v_X7_isFaultOrNone (by decide) (o_X7 sg s) rfl rfl rfl (by decide) (Nat.le_of_ble_eq_true rfl) (c_X7_isFaultOrNone sg s x1) (Nat.le_refl _) (Nat.le_refl _) ?_
  rintro r9 h9 ⟨rfl, rfl⟩
  refine aw_ifneB (q := 8) (t := 11) dX7_plant_5 rfl (by decide) (fun h1 => ?_) (fun h1 => ?_)
  · replace H := zt h1 H
    refine aw_aload_n (q := 12) dX7_plant_11 rfl rfl ?_
    obtain ⟨v2, hv2, H⟩ := zbd H
    refine aw_cv (M' := M_X7_records) (as := []) (q := 15) dX7_plant_12 rfl W_X7_records k_X7_61 i_X7_records v_X7_records (by decide) (o_X7 sg s) rfl rfl rfl (by decide) (Nat.le_of_ble_eq_true rfl) (c_X7_records sg s hv2) (Nat.le_refl _) (Nat.le_refl _) ?_
    rintro r9 h9 ⟨rfl, rfl⟩
    refine aw_aload_n (q := 16) dX7_plant_15 rfl rfl ?_
    refine aw_getr (q := 19) dX7_plant_16 rfl e_X7_7 (by decide) (o_X7 sg v2) rfl ?_
    refine aw_bipush (q := 21) (v := 6) dX7_plant_19 rfl (by decide) ?_
    refine aw_iload_n (q := 22) dX7_plant_21 rfl rfl ?_
    obtain ⟨s3, q4, H⟩ := zltd H
    refine aw_iast (q := 23) dX7_plant_22 rfl (by decide) (o_X7a0 sg v2) (zin_in (by decide)) ((p_X7a0).trans (congrArg (fun z => zT sg z) q4.symm)) ?_
    refine aw_aload_n (q := 24) dX7_plant_23 rfl rfl ?_
    refine aw_getr (q := 27) dX7_plant_24 rfl e_X7_7 (by decide) (o_X7 sg s3) rfl ?_
    refine aw_bipush (q := 29) (v := 7) dX7_plant_27 rfl (by decide) ?_
    refine aw_iconst (q := 30) (v := 1) dX7_plant_29 rfl (by decide) ?_
    refine aw_aload_n (q := 31) dX7_plant_30 rfl rfl ?_
    refine aw_getr (q := 34) dX7_plant_31 rfl e_X7_7 (by decide) (o_X7 sg s3) rfl ?_
    refine aw_iconst (q := 35) (v := 2) dX7_plant_34 rfl (by decide) ?_
    refine aw_iald' (q := 36) (v := s3 1 2) dX7_plant_35 rfl (by decide) (o_X7a0 sg s3) (zin_in (by decide)) rfl ?_
    refine aw_ishl (q := 37) dX7_plant_36 rfl ?_
    refine aw_iconst (q := 38) (v := 1) dX7_plant_37 rfl (by decide) ?_
    refine aw_isub (q := 39) dX7_plant_38 rfl ?_
    refine aw_sipush (q := 42) (v := 1024) dX7_plant_39 rfl (by decide) ?_
    refine aw_ior (q := 43) dX7_plant_42 rfl ?_
    obtain ⟨s5, q6, H⟩ := zltd H
    refine aw_iast (q := 44) dX7_plant_43 rfl (by decide) (o_X7a0 sg s3) (zin_in (by decide)) ((p_X7a0).trans (congrArg (fun z => zT sg z) q6.symm)) ?_
    refine aw_aload_n (q := 45) dX7_plant_44 rfl rfl ?_
    refine aw_getr (q := 48) dX7_plant_45 rfl e_X7_7 (by decide) (o_X7 sg s5) rfl ?_
    refine aw_bipush (q := 50) (v := 7) dX7_plant_48 rfl (by decide) ?_
    refine aw_iald' (q := 51) (v := s5 1 7) dX7_plant_50 rfl (by decide) (o_X7a0 sg s5) (zin_in (by decide)) rfl ?_
    obtain ⟨v7, hv7, H⟩ := zbd H
    refine aw_cs (M' := M_X7_ones) (as := [.int (s5 1 7)]) (q := 54) dX7_plant_51 rfl W_X7_ones k_X7_49 s_X7_ones rfl rfl (by decide) (Nat.le_of_ble_eq_true rfl) (c_X7_ones (zT sg s5) (s5 1 7) hv7) (Nat.le_refl _) (Nat.le_refl _) ?_
    rintro r9 h9 ⟨rfl, rfl⟩
    cases H
    exact aw_ret dX7_plant_54 rfl rfl rfl rfl ⟨rfl, rfl⟩
  · replace H := zf h1 H
    refine aw_ldc (q := 10) dX7_plant_8 rfl q_X7_53 ?_
    cases H
    exact aw_ret dX7_plant_10 rfl rfl rfl rfl ⟨rfl, rfl⟩
def f_X7_test (s : zr) : Option (Int32 × zr) :=
  Option.bind (f_X7_records s) fun v1 =>
  Option.bind (f_X7_touchedNow v1) fun v2 =>
  Option.bind (f_X7_measures v1 v2) fun v3 =>
  Option.bind (f_X7_likeSet v3 (f_X7_slotOf (v3 1 6))) fun v4 =>
  zlt (zm v3 1 7 ((v3 1 7) &&& v4)) fun s5 =>
  zlt (zm s5 1 8 ((s5 1 8) + 1)) fun s7 =>
  Option.bind (f_X7_ones (s7 1 7)) fun v9 =>
  some (v9, s7)
set_option maxHeartbeats 4000000 in
set_option maxRecDepth 100000 in
theorem c_X7_test {G : zG} {sl : Nat} (sg : zs) (s : zr)  {v9 : (Int32 × zr)} (H : f_X7_test s = some v9) : zMv G 9 M_X7_test [.ref 120] sl (zT sg s) (fun r h' => r = some (.int v9.1) ∧ h' = zT sg v9.2) := by
  unfold f_X7_test at H
  refine zMv_of (L := [some (.ref 120)]) (by decide) rfl (Nat.le_of_ble_eq_true rfl) rfl ?_
  refine aw_aload_n (q := 1) dX7_test_0 rfl rfl ?_
  obtain ⟨v1, hv1, H⟩ := zbd H
  refine aw_cv (M' := M_X7_records) (as := []) (q := 4) dX7_test_1 rfl W_X7_records k_X7_61 i_X7_records v_X7_records (by decide) (o_X7 sg s) rfl rfl rfl (by decide) (Nat.le_of_ble_eq_true rfl) (c_X7_records sg s hv1) (Nat.le_refl _) (Nat.le_refl _) ?_
  rintro r9 h9 ⟨rfl, rfl⟩
  refine aw_aload_n (q := 5) dX7_test_4 rfl rfl ?_
  refine aw_aload_n (q := 6) dX7_test_5 rfl rfl ?_
  obtain ⟨v2, hv2, H⟩ := zbd H
  refine aw_cv (M' := M_X7_touchedNow) (as := []) (q := 9) dX7_test_6 rfl W_X7_touchedNow k_X7_97 i_X7_touchedNow v_X7_touchedNow (by decide) (o_X7 sg v1) rfl rfl rfl (by decide) (Nat.le_of_ble_eq_true rfl) (c_X7_touchedNow sg v1 hv2) (Nat.le_refl _) (Nat.le_refl _) ?_
  rintro r9 h9 ⟨rfl, rfl⟩
  obtain ⟨v3, hv3, H⟩ := zbd H
  refine aw_cv (M' := M_X7_measures) (as := [.int v2]) (q := 12) dX7_test_9 rfl W_X7_measures k_X7_156 i_X7_measures v_X7_measures (by decide) (o_X7 sg v1) rfl rfl rfl (by decide) (Nat.le_of_ble_eq_true rfl) (c_X7_measures sg v1 v2 hv3) (Nat.le_refl _) (Nat.le_refl _) ?_
  rintro r9 h9 ⟨rfl, rfl⟩
  refine aw_aload_n (q := 13) dX7_test_12 rfl rfl ?_
  refine aw_getr (q := 16) dX7_test_13 rfl e_X7_7 (by decide) (o_X7 sg v3) rfl ?_
  refine aw_bipush (q := 18) (v := 7) dX7_test_16 rfl (by decide) ?_
  refine aw_dup2 (q := 19) dX7_test_18 rfl rfl rfl ?_
  refine aw_iald' (q := 20) (v := v3 1 7) dX7_test_19 rfl (by decide) (o_X7a0 sg v3) (zin_in (by decide)) rfl ?_
  refine aw_aload_n (q := 21) dX7_test_20 rfl rfl ?_
  refine aw_aload_n (q := 22) dX7_test_21 rfl rfl ?_
  refine aw_getr (q := 25) dX7_test_22 rfl e_X7_7 (by decide) (o_X7 sg v3) rfl ?_
  refine aw_bipush (q := 27) (v := 6) dX7_test_25 rfl (by decide) ?_
  refine aw_iald' (q := 28) (v := v3 1 6) dX7_test_27 rfl (by decide) (o_X7a0 sg v3) (zin_in (by decide)) rfl ?_
  refine aw_cs (M' := M_X7_slotOf) (as := [.int (v3 1 6)]) (q := 31) dX7_test_28 rfl W_X7_slotOf k_X7_150 s_X7_slotOf rfl rfl (by decide) (Nat.le_of_ble_eq_true rfl) (c_X7_slotOf (zT sg v3) (v3 1 6)) (Nat.le_refl _) (Nat.le_refl _) ?_
  rintro r9 h9 ⟨rfl, rfl⟩
  obtain ⟨v4, hv4, H⟩ := zbd H
  refine aw_cv (M' := M_X7_likeSet) (as := [.int (f_X7_slotOf (v3 1 6))]) (q := 34) dX7_test_31 rfl W_X7_likeSet k_X7_160 i_X7_likeSet v_X7_likeSet (by decide) (o_X7 sg v3) rfl rfl rfl (by decide) (Nat.le_of_ble_eq_true rfl) (c_X7_likeSet sg v3 (f_X7_slotOf (v3 1 6)) hv4) (Nat.le_refl _) (Nat.le_refl _) ?_
  rintro r9 h9 ⟨rfl, rfl⟩
  refine aw_iand (q := 35) dX7_test_34 rfl ?_
  obtain ⟨s5, q6, H⟩ := zltd H
  refine aw_iast (q := 36) dX7_test_35 rfl (by decide) (o_X7a0 sg v3) (zin_in (by decide)) ((p_X7a0).trans (congrArg (fun z => zT sg z) q6.symm)) ?_
  refine aw_aload_n (q := 37) dX7_test_36 rfl rfl ?_
  refine aw_getr (q := 40) dX7_test_37 rfl e_X7_7 (by decide) (o_X7 sg s5) rfl ?_
  refine aw_bipush (q := 42) (v := 8) dX7_test_40 rfl (by decide) ?_
  refine aw_dup2 (q := 43) dX7_test_42 rfl rfl rfl ?_
  refine aw_iald' (q := 44) (v := s5 1 8) dX7_test_43 rfl (by decide) (o_X7a0 sg s5) (zin_in (by decide)) rfl ?_
  refine aw_iconst (q := 45) (v := 1) dX7_test_44 rfl (by decide) ?_
  refine aw_iadd (q := 46) dX7_test_45 rfl ?_
  obtain ⟨s7, q8, H⟩ := zltd H
  refine aw_iast (q := 47) dX7_test_46 rfl (by decide) (o_X7a0 sg s5) (zin_in (by decide)) ((p_X7a0).trans (congrArg (fun z => zT sg z) q8.symm)) ?_
  refine aw_aload_n (q := 48) dX7_test_47 rfl rfl ?_
  refine aw_getr (q := 51) dX7_test_48 rfl e_X7_7 (by decide) (o_X7 sg s7) rfl ?_
  refine aw_bipush (q := 53) (v := 7) dX7_test_51 rfl (by decide) ?_
  refine aw_iald' (q := 54) (v := s7 1 7) dX7_test_53 rfl (by decide) (o_X7a0 sg s7) (zin_in (by decide)) rfl ?_
  obtain ⟨v9, hv9, H⟩ := zbd H
  refine aw_cs (M' := M_X7_ones) (as := [.int (s7 1 7)]) (q := 57) dX7_test_54 rfl W_X7_ones k_X7_49 s_X7_ones rfl rfl (by decide) (Nat.le_of_ble_eq_true rfl) (c_X7_ones (zT sg s7) (s7 1 7) hv9) (Nat.le_refl _) (Nat.le_refl _) ?_
  rintro r9 h9 ⟨rfl, rfl⟩
  cases H
  exact aw_ret dX7_test_57 rfl rfl rfl rfl ⟨rfl, rfl⟩
