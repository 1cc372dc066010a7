/-! THE CONSTRUCTORS, the second part (this text is written by a program). -/
section ZINIT2
variable {G : zG}
def zcX3 : List va_E := ([.inr (3, [.ref 52, .ref 62, .ref 63, .int 0, .int 0, .int 0, .int 0, .int 0, .int 0])] ++ zcB 52 ++ [.inl (1, 100, .inl fun _ => 0), .inl (0, 8, .inl fun _ => 0)] : List va_E)
set_option maxRecDepth 100000 in
set_option maxHeartbeats 4000000 in
theorem k_X3_init {d : Nat} {h9 : zH} {sl : Nat} (hd : 2 ≤ d) : zMt G d M_X3_init [.ref 51] 52 sl (zov h9 51 [.inr (3, [.null, .null, .null, .int 0, .int 0, .int 0, .int 0, .int 0, .int 0])]) 64 (sl + 207) (fun r h' => r = none ∧ h' = zov h9 51 zcX3) := by
  refine zMt_of (L := [some (.ref 51)]) (by decide +kernel) (zk_cat rfl) (Nat.le_of_ble_eq_true rfl) (by omega) (by omega) rfl ?_
  refine aw_aload_n (q := 1) dX3_init_0 rfl rfl ?_
  refine aw_obj (q := 4) dX3_init_1 rfl k_X3_3 (by omega) (Nat.le_of_ble_eq_true rfl) ?_
  refine aw_aload_n (q := 5) dX3_init_4 rfl rfl ?_
  refine aw_new (q := 8) dX3_init_5 rfl nw_X3_9 (by omega) (by omega) (by omega) rfl ?_
  refine aw_dup (q := 9) dX3_init_8 rfl rfl ?_
  refine aw_ci (q := 12) (as := []) (b := 52) (st := [.ref 52, .ref 51]) dX3_init_9 rfl W_X0_init k_X3_11 i_X0_init rfl rfl rfl rfl (by omega) (Nat.le_of_ble_eq_true rfl) (k_X0_init (d := 1) (by omega) (by omega)) (by omega) (by omega) ?_
  rintro r h8 ⟨rfl, rfl⟩
  refine aw_st (st' := [.ref 52, .ref 51]) rfl ?_
  refine aw_w (h' := zov h9 51 ([.inr (3, [.null, .null, .null, .int 0, .int 0, .int 0, .int 0, .int 0, .int 0])] ++ zcB 52 : List va_E)) (zov_app (m := 52) rfl).symm ?_
  refine aw_putF (q := 15) (h' := zov h9 51 ([.inr (3, [.ref 52, .null, .null, .int 0, .int 0, .int 0, .int 0, .int 0, .int 0])] ++ zcB 52 : List va_E)) dX3_init_12 rfl f_X3_12 rfl (by omega) (zov_at (k := 0) rfl rfl) rfl rfl (Nat.le_of_ble_eq_true rfl) (zov_set (k := 0) rfl (Nat.le_of_ble_eq_true rfl) rfl) ?_
  refine aw_aload_n (q := 16) dX3_init_15 rfl rfl ?_
  refine aw_bipush (q := 18) (v := 100) dX3_init_16 rfl (by decide) ?_
  refine aw_newc (q := 20) (len := 100) (h' := zov h9 51 ([.inr (3, [.ref 52, .null, .null, .int 0, .int 0, .int 0, .int 0, .int 0, .int 0])] ++ zcB 52 ++ [.inl (1, 100, .inl fun _ => 0)] : List va_E)) dX3_init_18 rfl (by decide) (by decide) (by decide) (by omega) (by omega) (by omega) (zov_new rfl rfl) ?_
  refine aw_putF (q := 23) (h' := zov h9 51 ([.inr (3, [.ref 52, .ref 62, .null, .int 0, .int 0, .int 0, .int 0, .int 0, .int 0])] ++ zcB 52 ++ [.inl (1, 100, .inl fun _ => 0)] : List va_E)) dX3_init_20 rfl f_X3_18 rfl (by omega) (zov_at (k := 0) rfl rfl) rfl rfl (Nat.le_of_ble_eq_true rfl) (zov_set (k := 0) rfl (Nat.le_of_ble_eq_true rfl) rfl) ?_
  refine aw_aload_n (q := 24) dX3_init_23 rfl rfl ?_
  refine aw_bipush (q := 26) (v := 8) dX3_init_24 rfl (by decide) ?_
  refine aw_newi (q := 28) (len := 8) (h' := zov h9 51 ([.inr (3, [.ref 52, .ref 62, .null, .int 0, .int 0, .int 0, .int 0, .int 0, .int 0])] ++ zcB 52 ++ [.inl (1, 100, .inl fun _ => 0), .inl (0, 8, .inl fun _ => 0)] : List va_E)) dX3_init_26 rfl (by decide) (by decide) (by decide) (by omega) (by omega) (by omega) (zov_new rfl rfl) ?_
  refine aw_putF (q := 31) (h' := zov h9 51 ([.inr (3, [.ref 52, .ref 62, .ref 63, .int 0, .int 0, .int 0, .int 0, .int 0, .int 0])] ++ zcB 52 ++ [.inl (1, 100, .inl fun _ => 0), .inl (0, 8, .inl fun _ => 0)] : List va_E)) dX3_init_28 rfl f_X3_22 rfl (by omega) (zov_at (k := 0) rfl rfl) rfl rfl (Nat.le_of_ble_eq_true rfl) (zov_set (k := 0) rfl (Nat.le_of_ble_eq_true rfl) rfl) ?_
  exact aw_vret dX3_init_31 rfl (by omega) (by omega) ⟨rfl, rfl⟩
def zcX1 : List va_E := ([.inr (1, [.ref 2, .int 0]), .inl (2, 4, .inr (.inr (.inr (.inr (zrf 3 12 4)))))] ++ (zcS 4 14 :: (zcB 4 ++ [zcD])) ++ (zcS 16 26 :: (zcB 16 ++ [zcD])) ++ (zcS 28 38 :: (zcB 28 ++ [zcD])) ++ (zcS 40 50 :: (zcB 40 ++ [zcD])) : List va_E)
set_option maxRecDepth 100000 in
set_option maxHeartbeats 4000000 in
theorem k_X1_init {d : Nat} {h9 : zH} {sl : Nat} (hd : 2 ≤ d) : zMt G d M_X1_init [.ref 1] 2 sl (zov h9 1 [.inr (1, [.null, .int 0])]) 51 (sl + 472) (fun r h' => r = none ∧ h' = zov h9 1 zcX1) := by
  refine zMt_of (L := [some (.ref 1), none]) (by decide +kernel) (zk_cat rfl) (Nat.le_of_ble_eq_true rfl) (by omega) (by omega) rfl ?_
  refine aw_aload_n (q := 1) dX1_init_0 rfl rfl ?_
  refine aw_obj (q := 4) dX1_init_1 rfl k_X1_3 (by omega) (Nat.le_of_ble_eq_true rfl) ?_
  refine aw_aload_n (q := 5) dX1_init_4 rfl rfl ?_
  refine aw_iconst (q := 6) (v := 4) dX1_init_5 rfl (by decide) ?_
  refine aw_newq (q := 9) (t := 2) (len := 4) (h' := zov h9 1 ([.inr (1, [.null, .int 0]), .inl (2, 4, .inr (.inr (.inr (.inr (zrf 3 12 0)))))] : List va_E)) dX1_init_6 rfl (by decide) (zk_at 5 rfl) (by decide) (by decide) (by decide) (by omega) (by omega) (by omega) (zov_new rfl (by rw [zrf0 3 12]; rfl)) ?_
  refine aw_putF (q := 12) (h' := zov h9 1 ([.inr (1, [.ref 2, .int 0]), .inl (2, 4, .inr (.inr (.inr (.inr (zrf 3 12 0)))))] : List va_E)) dX1_init_9 rfl f_X1_11 rfl (by omega) (zov_at (k := 0) rfl rfl) rfl rfl (Nat.le_of_ble_eq_true rfl) (zov_set (k := 0) rfl (Nat.le_of_ble_eq_true rfl) rfl) ?_
  refine aw_iconst (q := 13) (v := 0) dX1_init_12 rfl (by decide) ?_
  refine aw_istore_n (q := 14) dX1_init_13 rfl (by decide) rfl rfl ?_
  refine aw_iload_n (q := 15) dX1_init_14 rfl rfl ?_
  refine aw_iconst (q := 16) (v := 4) dX1_init_15 rfl (by decide) ?_
  refine aw_icmp_ge (q := 19) (t := 45) dX1_init_16 rfl (by decide) (fun hz => absurd hz (by decide)) (fun _ => ?_)
  refine aw_aload_n (q := 20) dX1_init_19 rfl rfl ?_
  refine aw_getr (q := 23) dX1_init_20 rfl e_X1_11 (by omega) (zov_at (k := 0) rfl rfl) rfl ?_
  refine aw_iload_n (q := 24) dX1_init_23 rfl rfl ?_
  refine aw_new (q := 27) dX1_init_24 rfl nw_X1_9 (by omega) (by omega) (by omega) rfl ?_
  refine aw_dup (q := 28) dX1_init_27 rfl rfl ?_
  refine aw_new (q := 31) dX1_init_28 rfl nw_X1_17 (by omega) (by omega) (by omega) rfl ?_
  refine aw_dup (q := 32) dX1_init_31 rfl rfl ?_
  refine aw_ci (q := 35) (as := []) (b := 4) (st := [.ref 4, .ref 3, .ref 3, .int 0, .ref 2]) dX1_init_32 rfl W_X0_init k_X1_19 i_X0_init rfl rfl rfl rfl (by omega) (Nat.le_of_ble_eq_true rfl) (k_X0_init (d := 1) (by omega) (by omega)) (by omega) (by omega) ?_
  rintro r h8 ⟨rfl, rfl⟩
  refine aw_st (st' := [.ref 4, .ref 3, .ref 3, .int 0, .ref 2]) rfl ?_
  refine aw_w (zov_app (m := 4) (c1 := [.inr (4, [.null, .null, .int 0, .int 0, .int 0, .int 0, .int 0, .int 0])]) rfl).symm ?_
  refine aw_ci (q := 38) (as := [.ref 4]) (b := 3) (st := [.ref 3, .int 0, .ref 2]) dX1_init_35 rfl W_X4_init k_X1_20 i_X4_init rfl rfl rfl rfl (by omega) (Nat.le_of_ble_eq_true rfl) (k_X4_init (d := 1) (c := zcB 4) (by omega) rfl (by omega) (bo := 4)) (by omega) (by omega) ?_
  rintro r h8 ⟨rfl, rfl⟩
  refine aw_st (st' := [.ref 3, .int 0, .ref 2]) rfl ?_
  refine aw_w (h' := zov h9 1 ([.inr (1, [.ref 2, .int 0]), .inl (2, 4, .inr (.inr (.inr (.inr (zrf 3 12 0)))))] ++ (zcS 4 14 :: (zcB 4 ++ [zcD])) : List va_E)) (zov_app (m := 3) rfl).symm ?_
  refine aw_aast (q := 39) (h' := zov h9 1 ([.inr (1, [.ref 2, .int 0]), .inl (2, 4, .inr (.inr (.inr (.inr (zrf 3 12 1)))))] ++ (zcS 4 14 :: (zcB 4 ++ [zcD])) : List va_E)) dX1_init_38 rfl (by omega) (zov_at (k := 1) rfl rfl) (by omega) (zov_at (k := 2) rfl rfl) rfl (zin_in (by decide)) (zov_set (k := 1) rfl (Nat.le_of_ble_eq_true rfl) (by rw [zrf_up (i := 0) (by decide) (by decide)]; rfl)) ?_
  refine aw_iinc (q := 42) (v := 1) dX1_init_39 rfl rfl (by decide) (by decide) rfl rfl ?_
  refine aw_goto (q := 14) dX1_init_42 (by decide) ?_
  refine aw_iload_n (q := 15) dX1_init_14 rfl rfl ?_
  refine aw_iconst (q := 16) (v := 4) dX1_init_15 rfl (by decide) ?_
  refine aw_icmp_ge (q := 19) (t := 45) dX1_init_16 rfl (by decide) (fun hz => absurd hz (by decide)) (fun _ => ?_)
  refine aw_aload_n (q := 20) dX1_init_19 rfl rfl ?_
  refine aw_getr (q := 23) dX1_init_20 rfl e_X1_11 (by omega) (zov_at (k := 0) rfl rfl) rfl ?_
  refine aw_iload_n (q := 24) dX1_init_23 rfl rfl ?_
  refine aw_new (q := 27) dX1_init_24 rfl nw_X1_9 (by omega) (by omega) (by omega) rfl ?_
  refine aw_dup (q := 28) dX1_init_27 rfl rfl ?_
  refine aw_new (q := 31) dX1_init_28 rfl nw_X1_17 (by omega) (by omega) (by omega) rfl ?_
  refine aw_dup (q := 32) dX1_init_31 rfl rfl ?_
  refine aw_ci (q := 35) (as := []) (b := 16) (st := [.ref 16, .ref 15, .ref 15, .int 1, .ref 2]) dX1_init_32 rfl W_X0_init k_X1_19 i_X0_init rfl rfl rfl rfl (by omega) (Nat.le_of_ble_eq_true rfl) (k_X0_init (d := 1) (by omega) (by omega)) (by omega) (by omega) ?_
  rintro r h8 ⟨rfl, rfl⟩
  refine aw_st (st' := [.ref 16, .ref 15, .ref 15, .int 1, .ref 2]) rfl ?_
  refine aw_w (zov_app (m := 16) (c1 := [.inr (4, [.null, .null, .int 0, .int 0, .int 0, .int 0, .int 0, .int 0])]) rfl).symm ?_
  refine aw_ci (q := 38) (as := [.ref 16]) (b := 15) (st := [.ref 15, .int 1, .ref 2]) dX1_init_35 rfl W_X4_init k_X1_20 i_X4_init rfl rfl rfl rfl (by omega) (Nat.le_of_ble_eq_true rfl) (k_X4_init (d := 1) (c := zcB 16) (by omega) rfl (by omega) (bo := 16)) (by omega) (by omega) ?_
  rintro r h8 ⟨rfl, rfl⟩
  refine aw_st (st' := [.ref 15, .int 1, .ref 2]) rfl ?_
  refine aw_w (h' := zov h9 1 ([.inr (1, [.ref 2, .int 0]), .inl (2, 4, .inr (.inr (.inr (.inr (zrf 3 12 1)))))] ++ (zcS 4 14 :: (zcB 4 ++ [zcD])) ++ (zcS 16 26 :: (zcB 16 ++ [zcD])) : List va_E)) (zov_app (m := 15) rfl).symm ?_
  refine aw_aast (q := 39) (h' := zov h9 1 ([.inr (1, [.ref 2, .int 0]), .inl (2, 4, .inr (.inr (.inr (.inr (zrf 3 12 2)))))] ++ (zcS 4 14 :: (zcB 4 ++ [zcD])) ++ (zcS 16 26 :: (zcB 16 ++ [zcD])) : List va_E)) dX1_init_38 rfl (by omega) (zov_at (k := 1) rfl rfl) (by omega) (zov_at (k := 14) rfl rfl) rfl (zin_in (by decide)) (zov_set (k := 1) rfl (Nat.le_of_ble_eq_true rfl) (by rw [zrf_up (i := 1) (by decide) (by decide)]; rfl)) ?_
  refine aw_iinc (q := 42) (v := 2) dX1_init_39 rfl rfl (by decide) (by decide) rfl rfl ?_
  refine aw_goto (q := 14) dX1_init_42 (by decide) ?_
  refine aw_iload_n (q := 15) dX1_init_14 rfl rfl ?_
  refine aw_iconst (q := 16) (v := 4) dX1_init_15 rfl (by decide) ?_
  refine aw_icmp_ge (q := 19) (t := 45) dX1_init_16 rfl (by decide) (fun hz => absurd hz (by decide)) (fun _ => ?_)
  refine aw_aload_n (q := 20) dX1_init_19 rfl rfl ?_
  refine aw_getr (q := 23) dX1_init_20 rfl e_X1_11 (by omega) (zov_at (k := 0) rfl rfl) rfl ?_
  refine aw_iload_n (q := 24) dX1_init_23 rfl rfl ?_
  refine aw_new (q := 27) dX1_init_24 rfl nw_X1_9 (by omega) (by omega) (by omega) rfl ?_
  refine aw_dup (q := 28) dX1_init_27 rfl rfl ?_
  refine aw_new (q := 31) dX1_init_28 rfl nw_X1_17 (by omega) (by omega) (by omega) rfl ?_
  refine aw_dup (q := 32) dX1_init_31 rfl rfl ?_
  refine aw_ci (q := 35) (as := []) (b := 28) (st := [.ref 28, .ref 27, .ref 27, .int 2, .ref 2]) dX1_init_32 rfl W_X0_init k_X1_19 i_X0_init rfl rfl rfl rfl (by omega) (Nat.le_of_ble_eq_true rfl) (k_X0_init (d := 1) (by omega) (by omega)) (by omega) (by omega) ?_
  rintro r h8 ⟨rfl, rfl⟩
  refine aw_st (st' := [.ref 28, .ref 27, .ref 27, .int 2, .ref 2]) rfl ?_
  refine aw_w (zov_app (m := 28) (c1 := [.inr (4, [.null, .null, .int 0, .int 0, .int 0, .int 0, .int 0, .int 0])]) rfl).symm ?_
  refine aw_ci (q := 38) (as := [.ref 28]) (b := 27) (st := [.ref 27, .int 2, .ref 2]) dX1_init_35 rfl W_X4_init k_X1_20 i_X4_init rfl rfl rfl rfl (by omega) (Nat.le_of_ble_eq_true rfl) (k_X4_init (d := 1) (c := zcB 28) (by omega) rfl (by omega) (bo := 28)) (by omega) (by omega) ?_
  rintro r h8 ⟨rfl, rfl⟩
  refine aw_st (st' := [.ref 27, .int 2, .ref 2]) rfl ?_
  refine aw_w (h' := zov h9 1 ([.inr (1, [.ref 2, .int 0]), .inl (2, 4, .inr (.inr (.inr (.inr (zrf 3 12 2)))))] ++ (zcS 4 14 :: (zcB 4 ++ [zcD])) ++ (zcS 16 26 :: (zcB 16 ++ [zcD])) ++ (zcS 28 38 :: (zcB 28 ++ [zcD])) : List va_E)) (zov_app (m := 27) rfl).symm ?_
  refine aw_aast (q := 39) (h' := zov h9 1 ([.inr (1, [.ref 2, .int 0]), .inl (2, 4, .inr (.inr (.inr (.inr (zrf 3 12 3)))))] ++ (zcS 4 14 :: (zcB 4 ++ [zcD])) ++ (zcS 16 26 :: (zcB 16 ++ [zcD])) ++ (zcS 28 38 :: (zcB 28 ++ [zcD])) : List va_E)) dX1_init_38 rfl (by omega) (zov_at (k := 1) rfl rfl) (by omega) (zov_at (k := 26) rfl rfl) rfl (zin_in (by decide)) (zov_set (k := 1) rfl (Nat.le_of_ble_eq_true rfl) (by rw [zrf_up (i := 2) (by decide) (by decide)]; rfl)) ?_
  refine aw_iinc (q := 42) (v := 3) dX1_init_39 rfl rfl (by decide) (by decide) rfl rfl ?_
  refine aw_goto (q := 14) dX1_init_42 (by decide) ?_
  refine aw_iload_n (q := 15) dX1_init_14 rfl rfl ?_
  refine aw_iconst (q := 16) (v := 4) dX1_init_15 rfl (by decide) ?_
  refine aw_icmp_ge (q := 19) (t := 45) dX1_init_16 rfl (by decide) (fun hz => absurd hz (by decide)) (fun _ => ?_)
  refine aw_aload_n (q := 20) dX1_init_19 rfl rfl ?_
  refine aw_getr (q := 23) dX1_init_20 rfl e_X1_11 (by omega) (zov_at (k := 0) rfl rfl) rfl ?_
  refine aw_iload_n (q := 24) dX1_init_23 rfl rfl ?_
  refine aw_new (q := 27) dX1_init_24 rfl nw_X1_9 (by omega) (by omega) (by omega) rfl ?_
  refine aw_dup (q := 28) dX1_init_27 rfl rfl ?_
  refine aw_new (q := 31) dX1_init_28 rfl nw_X1_17 (by omega) (by omega) (by omega) rfl ?_
  refine aw_dup (q := 32) dX1_init_31 rfl rfl ?_
  refine aw_ci (q := 35) (as := []) (b := 40) (st := [.ref 40, .ref 39, .ref 39, .int 3, .ref 2]) dX1_init_32 rfl W_X0_init k_X1_19 i_X0_init rfl rfl rfl rfl (by omega) (Nat.le_of_ble_eq_true rfl) (k_X0_init (d := 1) (by omega) (by omega)) (by omega) (by omega) ?_
  rintro r h8 ⟨rfl, rfl⟩
  refine aw_st (st' := [.ref 40, .ref 39, .ref 39, .int 3, .ref 2]) rfl ?_
  refine aw_w (zov_app (m := 40) (c1 := [.inr (4, [.null, .null, .int 0, .int 0, .int 0, .int 0, .int 0, .int 0])]) rfl).symm ?_
  refine aw_ci (q := 38) (as := [.ref 40]) (b := 39) (st := [.ref 39, .int 3, .ref 2]) dX1_init_35 rfl W_X4_init k_X1_20 i_X4_init rfl rfl rfl rfl (by omega) (Nat.le_of_ble_eq_true rfl) (k_X4_init (d := 1) (c := zcB 40) (by omega) rfl (by omega) (bo := 40)) (by omega) (by omega) ?_
  rintro r h8 ⟨rfl, rfl⟩
  refine aw_st (st' := [.ref 39, .int 3, .ref 2]) rfl ?_
  refine aw_w (h' := zov h9 1 ([.inr (1, [.ref 2, .int 0]), .inl (2, 4, .inr (.inr (.inr (.inr (zrf 3 12 3)))))] ++ (zcS 4 14 :: (zcB 4 ++ [zcD])) ++ (zcS 16 26 :: (zcB 16 ++ [zcD])) ++ (zcS 28 38 :: (zcB 28 ++ [zcD])) ++ (zcS 40 50 :: (zcB 40 ++ [zcD])) : List va_E)) (zov_app (m := 39) rfl).symm ?_
  refine aw_aast (q := 39) (h' := zov h9 1 ([.inr (1, [.ref 2, .int 0]), .inl (2, 4, .inr (.inr (.inr (.inr (zrf 3 12 4)))))] ++ (zcS 4 14 :: (zcB 4 ++ [zcD])) ++ (zcS 16 26 :: (zcB 16 ++ [zcD])) ++ (zcS 28 38 :: (zcB 28 ++ [zcD])) ++ (zcS 40 50 :: (zcB 40 ++ [zcD])) : List va_E)) dX1_init_38 rfl (by omega) (zov_at (k := 1) rfl rfl) (by omega) (zov_at (k := 38) rfl rfl) rfl (zin_in (by decide)) (zov_set (k := 1) rfl (Nat.le_of_ble_eq_true rfl) (by rw [zrf_up (i := 3) (by decide) (by decide)]; rfl)) ?_
  refine aw_iinc (q := 42) (v := 4) dX1_init_39 rfl rfl (by decide) (by decide) rfl rfl ?_
  refine aw_goto (q := 14) dX1_init_42 (by decide) ?_
  refine aw_iload_n (q := 15) dX1_init_14 rfl rfl ?_
  refine aw_iconst (q := 16) (v := 4) dX1_init_15 rfl (by decide) ?_
  refine aw_icmp_ge (q := 19) (t := 45) dX1_init_16 rfl (by decide) (fun _ => ?_) (fun hz => absurd (by decide) hz)
  exact aw_vret dX1_init_45 rfl (by omega) (by omega) ⟨rfl, rfl⟩
def zcX2 : List va_E := ([.inr (2, [.ref 64, .ref 77, .ref 78, .ref 86, .int 0]), .inl (3, 11, .inr (.inr (.inr (.inr (zrf 87 3 11)))))] ++ zmC 78 ++ [.inl (0, 55, .inl fun _ => 0)] ++ zcU 87 64 0 ++ zcU 90 64 1 ++ zcU 93 64 2 ++ zcU 96 64 3 ++ zcU 99 64 4 ++ zcU 102 64 5 ++ zcU 105 64 6 ++ zcU 108 64 7 ++ zcU 111 64 8 ++ zcU 114 64 9 ++ zcU 117 64 10 : List va_E)
set_option maxRecDepth 100000 in
set_option maxHeartbeats 4000000 in
theorem k_X2_init {d : Nat} {h9 : zH} {sl : Nat} (hd : 2 ≤ d) : zMt G d M_X2_init [.ref 76, .ref 64] 77 sl (zov h9 76 [.inr (2, [.null, .null, .null, .null, .int 0])]) 120 (sl + 579) (fun r h' => r = none ∧ h' = zov h9 76 zcX2) := by
  refine zMt_of (L := [some (.ref 76), some (.ref 64), none]) (by decide +kernel) (zk_cat rfl) (Nat.le_of_ble_eq_true rfl) (by omega) (by omega) rfl ?_
  refine aw_aload_n (q := 1) dX2_init_0 rfl rfl ?_
  refine aw_obj (q := 4) dX2_init_1 rfl k_X2_3 (by omega) (Nat.le_of_ble_eq_true rfl) ?_
  refine aw_aload_n (q := 5) dX2_init_4 rfl rfl ?_
  refine aw_bipush (q := 7) (v := 11) dX2_init_5 rfl (by decide) ?_
  refine aw_newq (q := 10) (t := 3) (len := 11) (h' := zov h9 76 ([.inr (2, [.null, .null, .null, .null, .int 0]), .inl (3, 11, .inr (.inr (.inr (.inr (zrf 87 3 0)))))] : List va_E)) dX2_init_7 rfl (by decide) (zk_at 6 rfl) (by decide) (by decide) (by decide) (by omega) (by omega) (by omega) (zov_new rfl (by rw [zrf0 87 3]; rfl)) ?_
  refine aw_putF (q := 13) (h' := zov h9 76 ([.inr (2, [.null, .ref 77, .null, .null, .int 0]), .inl (3, 11, .inr (.inr (.inr (.inr (zrf 87 3 0)))))] : List va_E)) dX2_init_10 rfl f_X2_11 rfl (by omega) (zov_at (k := 0) rfl rfl) rfl rfl (Nat.le_of_ble_eq_true rfl) (zov_set (k := 0) rfl (Nat.le_of_ble_eq_true rfl) rfl) ?_
  refine aw_aload_n (q := 14) dX2_init_13 rfl rfl ?_
  refine aw_bipush (q := 16) (v := 7) dX2_init_14 rfl (by decide) ?_
  refine aw_bipush (q := 18) (v := 11) dX2_init_16 rfl (by decide) ?_
  refine aw_mana (q := 22) (h' := zov h9 76 ([.inr (2, [.null, .ref 77, .null, .null, .int 0]), .inl (3, 11, .inr (.inr (.inr (.inr (zrf 87 3 0)))))] ++ zmC 78 : List va_E)) dX2_init_18 rfl (zk_at 4 rfl) (by omega) (by omega) (by omega) (zov_app rfl) ?_
  refine aw_putF (q := 25) (h' := zov h9 76 ([.inr (2, [.null, .ref 77, .ref 78, .null, .int 0]), .inl (3, 11, .inr (.inr (.inr (.inr (zrf 87 3 0)))))] ++ zmC 78 : List va_E)) dX2_init_22 rfl f_X2_19 rfl (by omega) (zov_at (k := 0) rfl rfl) rfl rfl (Nat.le_of_ble_eq_true rfl) (zov_set (k := 0) rfl (Nat.le_of_ble_eq_true rfl) rfl) ?_
  refine aw_aload_n (q := 26) dX2_init_25 rfl rfl ?_
  refine aw_bipush (q := 28) (v := 55) dX2_init_26 rfl (by decide) ?_
  refine aw_newi (q := 30) (len := 55) (h' := zov h9 76 ([.inr (2, [.null, .ref 77, .ref 78, .null, .int 0]), .inl (3, 11, .inr (.inr (.inr (.inr (zrf 87 3 0)))))] ++ zmC 78 ++ [.inl (0, 55, .inl fun _ => 0)] : List va_E)) dX2_init_28 rfl (by decide) (by decide) (by decide) (by omega) (by omega) (by omega) (zov_new rfl rfl) ?_
  refine aw_putF (q := 33) (h' := zov h9 76 ([.inr (2, [.null, .ref 77, .ref 78, .ref 86, .int 0]), .inl (3, 11, .inr (.inr (.inr (.inr (zrf 87 3 0)))))] ++ zmC 78 ++ [.inl (0, 55, .inl fun _ => 0)] : List va_E)) dX2_init_30 rfl f_X2_22 rfl (by omega) (zov_at (k := 0) rfl rfl) rfl rfl (Nat.le_of_ble_eq_true rfl) (zov_set (k := 0) rfl (Nat.le_of_ble_eq_true rfl) rfl) ?_
  refine aw_aload_n (q := 34) dX2_init_33 rfl rfl ?_
  refine aw_aload_n (q := 35) dX2_init_34 rfl rfl ?_
  refine aw_putF (q := 38) (h' := zov h9 76 ([.inr (2, [.ref 64, .ref 77, .ref 78, .ref 86, .int 0]), .inl (3, 11, .inr (.inr (.inr (.inr (zrf 87 3 0)))))] ++ zmC 78 ++ [.inl (0, 55, .inl fun _ => 0)] : List va_E)) dX2_init_35 rfl f_X2_26 rfl (by omega) (zov_at (k := 0) rfl rfl) rfl rfl (Nat.le_of_ble_eq_true rfl) (zov_set (k := 0) rfl (Nat.le_of_ble_eq_true rfl) rfl) ?_
  refine aw_iconst (q := 39) (v := 0) dX2_init_38 rfl (by decide) ?_
  refine aw_istore_n (q := 40) dX2_init_39 rfl (by decide) rfl rfl ?_
  refine aw_iload_n (q := 41) dX2_init_40 rfl rfl ?_
  refine aw_bipush (q := 43) (v := 11) dX2_init_41 rfl (by decide) ?_
  refine aw_icmp_ge (q := 46) (t := 67) dX2_init_43 rfl (by decide) (fun hz => absurd hz (by decide)) (fun _ => ?_)
  refine aw_aload_n (q := 47) dX2_init_46 rfl rfl ?_
  refine aw_getr (q := 50) dX2_init_47 rfl e_X2_11 (by omega) (zov_at (k := 0) rfl rfl) rfl ?_
  refine aw_iload_n (q := 51) dX2_init_50 rfl rfl ?_
  refine aw_new (q := 54) dX2_init_51 rfl nw_X2_9 (by omega) (by omega) (by omega) rfl ?_
  refine aw_dup (q := 55) dX2_init_54 rfl rfl ?_
  refine aw_aload_n (q := 56) dX2_init_55 rfl rfl ?_
  refine aw_iload_n (q := 57) dX2_init_56 rfl rfl ?_
  refine aw_ci (q := 60) (as := [.ref 64, .int 0]) (b := 87) (st := [.ref 87, .int 0, .ref 77]) dX2_init_57 rfl W_X5_init k_X2_30 i_X5_init rfl rfl rfl rfl (by omega) (Nat.le_of_ble_eq_true rfl) (k_X5_init (d := 1) (by omega) (by omega)) (by omega) (by omega) ?_
  rintro r h8 ⟨rfl, rfl⟩
  refine aw_st (st' := [.ref 87, .int 0, .ref 77]) rfl ?_
  refine aw_w (h' := zov h9 76 ([.inr (2, [.ref 64, .ref 77, .ref 78, .ref 86, .int 0]), .inl (3, 11, .inr (.inr (.inr (.inr (zrf 87 3 0)))))] ++ zmC 78 ++ [.inl (0, 55, .inl fun _ => 0)] ++ zcU 87 64 0 : List va_E)) (zov_app (m := 87) rfl).symm ?_
  refine aw_aast3 (q := 61) (h' := zov h9 76 ([.inr (2, [.ref 64, .ref 77, .ref 78, .ref 86, .int 0]), .inl (3, 11, .inr (.inr (.inr (.inr (zrf 87 3 1)))))] ++ zmC 78 ++ [.inl (0, 55, .inl fun _ => 0)] ++ zcU 87 64 0 : List va_E)) dX2_init_60 rfl (by omega) (zov_at (k := 1) rfl rfl) (by omega) (zov_at (k := 11) rfl rfl) rfl (zin_in (by decide)) (zov_set (k := 1) rfl (Nat.le_of_ble_eq_true rfl) (by rw [zrf_up (i := 0) (by decide) (by decide)]; rfl)) ?_
  refine aw_iinc (q := 64) (v := 1) dX2_init_61 rfl rfl (by decide) (by decide) rfl rfl ?_
  refine aw_goto (q := 40) dX2_init_64 (by decide) ?_
  refine aw_iload_n (q := 41) dX2_init_40 rfl rfl ?_
  refine aw_bipush (q := 43) (v := 11) dX2_init_41 rfl (by decide) ?_
  refine aw_icmp_ge (q := 46) (t := 67) dX2_init_43 rfl (by decide) (fun hz => absurd hz (by decide)) (fun _ => ?_)
  refine aw_aload_n (q := 47) dX2_init_46 rfl rfl ?_
  refine aw_getr (q := 50) dX2_init_47 rfl e_X2_11 (by omega) (zov_at (k := 0) rfl rfl) rfl ?_
  refine aw_iload_n (q := 51) dX2_init_50 rfl rfl ?_
  refine aw_new (q := 54) dX2_init_51 rfl nw_X2_9 (by omega) (by omega) (by omega) rfl ?_
  refine aw_dup (q := 55) dX2_init_54 rfl rfl ?_
  refine aw_aload_n (q := 56) dX2_init_55 rfl rfl ?_
  refine aw_iload_n (q := 57) dX2_init_56 rfl rfl ?_
  refine aw_ci (q := 60) (as := [.ref 64, .int 1]) (b := 90) (st := [.ref 90, .int 1, .ref 77]) dX2_init_57 rfl W_X5_init k_X2_30 i_X5_init rfl rfl rfl rfl (by omega) (Nat.le_of_ble_eq_true rfl) (k_X5_init (d := 1) (by omega) (by omega)) (by omega) (by omega) ?_
  rintro r h8 ⟨rfl, rfl⟩
  refine aw_st (st' := [.ref 90, .int 1, .ref 77]) rfl ?_
  refine aw_w (h' := zov h9 76 ([.inr (2, [.ref 64, .ref 77, .ref 78, .ref 86, .int 0]), .inl (3, 11, .inr (.inr (.inr (.inr (zrf 87 3 1)))))] ++ zmC 78 ++ [.inl (0, 55, .inl fun _ => 0)] ++ zcU 87 64 0 ++ zcU 90 64 1 : List va_E)) (zov_app (m := 90) rfl).symm ?_
  refine aw_aast3 (q := 61) (h' := zov h9 76 ([.inr (2, [.ref 64, .ref 77, .ref 78, .ref 86, .int 0]), .inl (3, 11, .inr (.inr (.inr (.inr (zrf 87 3 2)))))] ++ zmC 78 ++ [.inl (0, 55, .inl fun _ => 0)] ++ zcU 87 64 0 ++ zcU 90 64 1 : List va_E)) dX2_init_60 rfl (by omega) (zov_at (k := 1) rfl rfl) (by omega) (zov_at (k := 14) rfl rfl) rfl (zin_in (by decide)) (zov_set (k := 1) rfl (Nat.le_of_ble_eq_true rfl) (by rw [zrf_up (i := 1) (by decide) (by decide)]; rfl)) ?_
  refine aw_iinc (q := 64) (v := 2) dX2_init_61 rfl rfl (by decide) (by decide) rfl rfl ?_
  refine aw_goto (q := 40) dX2_init_64 (by decide) ?_
  refine aw_iload_n (q := 41) dX2_init_40 rfl rfl ?_
  refine aw_bipush (q := 43) (v := 11) dX2_init_41 rfl (by decide) ?_
  refine aw_icmp_ge (q := 46) (t := 67) dX2_init_43 rfl (by decide) (fun hz => absurd hz (by decide)) (fun _ => ?_)
  refine aw_aload_n (q := 47) dX2_init_46 rfl rfl ?_
  refine aw_getr (q := 50) dX2_init_47 rfl e_X2_11 (by omega) (zov_at (k := 0) rfl rfl) rfl ?_
  refine aw_iload_n (q := 51) dX2_init_50 rfl rfl ?_
  refine aw_new (q := 54) dX2_init_51 rfl nw_X2_9 (by omega) (by omega) (by omega) rfl ?_
  refine aw_dup (q := 55) dX2_init_54 rfl rfl ?_
  refine aw_aload_n (q := 56) dX2_init_55 rfl rfl ?_
  refine aw_iload_n (q := 57) dX2_init_56 rfl rfl ?_
  refine aw_ci (q := 60) (as := [.ref 64, .int 2]) (b := 93) (st := [.ref 93, .int 2, .ref 77]) dX2_init_57 rfl W_X5_init k_X2_30 i_X5_init rfl rfl rfl rfl (by omega) (Nat.le_of_ble_eq_true rfl) (k_X5_init (d := 1) (by omega) (by omega)) (by omega) (by omega) ?_
  rintro r h8 ⟨rfl, rfl⟩
  refine aw_st (st' := [.ref 93, .int 2, .ref 77]) rfl ?_
  refine aw_w (h' := zov h9 76 ([.inr (2, [.ref 64, .ref 77, .ref 78, .ref 86, .int 0]), .inl (3, 11, .inr (.inr (.inr (.inr (zrf 87 3 2)))))] ++ zmC 78 ++ [.inl (0, 55, .inl fun _ => 0)] ++ zcU 87 64 0 ++ zcU 90 64 1 ++ zcU 93 64 2 : List va_E)) (zov_app (m := 93) rfl).symm ?_
  refine aw_aast3 (q := 61) (h' := zov h9 76 ([.inr (2, [.ref 64, .ref 77, .ref 78, .ref 86, .int 0]), .inl (3, 11, .inr (.inr (.inr (.inr (zrf 87 3 3)))))] ++ zmC 78 ++ [.inl (0, 55, .inl fun _ => 0)] ++ zcU 87 64 0 ++ zcU 90 64 1 ++ zcU 93 64 2 : List va_E)) dX2_init_60 rfl (by omega) (zov_at (k := 1) rfl rfl) (by omega) (zov_at (k := 17) rfl rfl) rfl (zin_in (by decide)) (zov_set (k := 1) rfl (Nat.le_of_ble_eq_true rfl) (by rw [zrf_up (i := 2) (by decide) (by decide)]; rfl)) ?_
  refine aw_iinc (q := 64) (v := 3) dX2_init_61 rfl rfl (by decide) (by decide) rfl rfl ?_
  refine aw_goto (q := 40) dX2_init_64 (by decide) ?_
  refine aw_iload_n (q := 41) dX2_init_40 rfl rfl ?_
  refine aw_bipush (q := 43) (v := 11) dX2_init_41 rfl (by decide) ?_
  refine aw_icmp_ge (q := 46) (t := 67) dX2_init_43 rfl (by decide) (fun hz => absurd hz (by decide)) (fun _ => ?_)
  refine aw_aload_n (q := 47) dX2_init_46 rfl rfl ?_
  refine aw_getr (q := 50) dX2_init_47 rfl e_X2_11 (by omega) (zov_at (k := 0) rfl rfl) rfl ?_
  refine aw_iload_n (q := 51) dX2_init_50 rfl rfl ?_
  refine aw_new (q := 54) dX2_init_51 rfl nw_X2_9 (by omega) (by omega) (by omega) rfl ?_
  refine aw_dup (q := 55) dX2_init_54 rfl rfl ?_
  refine aw_aload_n (q := 56) dX2_init_55 rfl rfl ?_
  refine aw_iload_n (q := 57) dX2_init_56 rfl rfl ?_
  refine aw_ci (q := 60) (as := [.ref 64, .int 3]) (b := 96) (st := [.ref 96, .int 3, .ref 77]) dX2_init_57 rfl W_X5_init k_X2_30 i_X5_init rfl rfl rfl rfl (by omega) (Nat.le_of_ble_eq_true rfl) (k_X5_init (d := 1) (by omega) (by omega)) (by omega) (by omega) ?_
  rintro r h8 ⟨rfl, rfl⟩
  refine aw_st (st' := [.ref 96, .int 3, .ref 77]) rfl ?_
  refine aw_w (h' := zov h9 76 ([.inr (2, [.ref 64, .ref 77, .ref 78, .ref 86, .int 0]), .inl (3, 11, .inr (.inr (.inr (.inr (zrf 87 3 3)))))] ++ zmC 78 ++ [.inl (0, 55, .inl fun _ => 0)] ++ zcU 87 64 0 ++ zcU 90 64 1 ++ zcU 93 64 2 ++ zcU 96 64 3 : List va_E)) (zov_app (m := 96) rfl).symm ?_
  refine aw_aast3 (q := 61) (h' := zov h9 76 ([.inr (2, [.ref 64, .ref 77, .ref 78, .ref 86, .int 0]), .inl (3, 11, .inr (.inr (.inr (.inr (zrf 87 3 4)))))] ++ zmC 78 ++ [.inl (0, 55, .inl fun _ => 0)] ++ zcU 87 64 0 ++ zcU 90 64 1 ++ zcU 93 64 2 ++ zcU 96 64 3 : List va_E)) dX2_init_60 rfl (by omega) (zov_at (k := 1) rfl rfl) (by omega) (zov_at (k := 20) rfl rfl) rfl (zin_in (by decide)) (zov_set (k := 1) rfl (Nat.le_of_ble_eq_true rfl) (by rw [zrf_up (i := 3) (by decide) (by decide)]; rfl)) ?_
  refine aw_iinc (q := 64) (v := 4) dX2_init_61 rfl rfl (by decide) (by decide) rfl rfl ?_
  refine aw_goto (q := 40) dX2_init_64 (by decide) ?_
  refine aw_iload_n (q := 41) dX2_init_40 rfl rfl ?_
  refine aw_bipush (q := 43) (v := 11) dX2_init_41 rfl (by decide) ?_
  refine aw_icmp_ge (q := 46) (t := 67) dX2_init_43 rfl (by decide) (fun hz => absurd hz (by decide)) (fun _ => ?_)
  refine aw_aload_n (q := 47) dX2_init_46 rfl rfl ?_
  refine aw_getr (q := 50) dX2_init_47 rfl e_X2_11 (by omega) (zov_at (k := 0) rfl rfl) rfl ?_
  refine aw_iload_n (q := 51) dX2_init_50 rfl rfl ?_
  refine aw_new (q := 54) dX2_init_51 rfl nw_X2_9 (by omega) (by omega) (by omega) rfl ?_
  refine aw_dup (q := 55) dX2_init_54 rfl rfl ?_
  refine aw_aload_n (q := 56) dX2_init_55 rfl rfl ?_
  refine aw_iload_n (q := 57) dX2_init_56 rfl rfl ?_
  refine aw_ci (q := 60) (as := [.ref 64, .int 4]) (b := 99) (st := [.ref 99, .int 4, .ref 77]) dX2_init_57 rfl W_X5_init k_X2_30 i_X5_init rfl rfl rfl rfl (by omega) (Nat.le_of_ble_eq_true rfl) (k_X5_init (d := 1) (by omega) (by omega)) (by omega) (by omega) ?_
  rintro r h8 ⟨rfl, rfl⟩
  refine aw_st (st' := [.ref 99, .int 4, .ref 77]) rfl ?_
  refine aw_w (h' := zov h9 76 ([.inr (2, [.ref 64, .ref 77, .ref 78, .ref 86, .int 0]), .inl (3, 11, .inr (.inr (.inr (.inr (zrf 87 3 4)))))] ++ zmC 78 ++ [.inl (0, 55, .inl fun _ => 0)] ++ zcU 87 64 0 ++ zcU 90 64 1 ++ zcU 93 64 2 ++ zcU 96 64 3 ++ zcU 99 64 4 : List va_E)) (zov_app (m := 99) rfl).symm ?_
  refine aw_aast3 (q := 61) (h' := zov h9 76 ([.inr (2, [.ref 64, .ref 77, .ref 78, .ref 86, .int 0]), .inl (3, 11, .inr (.inr (.inr (.inr (zrf 87 3 5)))))] ++ zmC 78 ++ [.inl (0, 55, .inl fun _ => 0)] ++ zcU 87 64 0 ++ zcU 90 64 1 ++ zcU 93 64 2 ++ zcU 96 64 3 ++ zcU 99 64 4 : List va_E)) dX2_init_60 rfl (by omega) (zov_at (k := 1) rfl rfl) (by omega) (zov_at (k := 23) rfl rfl) rfl (zin_in (by decide)) (zov_set (k := 1) rfl (Nat.le_of_ble_eq_true rfl) (by rw [zrf_up (i := 4) (by decide) (by decide)]; rfl)) ?_
  refine aw_iinc (q := 64) (v := 5) dX2_init_61 rfl rfl (by decide) (by decide) rfl rfl ?_
  refine aw_goto (q := 40) dX2_init_64 (by decide) ?_
  refine aw_iload_n (q := 41) dX2_init_40 rfl rfl ?_
  refine aw_bipush (q := 43) (v := 11) dX2_init_41 rfl (by decide) ?_
  refine aw_icmp_ge (q := 46) (t := 67) dX2_init_43 rfl (by decide) (fun hz => absurd hz (by decide)) (fun _ => ?_)
  refine aw_aload_n (q := 47) dX2_init_46 rfl rfl ?_
  refine aw_getr (q := 50) dX2_init_47 rfl e_X2_11 (by omega) (zov_at (k := 0) rfl rfl) rfl ?_
  refine aw_iload_n (q := 51) dX2_init_50 rfl rfl ?_
  refine aw_new (q := 54) dX2_init_51 rfl nw_X2_9 (by omega) (by omega) (by omega) rfl ?_
  refine aw_dup (q := 55) dX2_init_54 rfl rfl ?_
  refine aw_aload_n (q := 56) dX2_init_55 rfl rfl ?_
  refine aw_iload_n (q := 57) dX2_init_56 rfl rfl ?_
  refine aw_ci (q := 60) (as := [.ref 64, .int 5]) (b := 102) (st := [.ref 102, .int 5, .ref 77]) dX2_init_57 rfl W_X5_init k_X2_30 i_X5_init rfl rfl rfl rfl (by omega) (Nat.le_of_ble_eq_true rfl) (k_X5_init (d := 1) (by omega) (by omega)) (by omega) (by omega) ?_
  rintro r h8 ⟨rfl, rfl⟩
  refine aw_st (st' := [.ref 102, .int 5, .ref 77]) rfl ?_
  refine aw_w (h' := zov h9 76 ([.inr (2, [.ref 64, .ref 77, .ref 78, .ref 86, .int 0]), .inl (3, 11, .inr (.inr (.inr (.inr (zrf 87 3 5)))))] ++ zmC 78 ++ [.inl (0, 55, .inl fun _ => 0)] ++ zcU 87 64 0 ++ zcU 90 64 1 ++ zcU 93 64 2 ++ zcU 96 64 3 ++ zcU 99 64 4 ++ zcU 102 64 5 : List va_E)) (zov_app (m := 102) rfl).symm ?_
  refine aw_aast3 (q := 61) (h' := zov h9 76 ([.inr (2, [.ref 64, .ref 77, .ref 78, .ref 86, .int 0]), .inl (3, 11, .inr (.inr (.inr (.inr (zrf 87 3 6)))))] ++ zmC 78 ++ [.inl (0, 55, .inl fun _ => 0)] ++ zcU 87 64 0 ++ zcU 90 64 1 ++ zcU 93 64 2 ++ zcU 96 64 3 ++ zcU 99 64 4 ++ zcU 102 64 5 : List va_E)) dX2_init_60 rfl (by omega) (zov_at (k := 1) rfl rfl) (by omega) (zov_at (k := 26) rfl rfl) rfl (zin_in (by decide)) (zov_set (k := 1) rfl (Nat.le_of_ble_eq_true rfl) (by rw [zrf_up (i := 5) (by decide) (by decide)]; rfl)) ?_
  refine aw_iinc (q := 64) (v := 6) dX2_init_61 rfl rfl (by decide) (by decide) rfl rfl ?_
  refine aw_goto (q := 40) dX2_init_64 (by decide) ?_
  refine aw_iload_n (q := 41) dX2_init_40 rfl rfl ?_
  refine aw_bipush (q := 43) (v := 11) dX2_init_41 rfl (by decide) ?_
  refine aw_icmp_ge (q := 46) (t := 67) dX2_init_43 rfl (by decide) (fun hz => absurd hz (by decide)) (fun _ => ?_)
  refine aw_aload_n (q := 47) dX2_init_46 rfl rfl ?_
  refine aw_getr (q := 50) dX2_init_47 rfl e_X2_11 (by omega) (zov_at (k := 0) rfl rfl) rfl ?_
  refine aw_iload_n (q := 51) dX2_init_50 rfl rfl ?_
  refine aw_new (q := 54) dX2_init_51 rfl nw_X2_9 (by omega) (by omega) (by omega) rfl ?_
  refine aw_dup (q := 55) dX2_init_54 rfl rfl ?_
  refine aw_aload_n (q := 56) dX2_init_55 rfl rfl ?_
  refine aw_iload_n (q := 57) dX2_init_56 rfl rfl ?_
  refine aw_ci (q := 60) (as := [.ref 64, .int 6]) (b := 105) (st := [.ref 105, .int 6, .ref 77]) dX2_init_57 rfl W_X5_init k_X2_30 i_X5_init rfl rfl rfl rfl (by omega) (Nat.le_of_ble_eq_true rfl) (k_X5_init (d := 1) (by omega) (by omega)) (by omega) (by omega) ?_
  rintro r h8 ⟨rfl, rfl⟩
  refine aw_st (st' := [.ref 105, .int 6, .ref 77]) rfl ?_
  refine aw_w (h' := zov h9 76 ([.inr (2, [.ref 64, .ref 77, .ref 78, .ref 86, .int 0]), .inl (3, 11, .inr (.inr (.inr (.inr (zrf 87 3 6)))))] ++ zmC 78 ++ [.inl (0, 55, .inl fun _ => 0)] ++ zcU 87 64 0 ++ zcU 90 64 1 ++ zcU 93 64 2 ++ zcU 96 64 3 ++ zcU 99 64 4 ++ zcU 102 64 5 ++ zcU 105 64 6 : List va_E)) (zov_app (m := 105) rfl).symm ?_
  refine aw_aast3 (q := 61) (h' := zov h9 76 ([.inr (2, [.ref 64, .ref 77, .ref 78, .ref 86, .int 0]), .inl (3, 11, .inr (.inr (.inr (.inr (zrf 87 3 7)))))] ++ zmC 78 ++ [.inl (0, 55, .inl fun _ => 0)] ++ zcU 87 64 0 ++ zcU 90 64 1 ++ zcU 93 64 2 ++ zcU 96 64 3 ++ zcU 99 64 4 ++ zcU 102 64 5 ++ zcU 105 64 6 : List va_E)) dX2_init_60 rfl (by omega) (zov_at (k := 1) rfl rfl) (by omega) (zov_at (k := 29) rfl rfl) rfl (zin_in (by decide)) (zov_set (k := 1) rfl (Nat.le_of_ble_eq_true rfl) (by rw [zrf_up (i := 6) (by decide) (by decide)]; rfl)) ?_
  refine aw_iinc (q := 64) (v := 7) dX2_init_61 rfl rfl (by decide) (by decide) rfl rfl ?_
  refine aw_goto (q := 40) dX2_init_64 (by decide) ?_
  refine aw_iload_n (q := 41) dX2_init_40 rfl rfl ?_
  refine aw_bipush (q := 43) (v := 11) dX2_init_41 rfl (by decide) ?_
  refine aw_icmp_ge (q := 46) (t := 67) dX2_init_43 rfl (by decide) (fun hz => absurd hz (by decide)) (fun _ => ?_)
  refine aw_aload_n (q := 47) dX2_init_46 rfl rfl ?_
  refine aw_getr (q := 50) dX2_init_47 rfl e_X2_11 (by omega) (zov_at (k := 0) rfl rfl) rfl ?_
  refine aw_iload_n (q := 51) dX2_init_50 rfl rfl ?_
  refine aw_new (q := 54) dX2_init_51 rfl nw_X2_9 (by omega) (by omega) (by omega) rfl ?_
  refine aw_dup (q := 55) dX2_init_54 rfl rfl ?_
  refine aw_aload_n (q := 56) dX2_init_55 rfl rfl ?_
  refine aw_iload_n (q := 57) dX2_init_56 rfl rfl ?_
  refine aw_ci (q := 60) (as := [.ref 64, .int 7]) (b := 108) (st := [.ref 108, .int 7, .ref 77]) dX2_init_57 rfl W_X5_init k_X2_30 i_X5_init rfl rfl rfl rfl (by omega) (Nat.le_of_ble_eq_true rfl) (k_X5_init (d := 1) (by omega) (by omega)) (by omega) (by omega) ?_
  rintro r h8 ⟨rfl, rfl⟩
  refine aw_st (st' := [.ref 108, .int 7, .ref 77]) rfl ?_
  refine aw_w (h' := zov h9 76 ([.inr (2, [.ref 64, .ref 77, .ref 78, .ref 86, .int 0]), .inl (3, 11, .inr (.inr (.inr (.inr (zrf 87 3 7)))))] ++ zmC 78 ++ [.inl (0, 55, .inl fun _ => 0)] ++ zcU 87 64 0 ++ zcU 90 64 1 ++ zcU 93 64 2 ++ zcU 96 64 3 ++ zcU 99 64 4 ++ zcU 102 64 5 ++ zcU 105 64 6 ++ zcU 108 64 7 : List va_E)) (zov_app (m := 108) rfl).symm ?_
  refine aw_aast3 (q := 61) (h' := zov h9 76 ([.inr (2, [.ref 64, .ref 77, .ref 78, .ref 86, .int 0]), .inl (3, 11, .inr (.inr (.inr (.inr (zrf 87 3 8)))))] ++ zmC 78 ++ [.inl (0, 55, .inl fun _ => 0)] ++ zcU 87 64 0 ++ zcU 90 64 1 ++ zcU 93 64 2 ++ zcU 96 64 3 ++ zcU 99 64 4 ++ zcU 102 64 5 ++ zcU 105 64 6 ++ zcU 108 64 7 : List va_E)) dX2_init_60 rfl (by omega) (zov_at (k := 1) rfl rfl) (by omega) (zov_at (k := 32) rfl rfl) rfl (zin_in (by decide)) (zov_set (k := 1) rfl (Nat.le_of_ble_eq_true rfl) (by rw [zrf_up (i := 7) (by decide) (by decide)]; rfl)) ?_
  refine aw_iinc (q := 64) (v := 8) dX2_init_61 rfl rfl (by decide) (by decide) rfl rfl ?_
  refine aw_goto (q := 40) dX2_init_64 (by decide) ?_
  refine aw_iload_n (q := 41) dX2_init_40 rfl rfl ?_
  refine aw_bipush (q := 43) (v := 11) dX2_init_41 rfl (by decide) ?_
  refine aw_icmp_ge (q := 46) (t := 67) dX2_init_43 rfl (by decide) (fun hz => absurd hz (by decide)) (fun _ => ?_)
  refine aw_aload_n (q := 47) dX2_init_46 rfl rfl ?_
  refine aw_getr (q := 50) dX2_init_47 rfl e_X2_11 (by omega) (zov_at (k := 0) rfl rfl) rfl ?_
  refine aw_iload_n (q := 51) dX2_init_50 rfl rfl ?_
  refine aw_new (q := 54) dX2_init_51 rfl nw_X2_9 (by omega) (by omega) (by omega) rfl ?_
  refine aw_dup (q := 55) dX2_init_54 rfl rfl ?_
  refine aw_aload_n (q := 56) dX2_init_55 rfl rfl ?_
  refine aw_iload_n (q := 57) dX2_init_56 rfl rfl ?_
  refine aw_ci (q := 60) (as := [.ref 64, .int 8]) (b := 111) (st := [.ref 111, .int 8, .ref 77]) dX2_init_57 rfl W_X5_init k_X2_30 i_X5_init rfl rfl rfl rfl (by omega) (Nat.le_of_ble_eq_true rfl) (k_X5_init (d := 1) (by omega) (by omega)) (by omega) (by omega) ?_
  rintro r h8 ⟨rfl, rfl⟩
  refine aw_st (st' := [.ref 111, .int 8, .ref 77]) rfl ?_
  refine aw_w (h' := zov h9 76 ([.inr (2, [.ref 64, .ref 77, .ref 78, .ref 86, .int 0]), .inl (3, 11, .inr (.inr (.inr (.inr (zrf 87 3 8)))))] ++ zmC 78 ++ [.inl (0, 55, .inl fun _ => 0)] ++ zcU 87 64 0 ++ zcU 90 64 1 ++ zcU 93 64 2 ++ zcU 96 64 3 ++ zcU 99 64 4 ++ zcU 102 64 5 ++ zcU 105 64 6 ++ zcU 108 64 7 ++ zcU 111 64 8 : List va_E)) (zov_app (m := 111) rfl).symm ?_
  refine aw_aast3 (q := 61) (h' := zov h9 76 ([.inr (2, [.ref 64, .ref 77, .ref 78, .ref 86, .int 0]), .inl (3, 11, .inr (.inr (.inr (.inr (zrf 87 3 9)))))] ++ zmC 78 ++ [.inl (0, 55, .inl fun _ => 0)] ++ zcU 87 64 0 ++ zcU 90 64 1 ++ zcU 93 64 2 ++ zcU 96 64 3 ++ zcU 99 64 4 ++ zcU 102 64 5 ++ zcU 105 64 6 ++ zcU 108 64 7 ++ zcU 111 64 8 : List va_E)) dX2_init_60 rfl (by omega) (zov_at (k := 1) rfl rfl) (by omega) (zov_at (k := 35) rfl rfl) rfl (zin_in (by decide)) (zov_set (k := 1) rfl (Nat.le_of_ble_eq_true rfl) (by rw [zrf_up (i := 8) (by decide) (by decide)]; rfl)) ?_
  refine aw_iinc (q := 64) (v := 9) dX2_init_61 rfl rfl (by decide) (by decide) rfl rfl ?_
  refine aw_goto (q := 40) dX2_init_64 (by decide) ?_
  refine aw_iload_n (q := 41) dX2_init_40 rfl rfl ?_
  refine aw_bipush (q := 43) (v := 11) dX2_init_41 rfl (by decide) ?_
  refine aw_icmp_ge (q := 46) (t := 67) dX2_init_43 rfl (by decide) (fun hz => absurd hz (by decide)) (fun _ => ?_)
  refine aw_aload_n (q := 47) dX2_init_46 rfl rfl ?_
  refine aw_getr (q := 50) dX2_init_47 rfl e_X2_11 (by omega) (zov_at (k := 0) rfl rfl) rfl ?_
  refine aw_iload_n (q := 51) dX2_init_50 rfl rfl ?_
  refine aw_new (q := 54) dX2_init_51 rfl nw_X2_9 (by omega) (by omega) (by omega) rfl ?_
  refine aw_dup (q := 55) dX2_init_54 rfl rfl ?_
  refine aw_aload_n (q := 56) dX2_init_55 rfl rfl ?_
  refine aw_iload_n (q := 57) dX2_init_56 rfl rfl ?_
  refine aw_ci (q := 60) (as := [.ref 64, .int 9]) (b := 114) (st := [.ref 114, .int 9, .ref 77]) dX2_init_57 rfl W_X5_init k_X2_30 i_X5_init rfl rfl rfl rfl (by omega) (Nat.le_of_ble_eq_true rfl) (k_X5_init (d := 1) (by omega) (by omega)) (by omega) (by omega) ?_
  rintro r h8 ⟨rfl, rfl⟩
  refine aw_st (st' := [.ref 114, .int 9, .ref 77]) rfl ?_
  refine aw_w (h' := zov h9 76 ([.inr (2, [.ref 64, .ref 77, .ref 78, .ref 86, .int 0]), .inl (3, 11, .inr (.inr (.inr (.inr (zrf 87 3 9)))))] ++ zmC 78 ++ [.inl (0, 55, .inl fun _ => 0)] ++ zcU 87 64 0 ++ zcU 90 64 1 ++ zcU 93 64 2 ++ zcU 96 64 3 ++ zcU 99 64 4 ++ zcU 102 64 5 ++ zcU 105 64 6 ++ zcU 108 64 7 ++ zcU 111 64 8 ++ zcU 114 64 9 : List va_E)) (zov_app (m := 114) rfl).symm ?_
  refine aw_aast3 (q := 61) (h' := zov h9 76 ([.inr (2, [.ref 64, .ref 77, .ref 78, .ref 86, .int 0]), .inl (3, 11, .inr (.inr (.inr (.inr (zrf 87 3 10)))))] ++ zmC 78 ++ [.inl (0, 55, .inl fun _ => 0)] ++ zcU 87 64 0 ++ zcU 90 64 1 ++ zcU 93 64 2 ++ zcU 96 64 3 ++ zcU 99 64 4 ++ zcU 102 64 5 ++ zcU 105 64 6 ++ zcU 108 64 7 ++ zcU 111 64 8 ++ zcU 114 64 9 : List va_E)) dX2_init_60 rfl (by omega) (zov_at (k := 1) rfl rfl) (by omega) (zov_at (k := 38) rfl rfl) rfl (zin_in (by decide)) (zov_set (k := 1) rfl (Nat.le_of_ble_eq_true rfl) (by rw [zrf_up (i := 9) (by decide) (by decide)]; rfl)) ?_
  refine aw_iinc (q := 64) (v := 10) dX2_init_61 rfl rfl (by decide) (by decide) rfl rfl ?_
  refine aw_goto (q := 40) dX2_init_64 (by decide) ?_
  refine aw_iload_n (q := 41) dX2_init_40 rfl rfl ?_
  refine aw_bipush (q := 43) (v := 11) dX2_init_41 rfl (by decide) ?_
  refine aw_icmp_ge (q := 46) (t := 67) dX2_init_43 rfl (by decide) (fun hz => absurd hz (by decide)) (fun _ => ?_)
  refine aw_aload_n (q := 47) dX2_init_46 rfl rfl ?_
  refine aw_getr (q := 50) dX2_init_47 rfl e_X2_11 (by omega) (zov_at (k := 0) rfl rfl) rfl ?_
  refine aw_iload_n (q := 51) dX2_init_50 rfl rfl ?_
  refine aw_new (q := 54) dX2_init_51 rfl nw_X2_9 (by omega) (by omega) (by omega) rfl ?_
  refine aw_dup (q := 55) dX2_init_54 rfl rfl ?_
  refine aw_aload_n (q := 56) dX2_init_55 rfl rfl ?_
  refine aw_iload_n (q := 57) dX2_init_56 rfl rfl ?_
  refine aw_ci (q := 60) (as := [.ref 64, .int 10]) (b := 117) (st := [.ref 117, .int 10, .ref 77]) dX2_init_57 rfl W_X5_init k_X2_30 i_X5_init rfl rfl rfl rfl (by omega) (Nat.le_of_ble_eq_true rfl) (k_X5_init (d := 1) (by omega) (by omega)) (by omega) (by omega) ?_
  rintro r h8 ⟨rfl, rfl⟩
  refine aw_st (st' := [.ref 117, .int 10, .ref 77]) rfl ?_
  refine aw_w (h' := zov h9 76 ([.inr (2, [.ref 64, .ref 77, .ref 78, .ref 86, .int 0]), .inl (3, 11, .inr (.inr (.inr (.inr (zrf 87 3 10)))))] ++ zmC 78 ++ [.inl (0, 55, .inl fun _ => 0)] ++ zcU 87 64 0 ++ zcU 90 64 1 ++ zcU 93 64 2 ++ zcU 96 64 3 ++ zcU 99 64 4 ++ zcU 102 64 5 ++ zcU 105 64 6 ++ zcU 108 64 7 ++ zcU 111 64 8 ++ zcU 114 64 9 ++ zcU 117 64 10 : List va_E)) (zov_app (m := 117) rfl).symm ?_
  refine aw_aast3 (q := 61) (h' := zov h9 76 ([.inr (2, [.ref 64, .ref 77, .ref 78, .ref 86, .int 0]), .inl (3, 11, .inr (.inr (.inr (.inr (zrf 87 3 11)))))] ++ zmC 78 ++ [.inl (0, 55, .inl fun _ => 0)] ++ zcU 87 64 0 ++ zcU 90 64 1 ++ zcU 93 64 2 ++ zcU 96 64 3 ++ zcU 99 64 4 ++ zcU 102 64 5 ++ zcU 105 64 6 ++ zcU 108 64 7 ++ zcU 111 64 8 ++ zcU 114 64 9 ++ zcU 117 64 10 : List va_E)) dX2_init_60 rfl (by omega) (zov_at (k := 1) rfl rfl) (by omega) (zov_at (k := 41) rfl rfl) rfl (zin_in (by decide)) (zov_set (k := 1) rfl (Nat.le_of_ble_eq_true rfl) (by rw [zrf_up (i := 10) (by decide) (by decide)]; rfl)) ?_
  refine aw_iinc (q := 64) (v := 11) dX2_init_61 rfl rfl (by decide) (by decide) rfl rfl ?_
  refine aw_goto (q := 40) dX2_init_64 (by decide) ?_
  refine aw_iload_n (q := 41) dX2_init_40 rfl rfl ?_
  refine aw_bipush (q := 43) (v := 11) dX2_init_41 rfl (by decide) ?_
  refine aw_icmp_ge (q := 46) (t := 67) dX2_init_43 rfl (by decide) (fun _ => ?_) (fun hz => absurd (by decide) hz)
  exact aw_vret dX2_init_67 rfl (by omega) (by omega) ⟨rfl, rfl⟩
def zcX6 : List va_E := ([.inr (6, [.ref 74, .ref 76, .ref 1, .ref 51])] ++ zcX1 ++ zcX3 ++ zcB 64 ++ [zcS 64 75, zcD] ++ zcX2 : List va_E)
set_option maxRecDepth 100000 in
set_option maxHeartbeats 4000000 in
theorem k_X6_init {d : Nat} {h9 : zH} {sl : Nat} (hd : 3 ≤ d) : zMt G d M_X6_init [.ref 0] 1 sl (zov h9 0 [.inr (6, [.null, .null, .null, .null])]) 120 (sl + 1391) (fun r h' => r = none ∧ h' = zov h9 0 zcX6) := by
  refine zMt_of (L := [some (.ref 0), none]) (by decide +kernel) (zk_cat rfl) (Nat.le_of_ble_eq_true rfl) (by omega) (by omega) rfl ?_
  refine aw_aload_n (q := 1) dX6_init_0 rfl rfl ?_
  refine aw_obj (q := 4) dX6_init_1 rfl k_X6_3 (by omega) (Nat.le_of_ble_eq_true rfl) ?_
  refine aw_aload_n (q := 5) dX6_init_4 rfl rfl ?_
  refine aw_new (q := 8) dX6_init_5 rfl nw_X6_9 (by omega) (by omega) (by omega) rfl ?_
  refine aw_dup (q := 9) dX6_init_8 rfl rfl ?_
  refine aw_ci (q := 12) (as := []) (b := 1) (st := [.ref 1, .ref 0]) dX6_init_9 rfl W_X1_init k_X6_11 i_X1_init rfl rfl rfl rfl (by omega) (Nat.le_of_ble_eq_true rfl) (k_X1_init (d := 2) (by omega)) (by omega) (by omega) ?_
  rintro r h8 ⟨rfl, rfl⟩
  refine aw_st (st' := [.ref 1, .ref 0]) rfl ?_
  refine aw_w (h' := zov h9 0 ([.inr (6, [.null, .null, .null, .null])] ++ zcX1 : List va_E)) (zov_app (m := 1) rfl).symm ?_
  refine aw_putF (q := 15) (h' := zov h9 0 ([.inr (6, [.null, .null, .ref 1, .null])] ++ zcX1 : List va_E)) dX6_init_12 rfl f_X6_12 rfl (by omega) (zov_at (k := 0) rfl rfl) rfl rfl (Nat.le_of_ble_eq_true rfl) (zov_set (k := 0) rfl (Nat.le_of_ble_eq_true rfl) rfl) ?_
  refine aw_aload_n (q := 16) dX6_init_15 rfl rfl ?_
  refine aw_new (q := 19) dX6_init_16 rfl nw_X6_16 (by omega) (by omega) (by omega) rfl ?_
  refine aw_dup (q := 20) dX6_init_19 rfl rfl ?_
  refine aw_ciN (q := 23) (as := []) (b := 51) (st := [.ref 51, .ref 0]) dX6_init_20 rfl W_X3_init List.mem_cons_self i_X3_init rfl rfl rfl rfl (by omega) (Nat.le_of_ble_eq_true rfl) (k_X3_init (d := 2) (by omega)) (by omega) (by omega) ?_
  rintro r h8 ⟨rfl, rfl⟩
  refine aw_st (st' := [.ref 51, .ref 0]) rfl ?_
  refine aw_w (h' := zov h9 0 ([.inr (6, [.null, .null, .ref 1, .null])] ++ zcX1 ++ zcX3 : List va_E)) (zov_app (m := 51) rfl).symm ?_
  refine aw_putF (q := 26) (h' := zov h9 0 ([.inr (6, [.null, .null, .ref 1, .ref 51])] ++ zcX1 ++ zcX3 : List va_E)) dX6_init_23 rfl f_X6_19 rfl (by omega) (zov_at (k := 0) rfl rfl) rfl rfl (Nat.le_of_ble_eq_true rfl) (zov_set (k := 0) rfl (Nat.le_of_ble_eq_true rfl) rfl) ?_
  refine aw_new (q := 29) dX6_init_26 rfl nw_X6_23 (by omega) (by omega) (by omega) rfl ?_
  refine aw_dup (q := 30) dX6_init_29 rfl rfl ?_
  refine aw_ci (q := 33) (as := []) (b := 64) (st := [.ref 64]) dX6_init_30 rfl W_X0_init k_X6_25 i_X0_init rfl rfl rfl rfl (by omega) (Nat.le_of_ble_eq_true rfl) (k_X0_init (d := 1) (by omega) (by omega)) (by omega) (by omega) ?_
  rintro r h8 ⟨rfl, rfl⟩
  refine aw_st (st' := [.ref 64]) rfl ?_
  refine aw_w (h' := zov h9 0 ([.inr (6, [.null, .null, .ref 1, .ref 51])] ++ zcX1 ++ zcX3 ++ zcB 64 : List va_E)) (zov_app (m := 64) rfl).symm ?_
  refine aw_astore_n (q := 34) dX6_init_33 rfl (by decide) rfl rfl ?_
  refine aw_aload_n (q := 35) dX6_init_34 rfl rfl ?_
  refine aw_new (q := 38) dX6_init_35 rfl nw_X6_26 (by omega) (by omega) (by omega) rfl ?_
  refine aw_dup (q := 39) dX6_init_38 rfl rfl ?_
  refine aw_aload_n (q := 40) dX6_init_39 rfl rfl ?_
  refine aw_ci (q := 43) (as := [.ref 64]) (b := 74) (st := [.ref 74, .ref 0]) dX6_init_40 rfl W_X4_init k_X6_28 i_X4_init rfl rfl rfl rfl (by omega) (Nat.le_of_ble_eq_true rfl) (k_X4_init (d := 1) (c := []) (by omega) rfl (by omega) (bo := 64)) (by omega) (by omega) ?_
  rintro r h8 ⟨rfl, rfl⟩
  refine aw_st (st' := [.ref 74, .ref 0]) rfl ?_
  refine aw_w (h' := zov h9 0 ([.inr (6, [.null, .null, .ref 1, .ref 51])] ++ zcX1 ++ zcX3 ++ zcB 64 ++ [zcS 64 75, zcD] : List va_E)) (zov_app (m := 74) rfl).symm ?_
  refine aw_putF (q := 46) (h' := zov h9 0 ([.inr (6, [.ref 74, .null, .ref 1, .ref 51])] ++ zcX1 ++ zcX3 ++ zcB 64 ++ [zcS 64 75, zcD] : List va_E)) dX6_init_43 rfl f_X6_31 rfl (by omega) (zov_at (k := 0) rfl rfl) rfl rfl (Nat.le_of_ble_eq_true rfl) (zov_set (k := 0) rfl (Nat.le_of_ble_eq_true rfl) rfl) ?_
  refine aw_aload_n (q := 47) dX6_init_46 rfl rfl ?_
  refine aw_new (q := 50) dX6_init_47 rfl nw_X6_35 (by omega) (by omega) (by omega) rfl ?_
  refine aw_dup (q := 51) dX6_init_50 rfl rfl ?_
  refine aw_aload_n (q := 52) dX6_init_51 rfl rfl ?_
  refine aw_ci (q := 55) (as := [.ref 64]) (b := 76) (st := [.ref 76, .ref 0]) dX6_init_52 rfl W_X2_init k_X6_37 i_X2_init rfl rfl rfl rfl (by omega) (Nat.le_of_ble_eq_true rfl) (k_X2_init (d := 2) (by omega)) (by omega) (by omega) ?_
  rintro r h8 ⟨rfl, rfl⟩
  refine aw_st (st' := [.ref 76, .ref 0]) rfl ?_
  refine aw_w (h' := zov h9 0 ([.inr (6, [.ref 74, .null, .ref 1, .ref 51])] ++ zcX1 ++ zcX3 ++ zcB 64 ++ [zcS 64 75, zcD] ++ zcX2 : List va_E)) (zov_app (m := 76) rfl).symm ?_
  refine aw_putF (q := 58) (h' := zov h9 0 ([.inr (6, [.ref 74, .ref 76, .ref 1, .ref 51])] ++ zcX1 ++ zcX3 ++ zcB 64 ++ [zcS 64 75, zcD] ++ zcX2 : List va_E)) dX6_init_55 rfl f_X6_38 rfl (by omega) (zov_at (k := 0) rfl rfl) rfl rfl (Nat.le_of_ble_eq_true rfl) (zov_set (k := 0) rfl (Nat.le_of_ble_eq_true rfl) rfl) ?_
  exact aw_vret dX6_init_58 rfl (by omega) (by omega) ⟨rfl, rfl⟩
def zn7 (i : Nat) : Nat → Int32 := fun j => if 62 ≤ j ∧ j < 62 + i then -1 else if j = 7 then 1024 else if j = 6 then -1 else if j = 4 then 3 else 0
theorem zn7_0 : upd (upd (upd (fun _ => 0) 4 3) 6 (-1)) 7 1024 = zn7 0 := by
  funext j
  unfold zn7
  rw [if_neg (by omega)]
  rfl
theorem zn7_up {i : Nat} {x : Int32} (hx : x.toNatClampNeg = 62 + i) : upd (zn7 i) x.toNatClampNeg (-1) = zn7 (i + 1) := by
  rw [hx]
  funext j
  unfold upd zn7
  by_cases h : j = 62 + i
  · rw [if_pos h, if_pos (by omega)]
  · rw [if_neg h]
    by_cases h2 : 62 ≤ j ∧ j < 62 + i
    · rw [if_pos h2, if_pos (by omega)]
    · rw [if_neg h2, if_neg (show ¬ (62 ≤ j ∧ j < 62 + (i + 1)) by omega)]
end ZINIT2
