/-! THE CONSTRUCTORS: contracts, walked by their bytecode (this text is written by a program). -/
theorem zov_new {h : zH} {b m : Nat} {c1 c' : List va_E} {e : va_E} (hm : b + c1.length = m) (hc : c1 ++ [e] = c') : zov (zov h b c1) m [e] = zov h b c' := by
  rw [zov_app hm, hc]
def zrf (a k i : Nat) : Nat → Option Nat := fun j => if j < i then some (a + k * j) else none
theorem zrf0 (a k : Nat) : (fun _ => none : Nat → Option Nat) = zrf a k 0 := by
  funext j
  exact (if_neg (by omega)).symm
theorem zrf_up {a k i v : Nat} {x : Int32} (hx : x.toNatClampNeg = i) (hv : a + k * i = v) : va_up (zrf a k i) x.toNatClampNeg (some v) = zrf a k (i + 1) := by
  subst hv
  rw [hx]
  funext j
  unfold va_up zrf
  by_cases h : j = i
  · subst h
    rw [if_pos rfl, if_pos (Nat.lt_succ_self _)]
  · rw [if_neg h]
    by_cases h2 : j < i
    · rw [if_pos h2, if_pos (by omega)]
    · rw [if_neg h2, if_neg (by omega)]
def zfill (n : Nat) (v : Int32) (f : Nat → Int32) : Nat → Int32 := fun j => if j < n then v else f j
theorem zfill_up (i : Nat) (v : Int32) (f : Nat → Int32) : upd (zfill i v f) i v = zfill (i + 1) v f := by
  funext j
  unfold upd zfill
  by_cases h : j = i
  · subst h
    rw [if_pos rfl, if_pos (Nat.lt_succ_self _)]
  · rw [if_neg h]
    by_cases h2 : j < i
    · rw [if_pos h2, if_pos (by omega)]
    · rw [if_neg h2, if_neg (by omega)]
section ZINIT
variable {G : zG}
theorem aw_aast3 {M : zM} {d N S n0 s0 : Nat} {P : Option Value → zH → Prop} {pc q : Nat} {L : List (Option Value)} {st : List Value} {n sl : Nat} {h h' : zH} {a len v ci : Nat} {vs : List Value} {f : Nat → Option Nat} {i : Int32} {T : u_T} {Nf : Nat} (hd : decode M.2.1 pc = .ok (.aastore, 1)) (hq : pc + 1 = q) (ha : a < n) (hh : h a = .inl (3, len, .inr (.inr (.inr (.inr f))))) (hv : v < n) (hhv : h v = .inr (ci, vs)) (hc : vwCl[ci]? = some (RX5, T, Nf)) (hin : vp_in i len) (hH : zu h a (.inl (3, len, .inr (.inr (.inr (.inr (va_up f i.toNatClampNeg (some v))))))) = h') (K : AW G M d N S n0 s0 P q L st n sl h') : AW G M d N S n0 s0 P pc L (.ref v :: .int i :: .ref a :: st) n sl h := by
  subst hq
  subst hH
  intro p l e s m args below meth c H locs ls C hs hI hS hl hn hsl
  refine va_astq C.1 C.2.1 C.2.2.2.2.2.2.2.2.1 hI.2.2 zWl_D hS a 3 v ci (zWl_at hI.2.1 ha hh) rfl (zWl_at hI.2.1 hv hhv) hc hin hd (fun H1 locs1 hP hD hS1 => w_size fun hz => ?_)
  have e1 : va_up (fun j => (f j).map (zA G)) i.toNatClampNeg (some (zA G v)) = fun j => (va_up f i.toNatClampNeg (some v) j).map (zA G) := by
    funext j
    unfold va_up
    split <;> rfl
  have hP : va_P G.2.2.1 vwCl (zWl G n (zu h a (.inl (3, len, .inr (.inr (.inr (.inr (va_up f i.toNatClampNeg (some v))))))))) H1 := by
    rw [← zWl_set hI.2.1 ha]
    rw [e1] at hP
    exact hP
  exact K p l e s m args below meth c H1 locs1 ls C hs (zI_of hs hn.1 hI.2.1 ha hP hz) hS1 hl hn hsl
theorem fill_loop {d n sl a len : Nat} {v : Int32} {f : Nat → Int32} {h : zH} (ha : a < n) (hlen : len < 1000) : ∀ (k i : Nat), i + k = len →
    AW G M_J7_fill_53178 d n sl n sl (fun r h' => r = none ∧ h' = zu h a (.inl (0, len, .inl (zfill len v f)))) 5 [some (.ref a), some (.int v), some (.int (nI i)), some (.int (nI len))] [] n sl (zu h a (.inl (0, len, .inl (zfill i v f))))
  | 0, i, e => by
    obtain rfl : i = len := by omega
    refine aw_iload_n (q := 6) dJ7_fill_53178_5 rfl rfl ?_
    refine aw_iload_n (q := 7) dJ7_fill_53178_6 rfl rfl ?_
    refine aw_icmp_ge (q := 10) (t := 20) dJ7_fill_53178_7 rfl (by decide) (fun _ => ?_) (fun hz => absurd (Int32.le_refl _) hz)
    exact aw_vret dJ7_fill_53178_20 rfl rfl rfl ⟨rfl, rfl⟩
  | k + 1, i, e => by
    refine aw_iload_n (q := 6) dJ7_fill_53178_5 rfl rfl ?_
    refine aw_iload_n (q := 7) dJ7_fill_53178_6 rfl rfl ?_
    refine aw_icmp_ge (q := 10) (t := 20) dJ7_fill_53178_7 rfl (by decide) (fun hz => absurd hz (nI_ge (by omega) (by omega))) (fun _ => ?_)
    refine aw_aload_n (q := 11) dJ7_fill_53178_10 rfl rfl ?_
    refine aw_iload_n (q := 12) dJ7_fill_53178_11 rfl rfl ?_
    refine aw_iload_n (q := 13) dJ7_fill_53178_12 rfl rfl ?_
    refine aw_iast (q := 14) (len := len) (f := zfill i v f) (h' := zu h a (.inl (0, len, .inl (zfill (i + 1) v f)))) dJ7_fill_53178_13 rfl ha (by unfold zu; rw [if_pos rfl]) (nI_in (by omega) (by omega)) ?_ ?_
    · rw [nI_clamp (by omega), zfill_up]
      funext j
      unfold zu
      by_cases hj : j = a
      · rw [if_pos hj, if_pos hj]
      · rw [if_neg hj, if_neg hj, if_neg hj]
    · refine aw_iinc (q := 17) (v := nI (i + 1)) dJ7_fill_53178_14 rfl rfl (nI_1 i) (by decide) rfl rfl ?_
      refine aw_goto (q := 5) dJ7_fill_53178_17 (by decide) ?_
      exact fill_loop ha hlen k (i + 1) (by omega)
theorem k_fill {d n sl a len : Nat} {v : Int32} {f : Nat → Int32} {h : zH} (ha : a < n) (hlen : len < 1000) (hh : h a = .inl (0, len, .inl f)) : zMt G d M_J7_fill_53178 [.ref a, .int v] n sl h n sl (fun r h' => r = none ∧ h' = zu h a (.inl (0, len, .inl (zfill len v f)))) := by
  refine zMt_of (L := [some (.ref a), some (.int v), none, none]) (by decide +kernel) (fun w hw => by
    rcases List.mem_cons.mp hw with rfl | hw
    · rfl
    · rcases List.mem_cons.mp hw with rfl | hw
      · rfl
      · cases hw) (Nat.le_of_ble_eq_true rfl) (Nat.le_refl _) (Nat.le_refl _) rfl ?_
  refine aw_iconst (q := 1) (v := 0) dJ7_fill_53178_0 rfl (by decide) ?_
  refine aw_istore_n (q := 2) dJ7_fill_53178_1 rfl (by decide) rfl rfl ?_
  refine aw_aload_n (q := 3) dJ7_fill_53178_2 rfl rfl ?_
  refine aw_alen (q := 4) (t := 0) (v := nI len) dJ7_fill_53178_3 rfl ha (by decide) hh rfl ?_
  refine aw_istore_n (q := 5) dJ7_fill_53178_4 rfl (by decide) rfl rfl ?_
  have e0 : zu h a (.inl (0, len, .inl (zfill 0 v f))) = h := by
    funext j
    unfold zu
    by_cases hj : j = a
    · subst hj
      rw [if_pos rfl, hh]
      rfl
    · rw [if_neg hj]
  refine aw_w e0 ?_
  exact fill_loop ha hlen len 0 (by omega)
theorem zk_cat {l : List Value} (h : l.all (fun v => v.category == 1) = true) : ∀ v ∈ l, v.category = 1 := fun v hv => by simpa using List.all_eq_true.mp h v hv
theorem nw_X1_9 : zNw RX1 9 4 8 [.null, .null, .int 0, .int 0, .int 0, .int 0, .int 0, .int 0] := ⟨RX4, TX4, tyX4, rfl, zk_at 5 rfl, zk_at 20 rfl, zk_at 28 rfl, u_X4, tyX4_ok, by intro j hj; rcases (by omega : j = 0 ∨ j = 1 ∨ j = 2 ∨ j = 3 ∨ j = 4 ∨ j = 5 ∨ j = 6 ∨ j = 7) with rfl | rfl | rfl | rfl | rfl | rfl | rfl | rfl <;> rfl, fun _ => rfl⟩
theorem nw_X1_17 : zNw RX1 17 0 14 [.null, .null, .null, .null, .null, .null, .null, .null, .null, .int 0, .int 0, .int 0, .int 0, .int 0] := ⟨RX0, TX0, tyX0, rfl, zk_at 12 rfl, zk_at 16 rfl, zk_at 24 rfl, u_X0, tyX0_ok, by intro j hj; rcases (by omega : j = 0 ∨ j = 1 ∨ j = 2 ∨ j = 3 ∨ j = 4 ∨ j = 5 ∨ j = 6 ∨ j = 7 ∨ j = 8 ∨ j = 9 ∨ j = 10 ∨ j = 11 ∨ j = 12 ∨ j = 13) with rfl | rfl | rfl | rfl | rfl | rfl | rfl | rfl | rfl | rfl | rfl | rfl | rfl | rfl <;> rfl, fun _ => rfl⟩
theorem nw_X3_9 : zNw RX3 9 0 14 [.null, .null, .null, .null, .null, .null, .null, .null, .null, .int 0, .int 0, .int 0, .int 0, .int 0] := ⟨RX0, TX0, tyX0, rfl, zk_at 13 rfl, zk_at 16 rfl, zk_at 24 rfl, u_X0, tyX0_ok, by intro j hj; rcases (by omega : j = 0 ∨ j = 1 ∨ j = 2 ∨ j = 3 ∨ j = 4 ∨ j = 5 ∨ j = 6 ∨ j = 7 ∨ j = 8 ∨ j = 9 ∨ j = 10 ∨ j = 11 ∨ j = 12 ∨ j = 13) with rfl | rfl | rfl | rfl | rfl | rfl | rfl | rfl | rfl | rfl | rfl | rfl | rfl | rfl <;> rfl, fun _ => rfl⟩
theorem nw_X6_9 : zNw RX6 9 1 2 [.null, .int 0] := ⟨RX1, TX1, tyX1, rfl, zk_at 7 rfl, zk_at 17 rfl, zk_at 25 rfl, u_X1, tyX1_ok, by intro j hj; rcases (by omega : j = 0 ∨ j = 1) with rfl | rfl <;> rfl, fun _ => rfl⟩
theorem nw_X6_16 : zNw RX6 16 3 9 [.null, .null, .null, .int 0, .int 0, .int 0, .int 0, .int 0, .int 0] := ⟨RX3, TX3, tyX3, rfl, zk_at 8 rfl, zk_at 19 rfl, zk_at 27 rfl, u_X3, tyX3_ok, by intro j hj; rcases (by omega : j = 0 ∨ j = 1 ∨ j = 2 ∨ j = 3 ∨ j = 4 ∨ j = 5 ∨ j = 6 ∨ j = 7 ∨ j = 8) with rfl | rfl | rfl | rfl | rfl | rfl | rfl | rfl | rfl <;> rfl, fun _ => rfl⟩
theorem nw_X6_23 : zNw RX6 23 0 14 [.null, .null, .null, .null, .null, .null, .null, .null, .null, .int 0, .int 0, .int 0, .int 0, .int 0] := ⟨RX0, TX0, tyX0, rfl, zk_at 9 rfl, zk_at 16 rfl, zk_at 24 rfl, u_X0, tyX0_ok, by intro j hj; rcases (by omega : j = 0 ∨ j = 1 ∨ j = 2 ∨ j = 3 ∨ j = 4 ∨ j = 5 ∨ j = 6 ∨ j = 7 ∨ j = 8 ∨ j = 9 ∨ j = 10 ∨ j = 11 ∨ j = 12 ∨ j = 13) with rfl | rfl | rfl | rfl | rfl | rfl | rfl | rfl | rfl | rfl | rfl | rfl | rfl | rfl <;> rfl, fun _ => rfl⟩
theorem nw_X6_26 : zNw RX6 26 4 8 [.null, .null, .int 0, .int 0, .int 0, .int 0, .int 0, .int 0] := ⟨RX4, TX4, tyX4, rfl, zk_at 10 rfl, zk_at 20 rfl, zk_at 28 rfl, u_X4, tyX4_ok, by intro j hj; rcases (by omega : j = 0 ∨ j = 1 ∨ j = 2 ∨ j = 3 ∨ j = 4 ∨ j = 5 ∨ j = 6 ∨ j = 7) with rfl | rfl | rfl | rfl | rfl | rfl | rfl | rfl <;> rfl, fun _ => rfl⟩
theorem nw_X6_35 : zNw RX6 35 2 5 [.null, .null, .null, .null, .int 0] := ⟨RX2, TX2, tyX2, rfl, zk_at 11 rfl, zk_at 18 rfl, zk_at 26 rfl, u_X2, tyX2_ok, by intro j hj; rcases (by omega : j = 0 ∨ j = 1 ∨ j = 2 ∨ j = 3 ∨ j = 4) with rfl | rfl | rfl | rfl | rfl <;> rfl, fun _ => rfl⟩
theorem nw_X2_9 : zNw RX2 9 5 7 [.null, .int 0, .null, .null, .int 0, .int 0, .int 0] := ⟨RX5, TX5, tyX5, rfl, zk_at 6 rfl, zk_at 21 rfl, zk_at 29 rfl, u_X5, tyX5_ok, by intro j hj; rcases (by omega : j = 0 ∨ j = 1 ∨ j = 2 ∨ j = 3 ∨ j = 4 ∨ j = 5 ∨ j = 6) with rfl | rfl | rfl | rfl | rfl | rfl | rfl <;> rfl, fun _ => rfl⟩
theorem nw_L_10 : zNw RL 10 6 4 [.null, .null, .null, .null] := ⟨RX6, TX6, tyX6, rfl, zk_at 14 rfl, zk_at 22 rfl, zk_at 30 rfl, u_X6, tyX6_ok, by intro j hj; rcases (by omega : j = 0 ∨ j = 1 ∨ j = 2 ∨ j = 3) with rfl | rfl | rfl | rfl <;> rfl, fun _ => rfl⟩
def zcB (b : Nat) : List va_E := [.inr (0, [.ref (b + 1), .ref (b + 2), .ref (b + 3), .ref (b + 4), .ref (b + 5), .ref (b + 6), .ref (b + 7), .ref (b + 8), .ref (b + 9), .int 0, .int 0, .int 0, .int 0, .int 0]), .inl (0, 8, .inl fun _ => 0), .inl (0, 16, .inl (zfill 16 (-1) (fun _ => 0))), .inl (0, 5, .inl fun _ => 0), .inl (0, 5, .inl fun _ => 0), .inl (0, 5, .inl fun _ => 0), .inl (0, 10, .inl fun _ => 0), .inl (0, 10, .inl fun _ => 0), .inl (0, 10, .inl fun _ => 0), .inl (0, 16, .inl fun _ => 0)]
set_option maxRecDepth 100000 in
set_option maxHeartbeats 4000000 in
theorem k_X0_init {d : Nat} {h9 : zH} {b sl : Nat} (hd : 1 ≤ d) (hb : b < 900000) : zMt G d M_X0_init [.ref b] (b + 1) sl (zov h9 b [.inr (0, [.null, .null, .null, .null, .null, .null, .null, .null, .null, .int 0, .int 0, .int 0, .int 0, .int 0])]) (b + 10) (sl + 85) (fun r h' => r = none ∧ h' = zov h9 b (zcB b)) := by
  refine zMt_of (L := [some (.ref b)]) (by decide +kernel) (zk_cat rfl) (Nat.le_of_ble_eq_true rfl) (by omega) (by omega) rfl ?_
  refine aw_aload_n (q := 1) dX0_init_0 rfl rfl ?_
  refine aw_obj (q := 4) dX0_init_1 rfl k_X0_3 (by omega) (Nat.le_of_ble_eq_true rfl) ?_
  refine aw_aload_n (q := 5) dX0_init_4 rfl rfl ?_
  refine aw_bipush (q := 7) (v := 8) dX0_init_5 rfl (by decide) ?_
  refine aw_newi (q := 9) (len := 8) (h' := zov h9 b ([.inr (0, [.null, .null, .null, .null, .null, .null, .null, .null, .null, .int 0, .int 0, .int 0, .int 0, .int 0]), .inl (0, 8, .inl fun _ => 0)] : List va_E)) dX0_init_7 rfl (by decide) (by decide) (by decide) (by omega) (by omega) (by omega) (zov_new rfl rfl) ?_
  refine aw_putF (q := 12) (h' := zov h9 b ([.inr (0, [.ref (b + 1), .null, .null, .null, .null, .null, .null, .null, .null, .int 0, .int 0, .int 0, .int 0, .int 0]), .inl (0, 8, .inl fun _ => 0)] : List va_E)) dX0_init_9 rfl f_X0_9 rfl (by omega) (zov_at (k := 0) rfl rfl) rfl rfl (Nat.le_of_ble_eq_true rfl) (zov_set (k := 0) rfl (Nat.le_of_ble_eq_true rfl) rfl) ?_
  refine aw_aload_n (q := 13) dX0_init_12 rfl rfl ?_
  refine aw_bipush (q := 15) (v := 16) dX0_init_13 rfl (by decide) ?_
  refine aw_newi (q := 17) (len := 16) (h' := zov h9 b ([.inr (0, [.ref (b + 1), .null, .null, .null, .null, .null, .null, .null, .null, .int 0, .int 0, .int 0, .int 0, .int 0]), .inl (0, 8, .inl fun _ => 0), .inl (0, 16, .inl fun _ => 0)] : List va_E)) dX0_init_15 rfl (by decide) (by decide) (by decide) (by omega) (by omega) (by omega) (zov_new rfl rfl) ?_
  refine aw_putF (q := 20) (h' := zov h9 b ([.inr (0, [.ref (b + 1), .ref (b + 2), .null, .null, .null, .null, .null, .null, .null, .int 0, .int 0, .int 0, .int 0, .int 0]), .inl (0, 8, .inl fun _ => 0), .inl (0, 16, .inl fun _ => 0)] : List va_E)) dX0_init_17 rfl f_X0_15 rfl (by omega) (zov_at (k := 0) rfl rfl) rfl rfl (Nat.le_of_ble_eq_true rfl) (zov_set (k := 0) rfl (Nat.le_of_ble_eq_true rfl) rfl) ?_
  refine aw_aload_n (q := 21) dX0_init_20 rfl rfl ?_
  refine aw_iconst (q := 22) (v := 5) dX0_init_21 rfl (by decide) ?_
  refine aw_newi (q := 24) (len := 5) (h' := zov h9 b ([.inr (0, [.ref (b + 1), .ref (b + 2), .null, .null, .null, .null, .null, .null, .null, .int 0, .int 0, .int 0, .int 0, .int 0]), .inl (0, 8, .inl fun _ => 0), .inl (0, 16, .inl fun _ => 0), .inl (0, 5, .inl fun _ => 0)] : List va_E)) dX0_init_22 rfl (by decide) (by decide) (by decide) (by omega) (by omega) (by omega) (zov_new rfl rfl) ?_
  refine aw_putF (q := 27) (h' := zov h9 b ([.inr (0, [.ref (b + 1), .ref (b + 2), .ref (b + 3), .null, .null, .null, .null, .null, .null, .int 0, .int 0, .int 0, .int 0, .int 0]), .inl (0, 8, .inl fun _ => 0), .inl (0, 16, .inl fun _ => 0), .inl (0, 5, .inl fun _ => 0)] : List va_E)) dX0_init_24 rfl f_X0_18 rfl (by omega) (zov_at (k := 0) rfl rfl) rfl rfl (Nat.le_of_ble_eq_true rfl) (zov_set (k := 0) rfl (Nat.le_of_ble_eq_true rfl) rfl) ?_
  refine aw_aload_n (q := 28) dX0_init_27 rfl rfl ?_
  refine aw_iconst (q := 29) (v := 5) dX0_init_28 rfl (by decide) ?_
  refine aw_newi (q := 31) (len := 5) (h' := zov h9 b ([.inr (0, [.ref (b + 1), .ref (b + 2), .ref (b + 3), .null, .null, .null, .null, .null, .null, .int 0, .int 0, .int 0, .int 0, .int 0]), .inl (0, 8, .inl fun _ => 0), .inl (0, 16, .inl fun _ => 0), .inl (0, 5, .inl fun _ => 0), .inl (0, 5, .inl fun _ => 0)] : List va_E)) dX0_init_29 rfl (by decide) (by decide) (by decide) (by omega) (by omega) (by omega) (zov_new rfl rfl) ?_
  refine aw_putF (q := 34) (h' := zov h9 b ([.inr (0, [.ref (b + 1), .ref (b + 2), .ref (b + 3), .ref (b + 4), .null, .null, .null, .null, .null, .int 0, .int 0, .int 0, .int 0, .int 0]), .inl (0, 8, .inl fun _ => 0), .inl (0, 16, .inl fun _ => 0), .inl (0, 5, .inl fun _ => 0), .inl (0, 5, .inl fun _ => 0)] : List va_E)) dX0_init_31 rfl f_X0_21 rfl (by omega) (zov_at (k := 0) rfl rfl) rfl rfl (Nat.le_of_ble_eq_true rfl) (zov_set (k := 0) rfl (Nat.le_of_ble_eq_true rfl) rfl) ?_
  refine aw_aload_n (q := 35) dX0_init_34 rfl rfl ?_
  refine aw_iconst (q := 36) (v := 5) dX0_init_35 rfl (by decide) ?_
  refine aw_newi (q := 38) (len := 5) (h' := zov h9 b ([.inr (0, [.ref (b + 1), .ref (b + 2), .ref (b + 3), .ref (b + 4), .null, .null, .null, .null, .null, .int 0, .int 0, .int 0, .int 0, .int 0]), .inl (0, 8, .inl fun _ => 0), .inl (0, 16, .inl fun _ => 0), .inl (0, 5, .inl fun _ => 0), .inl (0, 5, .inl fun _ => 0), .inl (0, 5, .inl fun _ => 0)] : List va_E)) dX0_init_36 rfl (by decide) (by decide) (by decide) (by omega) (by omega) (by omega) (zov_new rfl rfl) ?_
  refine aw_putF (q := 41) (h' := zov h9 b ([.inr (0, [.ref (b + 1), .ref (b + 2), .ref (b + 3), .ref (b + 4), .ref (b + 5), .null, .null, .null, .null, .int 0, .int 0, .int 0, .int 0, .int 0]), .inl (0, 8, .inl fun _ => 0), .inl (0, 16, .inl fun _ => 0), .inl (0, 5, .inl fun _ => 0), .inl (0, 5, .inl fun _ => 0), .inl (0, 5, .inl fun _ => 0)] : List va_E)) dX0_init_38 rfl f_X0_24 rfl (by omega) (zov_at (k := 0) rfl rfl) rfl rfl (Nat.le_of_ble_eq_true rfl) (zov_set (k := 0) rfl (Nat.le_of_ble_eq_true rfl) rfl) ?_
  refine aw_aload_n (q := 42) dX0_init_41 rfl rfl ?_
  refine aw_bipush (q := 44) (v := 10) dX0_init_42 rfl (by decide) ?_
  refine aw_newi (q := 46) (len := 10) (h' := zov h9 b ([.inr (0, [.ref (b + 1), .ref (b + 2), .ref (b + 3), .ref (b + 4), .ref (b + 5), .null, .null, .null, .null, .int 0, .int 0, .int 0, .int 0, .int 0]), .inl (0, 8, .inl fun _ => 0), .inl (0, 16, .inl fun _ => 0), .inl (0, 5, .inl fun _ => 0), .inl (0, 5, .inl fun _ => 0), .inl (0, 5, .inl fun _ => 0), .inl (0, 10, .inl fun _ => 0)] : List va_E)) dX0_init_44 rfl (by decide) (by decide) (by decide) (by omega) (by omega) (by omega) (zov_new rfl rfl) ?_
  refine aw_putF (q := 49) (h' := zov h9 b ([.inr (0, [.ref (b + 1), .ref (b + 2), .ref (b + 3), .ref (b + 4), .ref (b + 5), .ref (b + 6), .null, .null, .null, .int 0, .int 0, .int 0, .int 0, .int 0]), .inl (0, 8, .inl fun _ => 0), .inl (0, 16, .inl fun _ => 0), .inl (0, 5, .inl fun _ => 0), .inl (0, 5, .inl fun _ => 0), .inl (0, 5, .inl fun _ => 0), .inl (0, 10, .inl fun _ => 0)] : List va_E)) dX0_init_46 rfl f_X0_27 rfl (by omega) (zov_at (k := 0) rfl rfl) rfl rfl (Nat.le_of_ble_eq_true rfl) (zov_set (k := 0) rfl (Nat.le_of_ble_eq_true rfl) rfl) ?_
  refine aw_aload_n (q := 50) dX0_init_49 rfl rfl ?_
  refine aw_bipush (q := 52) (v := 10) dX0_init_50 rfl (by decide) ?_
  refine aw_newi (q := 54) (len := 10) (h' := zov h9 b ([.inr (0, [.ref (b + 1), .ref (b + 2), .ref (b + 3), .ref (b + 4), .ref (b + 5), .ref (b + 6), .null, .null, .null, .int 0, .int 0, .int 0, .int 0, .int 0]), .inl (0, 8, .inl fun _ => 0), .inl (0, 16, .inl fun _ => 0), .inl (0, 5, .inl fun _ => 0), .inl (0, 5, .inl fun _ => 0), .inl (0, 5, .inl fun _ => 0), .inl (0, 10, .inl fun _ => 0), .inl (0, 10, .inl fun _ => 0)] : List va_E)) dX0_init_52 rfl (by decide) (by decide) (by decide) (by omega) (by omega) (by omega) (zov_new rfl rfl) ?_
  refine aw_putF (q := 57) (h' := zov h9 b ([.inr (0, [.ref (b + 1), .ref (b + 2), .ref (b + 3), .ref (b + 4), .ref (b + 5), .ref (b + 6), .ref (b + 7), .null, .null, .int 0, .int 0, .int 0, .int 0, .int 0]), .inl (0, 8, .inl fun _ => 0), .inl (0, 16, .inl fun _ => 0), .inl (0, 5, .inl fun _ => 0), .inl (0, 5, .inl fun _ => 0), .inl (0, 5, .inl fun _ => 0), .inl (0, 10, .inl fun _ => 0), .inl (0, 10, .inl fun _ => 0)] : List va_E)) dX0_init_54 rfl f_X0_30 rfl (by omega) (zov_at (k := 0) rfl rfl) rfl rfl (Nat.le_of_ble_eq_true rfl) (zov_set (k := 0) rfl (Nat.le_of_ble_eq_true rfl) rfl) ?_
  refine aw_aload_n (q := 58) dX0_init_57 rfl rfl ?_
  refine aw_bipush (q := 60) (v := 10) dX0_init_58 rfl (by decide) ?_
  refine aw_newi (q := 62) (len := 10) (h' := zov h9 b ([.inr (0, [.ref (b + 1), .ref (b + 2), .ref (b + 3), .ref (b + 4), .ref (b + 5), .ref (b + 6), .ref (b + 7), .null, .null, .int 0, .int 0, .int 0, .int 0, .int 0]), .inl (0, 8, .inl fun _ => 0), .inl (0, 16, .inl fun _ => 0), .inl (0, 5, .inl fun _ => 0), .inl (0, 5, .inl fun _ => 0), .inl (0, 5, .inl fun _ => 0), .inl (0, 10, .inl fun _ => 0), .inl (0, 10, .inl fun _ => 0), .inl (0, 10, .inl fun _ => 0)] : List va_E)) dX0_init_60 rfl (by decide) (by decide) (by decide) (by omega) (by omega) (by omega) (zov_new rfl rfl) ?_
  refine aw_putF (q := 65) (h' := zov h9 b ([.inr (0, [.ref (b + 1), .ref (b + 2), .ref (b + 3), .ref (b + 4), .ref (b + 5), .ref (b + 6), .ref (b + 7), .ref (b + 8), .null, .int 0, .int 0, .int 0, .int 0, .int 0]), .inl (0, 8, .inl fun _ => 0), .inl (0, 16, .inl fun _ => 0), .inl (0, 5, .inl fun _ => 0), .inl (0, 5, .inl fun _ => 0), .inl (0, 5, .inl fun _ => 0), .inl (0, 10, .inl fun _ => 0), .inl (0, 10, .inl fun _ => 0), .inl (0, 10, .inl fun _ => 0)] : List va_E)) dX0_init_62 rfl f_X0_33 rfl (by omega) (zov_at (k := 0) rfl rfl) rfl rfl (Nat.le_of_ble_eq_true rfl) (zov_set (k := 0) rfl (Nat.le_of_ble_eq_true rfl) rfl) ?_
  refine aw_aload_n (q := 66) dX0_init_65 rfl rfl ?_
  refine aw_bipush (q := 68) (v := 16) dX0_init_66 rfl (by decide) ?_
  refine aw_newi (q := 70) (len := 16) (h' := zov h9 b ([.inr (0, [.ref (b + 1), .ref (b + 2), .ref (b + 3), .ref (b + 4), .ref (b + 5), .ref (b + 6), .ref (b + 7), .ref (b + 8), .null, .int 0, .int 0, .int 0, .int 0, .int 0]), .inl (0, 8, .inl fun _ => 0), .inl (0, 16, .inl fun _ => 0), .inl (0, 5, .inl fun _ => 0), .inl (0, 5, .inl fun _ => 0), .inl (0, 5, .inl fun _ => 0), .inl (0, 10, .inl fun _ => 0), .inl (0, 10, .inl fun _ => 0), .inl (0, 10, .inl fun _ => 0), .inl (0, 16, .inl fun _ => 0)] : List va_E)) dX0_init_68 rfl (by decide) (by decide) (by decide) (by omega) (by omega) (by omega) (zov_new rfl rfl) ?_
  refine aw_putF (q := 73) (h' := zov h9 b ([.inr (0, [.ref (b + 1), .ref (b + 2), .ref (b + 3), .ref (b + 4), .ref (b + 5), .ref (b + 6), .ref (b + 7), .ref (b + 8), .ref (b + 9), .int 0, .int 0, .int 0, .int 0, .int 0]), .inl (0, 8, .inl fun _ => 0), .inl (0, 16, .inl fun _ => 0), .inl (0, 5, .inl fun _ => 0), .inl (0, 5, .inl fun _ => 0), .inl (0, 5, .inl fun _ => 0), .inl (0, 10, .inl fun _ => 0), .inl (0, 10, .inl fun _ => 0), .inl (0, 10, .inl fun _ => 0), .inl (0, 16, .inl fun _ => 0)] : List va_E)) dX0_init_70 rfl f_X0_36 rfl (by omega) (zov_at (k := 0) rfl rfl) rfl rfl (Nat.le_of_ble_eq_true rfl) (zov_set (k := 0) rfl (Nat.le_of_ble_eq_true rfl) rfl) ?_
  refine aw_aload_n (q := 74) dX0_init_73 rfl rfl ?_
  refine aw_getr (q := 77) dX0_init_74 rfl e_X0_15 (by omega) (zov_at (k := 0) rfl rfl) rfl ?_
  refine aw_iconst (q := 78) (v := (-1)) dX0_init_77 rfl (by decide) ?_
  refine aw_cs (q := 81) (d' := 0) (as := [.ref (b + 2), .int (-1)]) (st := []) dX0_init_78 rfl W_J7_fill_53178 k_X0_39 s_J7_fill_53178 rfl rfl (by omega) (Nat.le_of_ble_eq_true rfl) (k_fill (len := 16) (by omega) (by decide) (zov_at (k := 2) rfl rfl)) (by omega) (by omega) ?_
  rintro r h8 ⟨rfl, rfl⟩
  refine aw_st (st' := []) rfl ?_
  refine aw_w (zov_set (k := 2) (c' := ([.inr (0, [.ref (b + 1), .ref (b + 2), .ref (b + 3), .ref (b + 4), .ref (b + 5), .ref (b + 6), .ref (b + 7), .ref (b + 8), .ref (b + 9), .int 0, .int 0, .int 0, .int 0, .int 0]), .inl (0, 8, .inl fun _ => 0), .inl (0, 16, .inl (zfill 16 (-1) (fun _ => 0))), .inl (0, 5, .inl fun _ => 0), .inl (0, 5, .inl fun _ => 0), .inl (0, 5, .inl fun _ => 0), .inl (0, 10, .inl fun _ => 0), .inl (0, 10, .inl fun _ => 0), .inl (0, 10, .inl fun _ => 0), .inl (0, 16, .inl fun _ => 0)] : List va_E)) rfl (Nat.le_of_ble_eq_true rfl) rfl).symm ?_
  exact aw_vret dX0_init_81 rfl (by omega) (by omega) ⟨rfl, rfl⟩
def zcU (b bo : Nat) (v : Int32) : List va_E := [.inr (5, [.ref bo, .int v, .ref (b + 1), .ref (b + 2), .int 0, .int 0, .int 0]), .inl (0, 16, .inl fun _ => 0), .inl (0, 16, .inl fun _ => 0)]
set_option maxRecDepth 100000 in
set_option maxHeartbeats 4000000 in
theorem k_X5_init {d : Nat} {h9 : zH} {b bo sl : Nat} {v : Int32} (hd : 1 ≤ d) (hb : b < 900000) : zMt G d M_X5_init [.ref b, .ref bo, .int v] (b + 1) sl (zov h9 b [.inr (5, [.null, .int 0, .null, .null, .int 0, .int 0, .int 0])]) (b + 3) (sl + 32) (fun r h' => r = none ∧ h' = zov h9 b (zcU b bo v)) := by
  refine zMt_of (L := [some (.ref b), some (.ref bo), some (.int v)]) (by decide +kernel) (zk_cat rfl) (Nat.le_of_ble_eq_true rfl) (by omega) (by omega) rfl ?_
  refine aw_aload_n (q := 1) dX5_init_0 rfl rfl ?_
  refine aw_obj (q := 4) dX5_init_1 rfl k_X5_3 (by omega) (Nat.le_of_ble_eq_true rfl) ?_
  refine aw_aload_n (q := 5) dX5_init_4 rfl rfl ?_
  refine aw_bipush (q := 7) (v := 16) dX5_init_5 rfl (by decide) ?_
  refine aw_newi (q := 9) (len := 16) (h' := zov h9 b ([.inr (5, [.null, .int 0, .null, .null, .int 0, .int 0, .int 0]), .inl (0, 16, .inl fun _ => 0)] : List va_E)) dX5_init_7 rfl (by decide) (by decide) (by decide) (by omega) (by omega) (by omega) (zov_new rfl rfl) ?_
  refine aw_putF (q := 12) (h' := zov h9 b ([.inr (5, [.null, .int 0, .ref (b + 1), .null, .int 0, .int 0, .int 0]), .inl (0, 16, .inl fun _ => 0)] : List va_E)) dX5_init_9 rfl f_X5_9 rfl (by omega) (zov_at (k := 0) rfl rfl) rfl rfl (Nat.le_of_ble_eq_true rfl) (zov_set (k := 0) rfl (Nat.le_of_ble_eq_true rfl) rfl) ?_
  refine aw_aload_n (q := 13) dX5_init_12 rfl rfl ?_
  refine aw_bipush (q := 15) (v := 16) dX5_init_13 rfl (by decide) ?_
  refine aw_newi (q := 17) (len := 16) (h' := zov h9 b ([.inr (5, [.null, .int 0, .ref (b + 1), .null, .int 0, .int 0, .int 0]), .inl (0, 16, .inl fun _ => 0), .inl (0, 16, .inl fun _ => 0)] : List va_E)) dX5_init_15 rfl (by decide) (by decide) (by decide) (by omega) (by omega) (by omega) (zov_new rfl rfl) ?_
  refine aw_putF (q := 20) (h' := zov h9 b ([.inr (5, [.null, .int 0, .ref (b + 1), .ref (b + 2), .int 0, .int 0, .int 0]), .inl (0, 16, .inl fun _ => 0), .inl (0, 16, .inl fun _ => 0)] : List va_E)) dX5_init_17 rfl f_X5_15 rfl (by omega) (zov_at (k := 0) rfl rfl) rfl rfl (Nat.le_of_ble_eq_true rfl) (zov_set (k := 0) rfl (Nat.le_of_ble_eq_true rfl) rfl) ?_
  refine aw_aload_n (q := 21) dX5_init_20 rfl rfl ?_
  refine aw_aload_n (q := 22) dX5_init_21 rfl rfl ?_
  refine aw_putF (q := 25) (h' := zov h9 b ([.inr (5, [.ref bo, .int 0, .ref (b + 1), .ref (b + 2), .int 0, .int 0, .int 0]), .inl (0, 16, .inl fun _ => 0), .inl (0, 16, .inl fun _ => 0)] : List va_E)) dX5_init_22 rfl f_X5_18 rfl (by omega) (zov_at (k := 0) rfl rfl) rfl rfl (Nat.le_of_ble_eq_true rfl) (zov_set (k := 0) rfl (Nat.le_of_ble_eq_true rfl) rfl) ?_
  refine aw_aload_n (q := 26) dX5_init_25 rfl rfl ?_
  refine aw_iload_n (q := 27) dX5_init_26 rfl rfl ?_
  refine aw_putF (q := 30) (h' := zov h9 b ([.inr (5, [.ref bo, .int v, .ref (b + 1), .ref (b + 2), .int 0, .int 0, .int 0]), .inl (0, 16, .inl fun _ => 0), .inl (0, 16, .inl fun _ => 0)] : List va_E)) dX5_init_27 rfl f_X5_22 rfl (by omega) (zov_at (k := 0) rfl rfl) rfl rfl (Nat.le_of_ble_eq_true rfl) (zov_set (k := 0) rfl (Nat.le_of_ble_eq_true rfl) rfl) ?_
  exact aw_vret dX5_init_30 rfl (by omega) (by omega) ⟨rfl, rfl⟩
def zcS (bo n : Nat) : va_E := .inr (4, [.ref bo, .ref n, .int 0, .int 10, .int 1024, .int 3, .int 0, .int 0])
def zcD : va_E := .inl (0, 10, .inl (zfill 10 (-1) (fun _ => 0)))
set_option maxRecDepth 100000 in
set_option maxHeartbeats 4000000 in
theorem k_X4_init {d : Nat} {h9 : zH} {b bo n sl : Nat} {c : List va_E} (hd : 1 ≤ d) (hc : b + 1 + c.length = n) (hb : n < 900000) : zMt G d M_X4_init [.ref b, .ref bo] n sl (zov h9 b (.inr (4, [.null, .null, .int 0, .int 0, .int 0, .int 0, .int 0, .int 0]) :: c)) (n + 1) (sl + 10) (fun r h' => r = none ∧ h' = zov h9 b (zcS bo n :: (c ++ [zcD]))) := by
  refine zMt_of (L := [some (.ref b), some (.ref bo)]) (by decide +kernel) (zk_cat rfl) (Nat.le_of_ble_eq_true rfl) (by omega) (by omega) rfl ?_
  refine aw_aload_n (q := 1) dX4_init_0 rfl rfl ?_
  refine aw_obj (q := 4) dX4_init_1 rfl k_X4_3 (by omega) (Nat.le_of_ble_eq_true rfl) ?_
  refine aw_aload_n (q := 5) dX4_init_4 rfl rfl ?_
  refine aw_bipush (q := 7) (v := 10) dX4_init_5 rfl (by decide) ?_
  refine aw_newi (q := 9) (len := 10) (h' := zov h9 b ([.inr (4, [.null, .null, .int 0, .int 0, .int 0, .int 0, .int 0, .int 0])] ++ c ++ [.inl (0, 10, .inl fun _ => 0)] : List va_E)) dX4_init_7 rfl (by decide) (by decide) (by decide) (by omega) (by omega) (by omega) (zov_new (by simp; omega) rfl) ?_
  refine aw_putF (q := 12) (h' := zov h9 b ([.inr (4, [.null, .ref n, .int 0, .int 0, .int 0, .int 0, .int 0, .int 0])] ++ c ++ [.inl (0, 10, .inl fun _ => 0)] : List va_E)) dX4_init_9 rfl f_X4_9 rfl (by omega) (zov_at (k := 0) rfl rfl) rfl rfl (Nat.le_of_ble_eq_true rfl) (zov_set (k := 0) rfl (by simp) rfl) ?_
  refine aw_aload_n (q := 13) dX4_init_12 rfl rfl ?_
  refine aw_bipush (q := 15) (v := 10) dX4_init_13 rfl (by decide) ?_
  refine aw_put (q := 18) (h' := zov h9 b ([.inr (4, [.null, .ref n, .int 0, .int 10, .int 0, .int 0, .int 0, .int 0])] ++ c ++ [.inl (0, 10, .inl fun _ => 0)] : List va_E)) dX4_init_15 rfl f_X4_15 (by omega) (zov_at (k := 0) rfl rfl) rfl rfl (Nat.le_of_ble_eq_true rfl) (zov_set (k := 0) rfl (by simp) rfl) ?_
  refine aw_aload_n (q := 19) dX4_init_18 rfl rfl ?_
  refine aw_sipush (q := 22) (v := 1024) dX4_init_19 rfl (by decide) ?_
  refine aw_put (q := 25) (h' := zov h9 b ([.inr (4, [.null, .ref n, .int 0, .int 10, .int 1024, .int 0, .int 0, .int 0])] ++ c ++ [.inl (0, 10, .inl fun _ => 0)] : List va_E)) dX4_init_22 rfl f_X4_19 (by omega) (zov_at (k := 0) rfl rfl) rfl rfl (Nat.le_of_ble_eq_true rfl) (zov_set (k := 0) rfl (by simp) rfl) ?_
  refine aw_aload_n (q := 26) dX4_init_25 rfl rfl ?_
  refine aw_iconst (q := 27) (v := 3) dX4_init_26 rfl (by decide) ?_
  refine aw_put (q := 30) (h' := zov h9 b ([.inr (4, [.null, .ref n, .int 0, .int 10, .int 1024, .int 3, .int 0, .int 0])] ++ c ++ [.inl (0, 10, .inl fun _ => 0)] : List va_E)) dX4_init_27 rfl f_X4_22 (by omega) (zov_at (k := 0) rfl rfl) rfl rfl (Nat.le_of_ble_eq_true rfl) (zov_set (k := 0) rfl (by simp) rfl) ?_
  refine aw_aload_n (q := 31) dX4_init_30 rfl rfl ?_
  refine aw_aload_n (q := 32) dX4_init_31 rfl rfl ?_
  refine aw_putF (q := 35) (h' := zov h9 b ([.inr (4, [.ref bo, .ref n, .int 0, .int 10, .int 1024, .int 3, .int 0, .int 0])] ++ c ++ [.inl (0, 10, .inl fun _ => 0)] : List va_E)) dX4_init_32 rfl f_X4_25 rfl (by omega) (zov_at (k := 0) rfl rfl) rfl rfl (Nat.le_of_ble_eq_true rfl) (zov_set (k := 0) rfl (by simp) rfl) ?_
  refine aw_aload_n (q := 36) dX4_init_35 rfl rfl ?_
  refine aw_getr (q := 39) dX4_init_36 rfl e_X4_9 (by omega) (zov_at (k := 0) rfl rfl) rfl ?_
  refine aw_iconst (q := 40) (v := (-1)) dX4_init_39 rfl (by decide) ?_
  refine aw_cs (q := 43) (d' := 0) (as := [.ref n, .int (-1)]) (st := []) dX4_init_40 rfl W_J7_fill_53178 k_X4_29 s_J7_fill_53178 rfl rfl (by omega) (Nat.le_of_ble_eq_true rfl) (k_fill (len := 10) (by omega) (by decide) (zov_at (k := 1 + c.length) (by omega) (by rw [Nat.add_comm]; simp; rfl))) (by omega) (by omega) ?_
  rintro r h8 ⟨rfl, rfl⟩
  refine aw_st (st' := []) rfl ?_
  refine aw_w (zov_set (k := 1 + c.length) (c' := zcS bo n :: (c ++ [zcD])) (by omega) (by simp; omega) (by rw [Nat.add_comm]; simp; exact ⟨rfl, rfl⟩)).symm ?_
  exact aw_vret dX4_init_43 rfl (by omega) (by omega) ⟨rfl, rfl⟩
end ZINIT
