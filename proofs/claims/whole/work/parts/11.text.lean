/-! TEXTS: a text's length, a text's letter. -/
section ZR5
variable {G : zG} {M M' : zM} {d d' N S n0 s0 N' S' : Nat} {P P' : Option Value → zH → Prop} {pc q : Nat} {L L' : List (Option Value)} {st stk as : List Value} {n sl : Nat} {h h' : zH}
theorem zs_of {p : Program} {s : State} {m : MethodId} {args : Array Value} {meth : Method} {c : Code} (C : zC G M p s m args meth c) : vk_S 8 zSl zSb (fun i => zA G (1000010 + i)) (fun i => zA G (1000020 + i)) (fun q => G.1 ≤ q) s s.heap := C.2.2.2.2.2.2.2.2.2.2.2.2.1
theorem aw_cvS {idx na i b : Nat} (hi : i < 8) (hib : 1000010 + i = b) (hcls : M'.1.cls = "java/lang/String") (hd : decode M.2.1 pc = .ok (.invokevirtual idx, 3)) (hq : pc + 3 = q) (hw : zW M' na) (hl : Cond.methodLink M.1.cls idx M'.1 ∈ lw_ok) (hin : Cond.instanceMethod M'.1 ∈ lw_ok) (hsel : Cond.selects M'.1.cls M'.1 M'.1 ∈ lw_ok) (hk : stk = as.reverse ++ .ref b :: st) (hna : as.length = na) (hdep : d' + 1 ≤ d) (hcat : (st.map fun v => v.category).sum ≤ 8) (hM : zMt G d' M' (.ref b :: as) n sl h N' S' P') (hN : N' ≤ N) (hS' : S' ≤ S) (K : ∀ r h', P' r h' → AW G M d N S n0 s0 P q L (r.toList ++ st) N' S' h') : AW G M d N S n0 s0 P pc L stk n sl h := by
  subst hq
  subst hk
  subst hib
  intro p l e s m args below meth c H locs ls C hs hI hS hl9 hn hsl
  obtain ⟨hM1, hM2, hM3⟩ := hM
  obtain ⟨w1, w2, w3, w4, w5⟩ := id hw
  have hts := C.2.2.2.2.1
  have hrec := vk_recv (zs_of C) hi hS
  rw [← hcls] at hrec
  refine zrun (N' := N') (P' := P') (mc := N' - n) (ms := S' - sl) (va_runV (C := M'.1.cls) (b := zA G (1000010 + i)) (own := M.1.cls) (index := idx) (n := na) (As := as.map (zV G)) (rest := st.map (zV G)) (g := F0 m pc ls ((as.reverse ++ .ref (1000010 + i) :: st).map (zV G))) ⟨C.1, C.2.1, C.2.2.1, C.2.2.2.1, hts⟩ (hM3 l) ⟨⟨rfl, rfl, hdep, zroom hdep w5, zpay hts hw, List.mem_cons_self, hts _ w2, hts _ w1, w3, fun sig hs9 => zlen w4 hs9, hts _ hl⟩, hts _ hin, hts _ hsel⟩
    ⟨zblind (Ps := fun _ _ => True), hrec, fun U hU hW => ⟨rfl, zpre C.2.2.2.2.2.2.2.2 hI hS hU hW⟩⟩ rfl (by rw [List.length_map]; exact hna) hl9.1 (by simp [zV]) (lv_room (zcat hcat)) hd
    ⟨by show n - n0 + (N' - n) ≤ N - n0; omega, by show sl - s0 + (S' - sl) ≤ S - s0; omega⟩) hS (fun r h' H1 locs1 hp hI1 hS1 => ?_)
  rw [ztail, znext hM1 hn.1 rfl, znext (n0 := s0) hM2 hsl.1 rfl]
  exact K r h' hp p l e s m args below meth c H1 locs1 ls C hs hI1 hS1 hl9 ⟨by omega, hN⟩ ⟨by omega, hS'⟩
theorem aw_gval {idx i b : Nat} (hi : i < 8) (hib : 1000010 + i = b) (hd : decode M.2.1 pc = .ok (.getfield idx, 3)) (hq : pc + 3 = q) (hl : Cond.fieldLink M.1.cls idx "java/lang/String" "value" "[B" ∈ lw_ok) (K : AW G M d N S n0 s0 P q L (.ref (1000020 + i) :: st) n sl h) : AW G M d N S n0 s0 P pc L (.ref b :: st) n sl h := by
  subst hq
  subst hib
  intro p l e s m args below meth c H locs ls C hs hI hS hl9 hn hsl
  exact vk_getf C.1 C.2.1 ((zs_of C).1 i hi).2.2.1 hS C.2.2.2.1 (C.2.2.2.2.1 _ hl) (fun _ h9 => h9) hd (K p l e s m args below meth c H locs ls C hs hI hS hl9 hn hsl)
theorem aw_gcod {idx i b : Nat} (hi : i < 8) (hib : 1000010 + i = b) (hd : decode M.2.1 pc = .ok (.getfield idx, 3)) (hq : pc + 3 = q) (hl : Cond.fieldLink M.1.cls idx "java/lang/String" "coder" "B" ∈ lw_ok) (K : AW G M d N S n0 s0 P q L (.int 0 :: st) n sl h) : AW G M d N S n0 s0 P pc L (.ref b :: st) n sl h := by
  subst hq
  subst hib
  intro p l e s m args below meth c H locs ls C hs hI hS hl9 hn hsl
  exact vk_getf C.1 C.2.1 ((zs_of C).1 i hi).2.1 hS C.2.2.2.1 (C.2.2.2.2.1 _ hl) (fun _ h9 => h9) hd (K p l e s m args below meth c H locs ls C hs hI hS hl9 hn hsl)
theorem aw_blen {i b : Nat} (hi : i < 8) (hib : 1000020 + i = b) (hd : decode M.2.1 pc = .ok (.arraylength, 1)) (hq : pc + 1 = q) (K : AW G M d N S n0 s0 P q L (.int (nI (zSl.getD i 0)) :: st) n sl h) : AW G M d N S n0 s0 P pc L (.ref b :: st) n sl h := by
  subst hq
  subst hib
  intro p l e s m args below meth c H locs ls C hs hI hS hl9 hn hsl
  exact va_tlen C.1 C.2.1 ((zs_of C).1 i hi).2.2.2 hS rfl hd (K p l e s m args below meth c H locs ls C hs hI hS hl9 hn hsl)
theorem aw_bld {i b : Nat} {x : Int32} (hi : i < 8) (hib : 1000020 + i = b) (hd : decode M.2.1 pc = .ok (.baload, 1)) (hq : pc + 1 = q) (hin : vp_in x (zSl.getD i 0)) (K : AW G M d N S n0 s0 P q L (.int ((zSb.getD i []).getD x.toNatClampNeg 0) :: st) n sl h) : AW G M d N S n0 s0 P pc L (.int x :: .ref b :: st) n sl h := by
  subst hq
  subst hib
  intro p l e s m args below meth c H locs ls C hs hI hS hl9 hn hsl
  exact va_tb C.1 C.2.1 ((zs_of C).1 i hi).2.2.2 hS hin rfl hd (K p l e s m args below meth c H locs ls C hs hI hS hl9 hn hsl)
theorem aw_getsF {idx : Nat} (hd : decode M.2.1 pc = .ok (.getstatic idx, 3)) (hq : pc + 3 = q) (hw : Cond.fieldLink M.1.cls idx "jdk/internal/util/Preconditions" "SIOOBE_FORMATTER" "Ljava/util/function/BiFunction;" ∈ lw_ok) (K : ∀ v : Value, v.category = 1 → AW G M d N S n0 s0 P q L (v :: st) n sl h) : AW G M d N S n0 s0 P pc L st n sl h := by
  subst hq
  intro p l e s m args below meth c H locs ls C hs hI hS hl hn hsl
  have hZ : zScr G s s.heap := C.2.2.2.2.2.2.2.2.2.2.2.2.2.2.2.2.2.2
  rcases hZ.2.2 with h1 | h1
  · exact va_gets C.1 C.2.1 h1 hS C.2.2.2.1 (C.2.2.2.2.1 _ hw) (fun _ h9 => h9) hd (K .null rfl p l e s m args below meth c H locs ls C hs hI hS hl hn hsl)
  · exact va_gets C.1 C.2.1 h1 hS C.2.2.2.1 (C.2.2.2.2.1 _ hw) (fun _ h9 => h9) hd (K (.ref 1000032) rfl p l e s m args below meth c H locs ls C hs hI hS hl hn hsl)
theorem zc1 {l : List Value} (h : l.all (fun v => v.category == 1) = true) : ∀ v ∈ l, v.category = 1 := fun v hv => by simpa using List.all_eq_true.mp h v hv
theorem g_SIO : Cond.fieldLink RJ0 1053 "jdk/internal/util/Preconditions" "SIOOBE_FORMATTER" "Ljava/util/function/BiFunction;" ∈ lw_ok := by
  have h : ([Cond.fieldLink RJ0 1053 "jdk/internal/util/Preconditions" "SIOOBE_FORMATTER" "Ljava/util/function/BiFunction;"] : List Cond).all (fun w => goodWord w && lw_tbl.contains w) = true := by decide +kernel
  have h1 := List.all_eq_true.mp h _ List.mem_cons_self
  rw [Bool.and_eq_true] at h1
  exact List.mem_filter.mpr ⟨List.contains_iff_mem.mp h1.2, h1.1⟩
theorem t_coder {i b : Nat} (hi : i < 8) (hib : 1000010 + i = b) : zMt G d M_J0_coder_7d493 [.ref b] n sl h n sl (fun r h' => r = some (.int 0) ∧ h' = h) := by
  refine zMt_of (L := [some (.ref b)]) (by decide +kernel) (zc1 rfl) (Nat.le_of_ble_eq_true rfl) (Nat.le_refl _) (Nat.le_refl _) rfl ?_
  refine aw_getsC (q := 3) dJ0_coder_7d493_0 rfl g_J0_38 ?_
  refine aw_if_eq (q := 6) (t := 13) dJ0_coder_7d493_3 rfl (by decide) (fun hz => absurd hz (by decide)) (fun _ => ?_)
  refine aw_aload_n (q := 7) dJ0_coder_7d493_6 rfl rfl ?_
  refine aw_gcod (q := 10) hi hib dJ0_coder_7d493_7 rfl g_J0_15 ?_
  refine aw_goto (q := 14) dJ0_coder_7d493_10 (by decide) ?_
  exact aw_ret (ty := .byte) dJ0_coder_7d493_14 rfl rfl rfl rfl ⟨rfl, rfl⟩
theorem t_latin {i b : Nat} (hi : i < 8) (hib : 1000010 + i = b) : zMt G d M_J0_isLatin1_aae02 [.ref b] n sl h n sl (fun r h' => r = some (.int 1) ∧ h' = h) := by
  refine zMt_of (L := [some (.ref b)]) (by decide +kernel) (zc1 rfl) (Nat.le_of_ble_eq_true rfl) (Nat.le_refl _) (Nat.le_refl _) rfl ?_
  refine aw_getsC (q := 3) dJ0_isLatin1_aae02_0 rfl g_J0_38 ?_
  refine aw_if_eq (q := 6) (t := 17) dJ0_isLatin1_aae02_3 rfl (by decide) (fun hz => absurd hz (by decide)) (fun _ => ?_)
  refine aw_aload_n (q := 7) dJ0_isLatin1_aae02_6 rfl rfl ?_
  refine aw_gcod (q := 10) hi hib dJ0_isLatin1_aae02_7 rfl g_J0_15 ?_
  refine aw_if_ne (q := 13) (t := 17) dJ0_isLatin1_aae02_10 rfl (by decide) (fun hz => absurd rfl hz) (fun _ => ?_)
  refine aw_iconst (q := 14) (v := 1) dJ0_isLatin1_aae02_13 rfl (by decide) ?_
  refine aw_goto (q := 18) dJ0_isLatin1_aae02_14 (by decide) ?_
  exact aw_ret (ty := .boolean) dJ0_isLatin1_aae02_18 rfl rfl rfl rfl ⟨rfl, rfl⟩
theorem t_len0 : ∀ i, i < 8 → nI (zSl.getD i 0) >>> ((0 : Int32) &&& 31) = nI (zSl.getD i 0) := by decide +kernel
theorem t_length {i b : Nat} (hi : i < 8) (hib : 1000010 + i = b) (hd1 : 1 ≤ d) : zMt G d M_J0_length_8abf5 [.ref b] n sl h n sl (fun r h' => r = some (.int (nI (zSl.getD i 0))) ∧ h' = h) := by
  refine zMt_of (L := [some (.ref b)]) (by decide +kernel) (zc1 rfl) (Nat.le_of_ble_eq_true rfl) (Nat.le_refl _) (Nat.le_refl _) rfl ?_
  refine aw_aload_n (q := 1) dJ0_length_8abf5_0 rfl rfl ?_
  refine aw_gval (q := 4) hi hib dJ0_length_8abf5_1 rfl g_J0_9 ?_
  refine aw_blen (q := 5) hi rfl dJ0_length_8abf5_4 rfl ?_
  refine aw_aload_n (q := 6) dJ0_length_8abf5_5 rfl rfl ?_
  refine aw_cvS (q := 9) (d' := 0) (as := []) (st := [.int (nI (zSl.getD i 0))]) hi hib rfl dJ0_length_8abf5_6 rfl W_J0_coder_7d493 k_J0_335 i_J0_coder_7d493 v_J0_coder_7d493 rfl rfl hd1 (Nat.le_of_ble_eq_true rfl) (t_coder hi hib) (Nat.le_refl _) (Nat.le_refl _) ?_
  rintro r h8 ⟨rfl, rfl⟩
  refine aw_st (st' := [.int 0, .int (nI (zSl.getD i 0))]) rfl ?_
  refine aw_ishr (q := 10) dJ0_length_8abf5_9 rfl ?_
  refine aw_nm (t_len0 i hi).symm ?_
  exact aw_ret (ty := .int) dJ0_length_8abf5_10 rfl rfl rfl rfl ⟨rfl, rfl⟩
theorem t_check3 {m : Nat} {x : Int32} {v : Value} (hv : v.category = 1) (hm : m < 100) (hin : vp_in x m) : zMt G d M_J3_checkIndex_8e157 [.int x, .int (nI m), v] n sl h n sl (fun r h' => r = some (.int x) ∧ h' = h) := by
  have h0 : ¬ x < 0 := fun q => hin (Or.inl q)
  have h1 : ¬ m ≤ x.toNatClampNeg := fun q => hin (Or.inr q)
  obtain ⟨j, hj, rfl⟩ := nI_of h0
  rw [nI_clamp hj] at h1
  refine zMt_of (L := [some (.int (nI j)), some (.int (nI m)), some v]) (by decide +kernel) (fun w hw => by
    rcases List.mem_cons.mp hw with rfl | hw
    · rfl
    · rcases List.mem_cons.mp hw with rfl | hw
      · rfl
      · rcases List.mem_cons.mp hw with rfl | hw
        · exact hv
        · cases hw) (Nat.le_of_ble_eq_true rfl) (Nat.le_refl _) (Nat.le_refl _) rfl ?_
  refine aw_iload_n (q := 1) dJ3_checkIndex_8e157_0 rfl rfl ?_
  refine aw_if_lt (q := 4) (t := 9) dJ3_checkIndex_8e157_1 rfl (by decide) (fun hz => absurd hz h0) (fun _ => ?_)
  refine aw_iload_n (q := 5) dJ3_checkIndex_8e157_4 rfl rfl ?_
  refine aw_iload_n (q := 6) dJ3_checkIndex_8e157_5 rfl rfl ?_
  refine aw_icmp_lt (q := 9) (t := 16) dJ3_checkIndex_8e157_6 rfl (by decide) (fun _ => ?_) (fun hz => absurd (nI_lt (Nat.not_le.mp h1) (by omega)) hz)
  refine aw_iload_n (q := 17) dJ3_checkIndex_8e157_16 rfl rfl ?_
  exact aw_ret (ty := .int) dJ3_checkIndex_8e157_17 rfl rfl rfl rfl ⟨rfl, rfl⟩
theorem t_check {m : Nat} {x : Int32} (hm : m < 100) (hin : vp_in x m) (hd1 : 1 ≤ d) : zMt G d M_J0_checkIndex_df160 [.int x, .int (nI m)] n sl h n sl (fun r h' => r = none ∧ h' = h) := by
  refine zMt_of (L := [some (.int x), some (.int (nI m))]) (by decide +kernel) (zc1 rfl) (Nat.le_of_ble_eq_true rfl) (Nat.le_refl _) (Nat.le_refl _) rfl ?_
  refine aw_iload_n (q := 1) dJ0_checkIndex_df160_0 rfl rfl ?_
  refine aw_iload_n (q := 2) dJ0_checkIndex_df160_1 rfl rfl ?_
  refine aw_getsF (q := 5) dJ0_checkIndex_df160_2 rfl g_SIO (fun v hv => ?_)
  refine aw_cs (q := 8) (d' := 0) (as := [.int x, .int (nI m), v]) (st := []) dJ0_checkIndex_df160_5 rfl W_J3_checkIndex_8e157 k_J0_1059 s_J3_checkIndex_8e157 rfl rfl hd1 (Nat.le_of_ble_eq_true rfl) (t_check3 hv hm hin) (Nat.le_refl _) (Nat.le_refl _) ?_
  rintro r h8 ⟨rfl, rfl⟩
  refine aw_st (st' := [.int x]) rfl ?_
  refine aw_pop (q := 9) dJ0_checkIndex_df160_8 rfl rfl ?_
  exact aw_vret dJ0_checkIndex_df160_9 rfl rfl rfl ⟨rfl, rfl⟩
theorem t_ch : ∀ i, i < 8 → ∀ j, j < zSl.getD i 0 → ((((zSb.getD i []).getD j 0) &&& 255).toUInt32 % 65536).toInt32 = (zSb.getD i []).getD j 0 := by decide +kernel
theorem t_ch2 : ∀ i, i < 8 → ∀ j, j < zSl.getD i 0 → narrow .char (.int ((zSb.getD i []).getD j 0)) = .int ((zSb.getD i []).getD j 0) := by decide +kernel
theorem t_sl : ∀ i, i < 8 → zSl.getD i 0 < 100 := by decide +kernel
theorem t_lchar {i b : Nat} {x : Int32} (hi : i < 8) (hib : 1000020 + i = b) (hin : vp_in x (zSl.getD i 0)) (hd1 : 2 ≤ d) : zMt G d M_J1_charAt_3b067 [.ref b, .int x] n sl h n sl (fun r h' => r = some (.int ((zSb.getD i []).getD x.toNatClampNeg 0)) ∧ h' = h) := by
  have hlt : x.toNatClampNeg < zSl.getD i 0 := Nat.not_le.mp fun q => hin (Or.inr q)
  refine zMt_of (L := [some (.ref b), some (.int x)]) (by decide +kernel) (zc1 rfl) (Nat.le_of_ble_eq_true rfl) (Nat.le_refl _) (Nat.le_refl _) rfl ?_
  refine aw_iload_n (q := 1) dJ1_charAt_3b067_0 rfl rfl ?_
  refine aw_aload_n (q := 2) dJ1_charAt_3b067_1 rfl rfl ?_
  refine aw_blen (q := 3) hi hib dJ1_charAt_3b067_2 rfl ?_
  refine aw_cs (q := 6) (d' := 1) (as := [.int x, .int (nI (zSl.getD i 0))]) (st := []) dJ1_charAt_3b067_3 rfl W_J0_checkIndex_df160 k_J1_9 s_J0_checkIndex_df160 rfl rfl hd1 (Nat.le_of_ble_eq_true rfl) (t_check (t_sl i hi) hin (Nat.le_refl _)) (Nat.le_refl _) (Nat.le_refl _) ?_
  rintro r h8 ⟨rfl, rfl⟩
  refine aw_st (st' := []) rfl ?_
  refine aw_aload_n (q := 7) dJ1_charAt_3b067_6 rfl rfl ?_
  refine aw_iload_n (q := 8) dJ1_charAt_3b067_7 rfl rfl ?_
  refine aw_bld (q := 9) hi hib dJ1_charAt_3b067_8 rfl hin ?_
  refine aw_sipush (q := 12) (v := 255) dJ1_charAt_3b067_9 rfl (by decide) ?_
  refine aw_iand (q := 13) dJ1_charAt_3b067_12 rfl ?_
  refine aw_i2c (q := 14) dJ1_charAt_3b067_13 rfl ?_
  refine aw_nm (t_ch i hi _ hlt).symm ?_
  exact aw_ret (ty := .char) dJ1_charAt_3b067_14 rfl (t_ch2 i hi _ hlt) rfl rfl ⟨rfl, rfl⟩
theorem t_charAt {i b : Nat} {x : Int32} (hi : i < 8) (hib : 1000010 + i = b) (hin : vp_in x (zSl.getD i 0)) (hd1 : 3 ≤ d) : zMt G d M_J0_charAt_5068e [.ref b, .int x] n sl h n sl (fun r h' => r = some (.int ((zSb.getD i []).getD x.toNatClampNeg 0)) ∧ h' = h) := by
  have hlt : x.toNatClampNeg < zSl.getD i 0 := Nat.not_le.mp fun q => hin (Or.inr q)
  refine zMt_of (L := [some (.ref b), some (.int x)]) (by decide +kernel) (zc1 rfl) (Nat.le_of_ble_eq_true rfl) (Nat.le_refl _) (Nat.le_refl _) rfl ?_
  refine aw_aload_n (q := 1) dJ0_charAt_5068e_0 rfl rfl ?_
  refine aw_cvS (q := 4) (d' := 0) (as := []) (st := []) hi hib rfl dJ0_charAt_5068e_1 rfl W_J0_isLatin1_aae02 k_J0_492 i_J0_isLatin1_aae02 v_J0_isLatin1_aae02 rfl rfl (by omega) (Nat.le_of_ble_eq_true rfl) (t_latin hi hib) (Nat.le_refl _) (Nat.le_refl _) ?_
  rintro r h8 ⟨rfl, rfl⟩
  refine aw_st (st' := [.int 1]) rfl ?_
  refine aw_if_eq (q := 7) (t := 16) dJ0_charAt_5068e_4 rfl (by decide) (fun hz => absurd hz (by decide)) (fun _ => ?_)
  refine aw_aload_n (q := 8) dJ0_charAt_5068e_7 rfl rfl ?_
  refine aw_gval (q := 11) hi hib dJ0_charAt_5068e_8 rfl g_J0_9 ?_
  refine aw_iload_n (q := 12) dJ0_charAt_5068e_11 rfl rfl ?_
  refine aw_cs (q := 15) (d' := 2) (as := [.ref (1000020 + i), .int x]) (st := []) dJ0_charAt_5068e_12 rfl W_J1_charAt_3b067 k_J0_495 s_J1_charAt_3b067 rfl rfl (by omega) (Nat.le_of_ble_eq_true rfl) (t_lchar hi rfl hin (Nat.le_refl _)) (Nat.le_refl _) (Nat.le_refl _) ?_
  rintro r h8 ⟨rfl, rfl⟩
  refine aw_st (st' := [.int ((zSb.getD i []).getD x.toNatClampNeg 0)]) rfl ?_
  exact aw_ret (ty := .char) dJ0_charAt_5068e_15 rfl (t_ch2 i hi _ hlt) rfl rfl ⟨rfl, rfl⟩
theorem aw_slen {x idx : Nat} (hd : decode M.2.1 pc = .ok (.invokevirtual idx, 3)) (hq : pc + 3 = q) (hl : Cond.methodLink M.1.cls idx yJ0_length_8abf5 ∈ lw_ok) (hdep : 4 ≤ d) (hcat : (st.map fun v => v.category).sum ≤ 8) (hx : zStr x) (K : AW G M d N S n0 s0 P q L (.int (zSlen x) :: st) n sl h) : AW G M d N S n0 s0 P pc L (.ref x :: st) n sl h := by
  obtain ⟨i, hi, rfl⟩ := hx
  intro p l e s m args below meth c H locs ls C hs hI hS hl9 hn hsl
  refine aw_cvS (N' := n) (S' := sl) (d' := 1) (as := []) (st := st) hi rfl rfl hd hq W_J0_length_8abf5 hl i_J0_length_8abf5 v_J0_length_8abf5 rfl rfl (by omega) hcat (t_length hi rfl (Nat.le_refl _)) hn.2 hsl.2 ?_ p l e s m args below meth c H locs ls C hs hI hS hl9 hn hsl
  rintro r h8 ⟨rfl, rfl⟩
  have e : zSlen (1000010 + i) = nI (zSl.getD i 0) := by
    unfold zSlen zSln
    rw [Nat.add_sub_cancel_left]
  rw [e] at K
  exact K
theorem aw_schar {x idx : Nat} {i : Int32} (hd : decode M.2.1 pc = .ok (.invokevirtual idx, 3)) (hq : pc + 3 = q) (hl : Cond.methodLink M.1.cls idx yJ0_charAt_5068e ∈ lw_ok) (hdep : 4 ≤ d) (hcat : (st.map fun v => v.category).sum ≤ 8) (hx : zStr x) (hin : vp_in i (zSln x)) (K : AW G M d N S n0 s0 P q L (.int (zSch x i.toNatClampNeg) :: st) n sl h) : AW G M d N S n0 s0 P pc L (.int i :: .ref x :: st) n sl h := by
  obtain ⟨k, hk, rfl⟩ := hx
  have e1 : zSln (1000010 + k) = zSl.getD k 0 := by
    unfold zSln
    rw [Nat.add_sub_cancel_left]
  have e : zSch (1000010 + k) i.toNatClampNeg = (zSb.getD k []).getD i.toNatClampNeg 0 := by
    unfold zSch
    rw [Nat.add_sub_cancel_left]
  rw [e1] at hin
  rw [e] at K
  intro p l e s m args below meth c H locs ls C hs hI hS hl9 hn hsl
  refine aw_cvS (N' := n) (S' := sl) (d' := 3) (as := [.int i]) (st := st) hk rfl rfl hd hq W_J0_charAt_5068e hl i_J0_charAt_5068e v_J0_charAt_5068e rfl rfl (by omega) hcat (t_charAt hk rfl hin (Nat.le_refl _)) hn.2 hsl.2 ?_ p l e s m args below meth c H locs ls C hs hI hS hl9 hn hsl
  rintro r h8 ⟨rfl, rfl⟩
  exact K
end ZR5
