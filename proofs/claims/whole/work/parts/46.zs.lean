/-! THE START: what the tables and the premises say, as the typed machine takes it. -/
def ztm (i : Nat) : Term := Term.string RX3 (zSi.getD i 0)
abbrev zPre : Jvm.Cond := Jvm.Cond.and given_1 narrow_1
theorem zp_at {args : Array Value} {s : State} (h : zPre.before args s = true) {w : Cond} (hw : w ∈ flatC zPre) : w.before args s = true := flat_of_before _ h w hw
theorem zp_ex : ∀ i, i < 8 → Cond.exactly (ztm i) "java/lang/String" ∈ flatC zPre := by decide +kernel
theorem zp_co : ∀ i, i < 8 → Cond.eq (.field (ztm i) "java/lang/String" "coder" "B") (.int 0) ∈ flatC zPre := by decide +kernel
theorem zp_ar : ∀ i, i < 8 → Cond.arrayOf (.field (ztm i) "java/lang/String" "value" "[B") .byte ∈ flatC zPre := by decide +kernel
theorem zp_le : ∀ i, i < 8 → Cond.eq (.length (.field (ztm i) "java/lang/String" "value" "[B")) (.int (Int32.ofNat (zSl.getD i 0))) ∈ flatC zPre := by decide +kernel
theorem zp_el : ∀ i, i < 8 → ∀ j, j < zSl.getD i 0 → Cond.eq (.elem (.field (ztm i) "java/lang/String" "value" "[B") (.int (Int32.ofNat j))) (.int ((zSb.getD i []).getD j 0)) ∈ flatC zPre := by decide +kernel
theorem zp_ne : ∀ i, i < 8 → ∀ j, j < 8 → i ≠ j → Cond.not (Cond.eq (ztm i) (ztm j)) ∈ flatC zPre ∨ Cond.not (Cond.eq (ztm j) (ztm i)) ∈ flatC zPre := by decide +kernel
theorem zp_f : ∀ j, j < 8 → Cond.eq (.elem (.static RX3 "FEWEST_NUMBERS" "[I") (.int (Int32.ofNat j))) (.int (z0 j)) ∈ flatC zPre := by decide +kernel
theorem zp_m : ∀ j, j < 8 → Cond.eq (.elem (.static RX3 "MOST_NUMBERS" "[I") (.int (Int32.ofNat j))) (.int (z1 j)) ∈ flatC zPre := by decide +kernel
def zkT : List Cond := [.laysStatic RX3 "FEWEST_NUMBERS" "[I", .laysStatic RX3 "MOST_NUMBERS" "[I", .laysStatic "java/lang/String" "COMPACT_STRINGS" "Z", .laysStatic "jdk/internal/util/Preconditions" "SIOOBE_FORMATTER" "Ljava/util/function/BiFunction;",
  .initialized RX3, .initialized "java/lang/String", .initialized "jdk/internal/util/Preconditions", .arrayClass .int, .arrayClass .char, .arrayOver (.object RX4), .arrayOver (.object RX5), .arrayOver (.array .int)]
theorem zkT_ok : ∀ w ∈ zkT, w ∈ lw_tbl := by
  have h : zkT.all (fun w => lw_tbl.contains w) = true := by decide +kernel
  intro w hw
  exact List.contains_iff_mem.mp (List.all_eq_true.mp h w hw)
theorem zkT_at {w : Cond} (i : Nat) (h : zkT[i]? = some w) : w ∈ lw_tbl := zkT_ok w (List.mem_of_getElem? h)
theorem zkR_ok : ∀ i, i < 8 → Cond.stringRef RX3 (zSi.getD i 0) (zSt.getD i "") ∈ lw_tbl := by
  have h : (List.range 8).all (fun i => lw_tbl.contains (Cond.stringRef RX3 (zSi.getD i 0) (zSt.getD i ""))) = true := by decide +kernel
  intro i hi
  exact List.contains_iff_mem.mp (List.all_eq_true.mp h i (List.mem_range.mpr hi))
theorem zkN_ok : ∀ q ∈ zNl, Cond.methodLinkNest q.1 q.2.1 q.2.2 RX6 ∈ lw_tbl := by
  have h : zNl.all (fun q => lw_tbl.contains (Cond.methodLinkNest q.1 q.2.1 q.2.2 RX6)) = true := by decide +kernel
  intro q hq
  exact List.contains_iff_mem.mp (List.all_eq_true.mp h q hq)
theorem nI_back (x : Int32) : nI x.toBitVec.toNat = x := by
  apply Int32.toBitVec_inj.mp
  show BitVec.ofNat 32 _ = _
  rw [BitVec.ofNat_toNat, BitVec.setWidth_eq]
theorem zs_class {s : State} {args : Array Value} (hok : ∀ w ∈ lw_ok, w.before args s = true) : ∀ c : Nat, ∃ q : ClassId × (Nat → Nat), ∀ r : vw_C, vwCl[c]? = some r → u_Kn s r.1 r.2.1 r.2.2 q.1 q.2 := by
  intro c
  by_cases h : c < 8
  · rcases (by omega : c = 0 ∨ c = 1 ∨ c = 2 ∨ c = 3 ∨ c = 4 ∨ c = 5 ∨ c = 6 ∨ c = 7) with rfl | rfl | rfl | rfl | rfl | rfl | rfl | rfl
    · obtain ⟨a, b, k⟩ := u_known hok u_X0 (hok _ (zk_at (w := .instantiable RX0 14) 16 rfl))
      exact ⟨(a, b), fun r hr => by cases hr; exact k⟩
    · obtain ⟨a, b, k⟩ := u_known hok u_X1 (hok _ (zk_at (w := .instantiable RX1 2) 17 rfl))
      exact ⟨(a, b), fun r hr => by cases hr; exact k⟩
    · obtain ⟨a, b, k⟩ := u_known hok u_X2 (hok _ (zk_at (w := .instantiable RX2 5) 18 rfl))
      exact ⟨(a, b), fun r hr => by cases hr; exact k⟩
    · obtain ⟨a, b, k⟩ := u_known hok u_X3 (hok _ (zk_at (w := .instantiable RX3 9) 19 rfl))
      exact ⟨(a, b), fun r hr => by cases hr; exact k⟩
    · obtain ⟨a, b, k⟩ := u_known hok u_X4 (hok _ (zk_at (w := .instantiable RX4 8) 20 rfl))
      exact ⟨(a, b), fun r hr => by cases hr; exact k⟩
    · obtain ⟨a, b, k⟩ := u_known hok u_X5 (hok _ (zk_at (w := .instantiable RX5 7) 21 rfl))
      exact ⟨(a, b), fun r hr => by cases hr; exact k⟩
    · obtain ⟨a, b, k⟩ := u_known hok u_X6 (hok _ (zk_at (w := .instantiable RX6 4) 22 rfl))
      exact ⟨(a, b), fun r hr => by cases hr; exact k⟩
    · obtain ⟨a, b, k⟩ := u_known hok u_X7 (hok _ (zk_at (w := .instantiable RX7 15) 23 rfl))
      exact ⟨(a, b), fun r hr => by cases hr; exact k⟩
  · exact ⟨(0, fun _ => 0), fun r hr => by rw [List.getElem?_eq_none (by show 8 ≤ c; omega)] at hr; cases hr⟩
theorem zs_prim {s : State} {args : Array Value} {ty : FieldType} (h : (Cond.arrayClass ty).before args s = true) : ∃ cA : ClassId, ArrOfT s cA ty ∧ s.vm.findClass ("[" ++ ty.toString) = some cA := by
  obtain ⟨cA, kA, comp, h1, h2, h3⟩ := Cond.arrayClass_spec h
  exact ⟨cA, fun n z => ⟨fun k h => (by cases h), kA, h2, comp, h3⟩, h1⟩
theorem zs_obj {s : State} {args : Array Value} {C : String} (h : (Cond.arrayOver (.object C)).before args s = true) : ∃ cA : ClassId, ArrOfT s cA (.object C) ∧ va_RA s cA (.object C) := by
  obtain ⟨comp, cA, kA, h1, h2, h3, h4, h5⟩ := Cond.arrayOver_spec h
  exact ⟨cA, fun n z => ⟨fun k h => (by cases h), kA, h3, comp, h4⟩, kA, comp, h3, h4, h1, h5⟩
theorem zs_row {s : State} {args : Array Value} (h : (Cond.arrayOver (.array .int)).before args s = true) : ∃ cA : ClassId, ArrOfT s cA (.array .int) ∧ s.vm.findClass ("[" ++ (FieldType.array .int).toString) = some cA := by
  obtain ⟨comp, cA, kA, h1, h2, h3, h4, h5⟩ := arrayOverA_spec h
  exact ⟨cA, fun n z => ⟨fun k h => (by cases h), kA, h3, comp, h4⟩, h5⟩
theorem whole_zS {s : State} {b L : Nat} {xs : Nat → Int32} (hts : ∀ w ∈ lw_tbl, w.before #[Value.ref b] s = true) (hg : zPre.before #[Value.ref b] s = true) (hX : va_X b L xs s s.heap) (hb : b < s.heap.size) : ∃ G : zG, G.1 = s.heap.size ∧ G.2.1 30 = b ∧ G.2.1 31 = L ∧ zS G s s.heap := by
  have hA : ∀ a : Nat, a < s.heap.size → ¬ s.heap.size ≤ a := fun a h => Nat.not_le.mpr h
  have hok : ∀ w ∈ lw_ok, w.before #[Value.ref b] s = true := fun w h => hts w (lw_ok_tbl h)
  obtain ⟨adK, adV, hS, hK⟩ := vk_Sof (tm := ztm) (N := 8) (len := zSl) (byt := zSb) (A := fun q => s.heap.size ≤ q) (fun i hi => by have := t_sl i hi; omega) (fun i hi => zp_at hg (zp_ex i hi)) (fun i hi => zp_at hg (zp_co i hi)) (fun i hi => zp_at hg (zp_ar i hi)) (fun i hi => zp_at hg (zp_le i hi)) (fun i hi j hj => zp_at hg (zp_el i hi j hj)) (fun i j hi hj hij => (zp_ne i hi j hj hij).imp (zp_at hg) (zp_at hg)) hA
  obtain ⟨t0, e0, T0⟩ := va_Tof (tm := .static RX3 "FEWEST_NUMBERS" "[I") (ty := .int) (N := 8) (f := fun j => .int (z0 j)) (A := fun q => s.heap.size ≤ q) (by decide) (zp_at hg (by decide +kernel)) (va_eqt (zp_at hg (by decide +kernel))) (fun j hj => va_eqt (zp_at hg (zp_f j hj))) hA
  obtain ⟨t1, e1, T1⟩ := va_Tof (tm := .static RX3 "MOST_NUMBERS" "[I") (ty := .int) (N := 8) (f := fun j => .int (z1 j)) (A := fun q => s.heap.size ≤ q) (by decide) (zp_at hg (by decide +kernel)) (va_eqt (zp_at hg (by decide +kernel))) (fun j hj => va_eqt (zp_at hg (zp_m j hj))) hA
  have Z0 := va_Zof (A := fun q => s.heap.size ≤ q) (hts _ (zkT_at 0 rfl)) (hts _ (zkT_at 4 rfl)) e0 hA
  have Z1 := va_Zof (A := fun q => s.heap.size ≤ q) (hts _ (zkT_at 1 rfl)) (hts _ (zkT_at 4 rfl)) e1 hA
  have Z2 := va_Zof (A := fun q => s.heap.size ≤ q) (v := .int 1) (hts _ (zkT_at (w := .laysStatic "java/lang/String" "COMPACT_STRINGS" "Z") 2 rfl)) (hts _ (zkT_at 5 rfl)) (va_eqt (zp_at hg (by decide +kernel))) hA
  have Zf : ∃ t2 : Nat, va_Z "jdk/internal/util/Preconditions" "SIOOBE_FORMATTER" "Ljava/util/function/BiFunction;" .null (fun q => s.heap.size ≤ q) s s.heap ∨ va_Z "jdk/internal/util/Preconditions" "SIOOBE_FORMATTER" "Ljava/util/function/BiFunction;" (.ref t2) (fun q => s.heap.size ≤ q) s s.heap := by
    rcases va_Zqof (A := fun q => s.heap.size ≤ q) (hts _ (zkT_at (w := .laysStatic "jdk/internal/util/Preconditions" "SIOOBE_FORMATTER" "Ljava/util/function/BiFunction;") 3 rfl)) (hts _ (zkT_at 6 rfl)) (zp_at hg (by decide +kernel)) hA with h | ⟨t, h⟩
    · exact ⟨0, Or.inl h⟩
    · exact ⟨t, Or.inr h⟩
  obtain ⟨t2, Z3⟩ := Zf
  obtain ⟨D, hD⟩ := Classical.axiomOfChoice (zs_class hok)
  obtain ⟨a0, p0, q0⟩ := zs_prim (hts _ (zkT_at (w := .arrayClass .int) 7 rfl))
  obtain ⟨a1, p1, q1⟩ := zs_prim (hts _ (zkT_at (w := .arrayClass .char) 8 rfl))
  obtain ⟨a2, p2, q2⟩ := zs_obj (hts _ (zkT_at (w := .arrayOver (.object RX4)) 9 rfl))
  obtain ⟨a3, p3, q3⟩ := zs_obj (hts _ (zkT_at (w := .arrayOver (.object RX5)) 10 rfl))
  obtain ⟨a4, p4, q4⟩ := zs_row (hts _ (zkT_at (w := .arrayOver (.array .int)) 11 rfl))
  let gf : Nat → Nat := fun n => if n = 0 then t0 else if n = 1 then t1 else if n < 20 then adK (n - 10) else if n < 30 then adV (n - 20) else if n = 30 then b else if n = 31 then L else if n = 32 then t2 else (xs (n - 1000)).toBitVec.toNat
  let G : zG := (s.heap.size, gf, (fun c => (D c).1, fun c => (D c).2), fun t => match t with | 0 => a0 | 1 => a1 | 2 => a2 | 3 => a3 | _ => a4)
  have eK : ∀ i, i < 8 → zA G (1000010 + i) = adK i := by
    intro i hi
    have h1 : zA G (1000010 + i) = G.2.1 (1000010 + i - 1000000) := if_neg (by omega)
    rw [h1, show 1000010 + i - 1000000 = 10 + i by omega]
    show (if 10 + i = 0 then _ else if 10 + i = 1 then _ else if 10 + i < 20 then adK (10 + i - 10) else _) = adK i
    rw [if_neg (by omega), if_neg (by omega), if_pos (by omega), Nat.add_sub_cancel_left]
  have eV : ∀ i, i < 8 → zA G (1000020 + i) = adV i := by
    intro i hi
    have h1 : zA G (1000020 + i) = G.2.1 (1000020 + i - 1000000) := if_neg (by omega)
    rw [h1, show 1000020 + i - 1000000 = 20 + i by omega]
    show (if 20 + i = 0 then _ else if 20 + i = 1 then _ else if 20 + i < 20 then _ else if 20 + i < 30 then adV (20 + i - 20) else _) = adV i
    rw [if_neg (by omega), if_neg (by omega), if_neg (by omega), if_pos (by omega), Nat.add_sub_cancel_left]
  have eX : (fun j => nI (G.2.1 (1000 + j))) = xs := by
    funext j
    show nI (if 1000 + j = 0 then _ else if 1000 + j = 1 then _ else if 1000 + j < 20 then _ else if 1000 + j < 30 then _ else if 1000 + j = 30 then _ else if 1000 + j = 31 then _ else if 1000 + j = 32 then _ else (xs (1000 + j - 1000)).toBitVec.toNat) = xs j
    rw [if_neg (by omega), if_neg (by omega), if_neg (by omega), if_neg (by omega), if_neg (by omega), if_neg (by omega), if_neg (by omega), nI_back, Nat.add_sub_cancel_left]
  refine ⟨G, rfl, rfl, rfl, ⟨fun c q hq => hD c q hq, fun k q hk => ?_⟩, Nat.le_refl _, ⟨Z0, Z1, Z2⟩, ⟨T0, T1⟩, ⟨fun i hi => ?_, fun i j hi hj e => ?_⟩, fun i hi => ?_, fun q hq => ?_, va_AO.of (hts _ (zkT_at 9 rfl)), va_AO.of (hts _ (zkT_at 10 rfl)), hts _ (zkT_at 11 rfl), ?_, hb, Z3⟩
  · have hk5 : k < 5 := (List.getElem?_eq_some_iff.mp hk).1
    rcases (by omega : k = 0 ∨ k = 1 ∨ k = 2 ∨ k = 3 ∨ k = 4) with rfl | rfl | rfl | rfl | rfl
    · cases hk
      exact ⟨p0, q0⟩
    · cases hk
      exact ⟨p1, q1⟩
    · cases hk
      exact ⟨p2, q2⟩
    · cases hk
      exact ⟨p3, q3⟩
    · cases hk
      exact ⟨p4, q4⟩
  · show va_O _ (zA G (1000010 + i)) _ _ _ ∧ va_OF _ _ _ _ (zA G (1000010 + i)) _ _ _ ∧ va_OF _ _ _ (.ref (zA G (1000020 + i))) (zA G (1000010 + i)) _ _ _ ∧ va_T _ (zA G (1000020 + i)) _ _ _ _ _
    rw [eK i hi, eV i hi]
    exact hS.1 i hi
  · have e9 : zA G (1000010 + i) = zA G (1000010 + j) := e
    rw [eK i hi, eK j hj] at e9
    exact hS.2 i j hi hj e9
  · rw [eK i hi]
    exact vk_R.of (hts _ (zkR_ok i hi)) (hK i hi)
  · exact va_Nw.of rfl (hts _ (zkN_ok q hq))
  · show va_X b L (fun j => nI (G.2.1 (1000 + j))) s s.heap
    rw [eX]
    exact hX
theorem room_le {s : State} {pl : Platform} {R1 R2 : Room} (h : s.hasRoom pl R1 = true) (h1 : R2.frames ≤ R1.frames) (h2 : R2.cells ≤ R1.cells) (h3 : R2.slots ≤ R1.slots) (h4 : R2.locals ≤ R1.locals) : s.hasRoom pl R2 = true := by
  simp only [State.hasRoom, Bool.and_eq_true, decide_eq_true_eq] at h ⊢
  obtain ⟨⟨⟨⟨a1, a2, a3, a4, a5, a6⟩, a7⟩, a8⟩, a9⟩ := h
  exact ⟨⟨⟨⟨by omega, by omega, by omega, by omega, by omega, a6⟩, by omega⟩, by omega⟩, a9⟩
