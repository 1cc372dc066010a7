/-! THE START: what the tables and the premises say, as the typed machine takes it. -/
abbrev zPre : Jvm.Cond := Jvm.Cond.and given_1 narrow_1
theorem zp_at {args : Array Value} {s : State} (h : zPre.before args s = true) {w : Cond} (hw : w ∈ flatC zPre) : w.before args s = true := flat_of_before _ h w hw
def zkT : List Cond := [.arrayClass .int, .arrayClass .char, .arrayOver (.object RX4), .arrayOver (.object RX5), .arrayOver (.array .int)]
theorem zkT_ok : ∀ w ∈ zkT, w ∈ lw_tbl := by
  have h : zkT.all (fun w => lw_tbl.contains w) = true := by decide +kernel
  intro w hw
  exact List.contains_iff_mem.mp (List.all_eq_true.mp h w hw)
theorem zkT_at {w : Cond} (i : Nat) (h : zkT[i]? = some w) : w ∈ lw_tbl := zkT_ok w (List.mem_of_getElem? h)
theorem zkN_ok : ∀ q ∈ zNl, Cond.methodLinkNest q.1 q.2.1 q.2.2 RX6 ∈ lw_tbl := by
  have h : zNl.all (fun q => lw_tbl.contains (Cond.methodLinkNest q.1 q.2.1 q.2.2 RX6)) = true := by decide +kernel
  intro q hq
  exact List.contains_iff_mem.mp (List.all_eq_true.mp h q hq)
theorem nI_back (x : Int32) : nI x.toBitVec.toNat = x := by
  apply Int32.toBitVec_inj.mp
  show BitVec.ofNat 32 _ = _
  rw [BitVec.ofNat_toNat, BitVec.setWidth_eq]
theorem zs_class {s : State} {args : Array Value} (hok : ∀ w ∈ lw_ok, w.before args s = true) : ∀ c : Nat, ∃ q : ClassId × (Nat → Nat), ∀ r : vw_C, vwCl[c]? = some r → u_Kn s r.1 r.2.1 r.2.2 q.1 q.2 := by
  intro c
  by_cases h : c < 7
  · rcases (by omega : c = 0 ∨ c = 1 ∨ c = 2 ∨ c = 3 ∨ c = 4 ∨ c = 5 ∨ c = 6) with rfl | rfl | rfl | rfl | rfl | rfl | rfl
    · obtain ⟨a, b, k⟩ := u_known hok u_X0 (hok _ (zk_at (w := .instantiable RX0 14) 16 rfl))
      exact ⟨(a, b), fun r hr => by cases hr; exact k⟩
    · obtain ⟨a, b, k⟩ := u_known hok u_X1 (hok _ (zk_at (w := .instantiable RX1 2) 17 rfl))
      exact ⟨(a, b), fun r hr => by cases hr; exact k⟩
    · obtain ⟨a, b, k⟩ := u_known hok u_X2 (hok _ (zk_at (w := .instantiable RX2 5) 18 rfl))
      exact ⟨(a, b), fun r hr => by cases hr; exact k⟩
    · obtain ⟨a, b, k⟩ := u_known hok u_X3 (hok _ (zk_at (w := .instantiable RX3 9) 19 rfl))
      exact ⟨(a, b), fun r hr => by cases hr; exact k⟩
    · obtain ⟨a, b, k⟩ := u_known hok u_X4 (hok _ (zk_at (w := .instantiable RX4 8) 20 rfl))
      exact ⟨(a, b), fun r hr => by cases hr; exact k⟩
    · obtain ⟨a, b, k⟩ := u_known hok u_X5 (hok _ (zk_at (w := .instantiable RX5 7) 21 rfl))
      exact ⟨(a, b), fun r hr => by cases hr; exact k⟩
    · obtain ⟨a, b, k⟩ := u_known hok u_X6 (hok _ (zk_at (w := .instantiable RX6 4) 22 rfl))
      exact ⟨(a, b), fun r hr => by cases hr; exact k⟩
  · exact ⟨(0, fun _ => 0), fun r hr => by rw [List.getElem?_eq_none (by show 7 ≤ c; omega)] at hr; cases hr⟩
theorem zs_prim {s : State} {args : Array Value} {ty : FieldType} (h : (Cond.arrayClass ty).before args s = true) : ∃ cA : ClassId, ArrOfT s cA ty ∧ s.vm.findClass ("[" ++ ty.toString) = some cA := by
  obtain ⟨cA, kA, comp, h1, h2, h3⟩ := Cond.arrayClass_spec h
  exact ⟨cA, fun n z => ⟨fun k h => (by cases h), kA, h2, comp, h3⟩, h1⟩
theorem zs_obj {s : State} {args : Array Value} {C : String} (h : (Cond.arrayOver (.object C)).before args s = true) : ∃ cA : ClassId, ArrOfT s cA (.object C) ∧ va_RA s cA (.object C) := by
  obtain ⟨comp, cA, kA, h1, h2, h3, h4, h5⟩ := Cond.arrayOver_spec h
  exact ⟨cA, fun n z => ⟨fun k h => (by cases h), kA, h3, comp, h4⟩, kA, comp, h3, h4, h1, h5⟩
theorem zs_row {s : State} {args : Array Value} (h : (Cond.arrayOver (.array .int)).before args s = true) : ∃ cA : ClassId, ArrOfT s cA (.array .int) ∧ s.vm.findClass ("[" ++ (FieldType.array .int).toString) = some cA := by
  obtain ⟨comp, cA, kA, h1, h2, h3, h4, h5⟩ := arrayOverA_spec h
  exact ⟨cA, fun n z => ⟨fun k h => (by cases h), kA, h3, comp, h4⟩, h5⟩
theorem whole_zS {s : State} {b L : Nat} {xs : Nat → Int32} (hts : ∀ w ∈ lw_tbl, w.before #[Value.ref b] s = true) (hX : va_X b L xs s s.heap) (hb : b < s.heap.size) : ∃ G : zG, G.1 = s.heap.size ∧ G.2.1 30 = b ∧ G.2.1 31 = L ∧ zS G s s.heap := by
  have hok : ∀ w ∈ lw_ok, w.before #[Value.ref b] s = true := fun w h => hts w (lw_ok_tbl h)
  obtain ⟨D, hD⟩ := Classical.axiomOfChoice (zs_class hok)
  obtain ⟨a0, p0, q0⟩ := zs_prim (hts _ (zkT_at (w := .arrayClass .int) 0 rfl))
  obtain ⟨a1, p1, q1⟩ := zs_prim (hts _ (zkT_at (w := .arrayClass .char) 1 rfl))
  obtain ⟨a2, p2, q2⟩ := zs_obj (hts _ (zkT_at (w := .arrayOver (.object RX4)) 2 rfl))
  obtain ⟨a3, p3, q3⟩ := zs_obj (hts _ (zkT_at (w := .arrayOver (.object RX5)) 3 rfl))
  obtain ⟨a4, p4, q4⟩ := zs_row (hts _ (zkT_at (w := .arrayOver (.array .int)) 4 rfl))
  let gf : Nat → Nat := fun n => if n = 30 then b else if n = 31 then L else (xs (n - 1000)).toBitVec.toNat
  let G : zG := (s.heap.size, gf, (fun c => (D c).1, fun c => (D c).2), fun t => match t with | 0 => a0 | 1 => a1 | 2 => a2 | 3 => a3 | _ => a4)
  have eX : (fun j => nI (G.2.1 (1000 + j))) = xs := by
    funext j
    show nI (if 1000 + j = 30 then _ else if 1000 + j = 31 then _ else (xs (1000 + j - 1000)).toBitVec.toNat) = xs j
    rw [if_neg (by omega), if_neg (by omega), nI_back, Nat.add_sub_cancel_left]
  refine ⟨G, rfl, rfl, rfl, ⟨fun c q hq => hD c q hq, fun k q hk => ?_⟩, Nat.le_refl _, trivial, trivial, trivial, trivial, fun q hq => va_Nw.of rfl (hts _ (zkN_ok q hq)), va_AO.of (hts _ (zkT_at 2 rfl)), va_AO.of (hts _ (zkT_at 3 rfl)), hts _ (zkT_at 4 rfl), ?_, hb, trivial⟩
  · have hk5 : k < 5 := (List.getElem?_eq_some_iff.mp hk).1
    rcases (by omega : k = 0 ∨ k = 1 ∨ k = 2 ∨ k = 3 ∨ k = 4) with rfl | rfl | rfl | rfl | rfl
    · cases hk
      exact ⟨p0, q0⟩
    · cases hk
      exact ⟨p1, q1⟩
    · cases hk
      exact ⟨p2, q2⟩
    · cases hk
      exact ⟨p3, q3⟩
    · cases hk
      exact ⟨p4, q4⟩
  · show va_X b L (fun j => nI (G.2.1 (1000 + j))) s s.heap
    rw [eX]
    exact hX
theorem room_le {s : State} {pl : Platform} {R1 R2 : Room} (h : s.hasRoom pl R1 = true) (h1 : R2.frames ≤ R1.frames) (h2 : R2.cells ≤ R1.cells) (h3 : R2.slots ≤ R1.slots) (h4 : R2.locals ≤ R1.locals) : s.hasRoom pl R2 = true := by
  simp only [State.hasRoom, Bool.and_eq_true, decide_eq_true_eq] at h ⊢
  obtain ⟨⟨⟨⟨a1, a2, a3, a4, a5, a6⟩, a7⟩, a8⟩, a9⟩ := h
  exact ⟨⟨⟨⟨by omega, by omega, by omega, by omega, by omega, a6⟩, by omega⟩, by omega⟩, a9⟩
