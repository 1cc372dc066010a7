/-! MAKING CELLS: rules for new objects and arrays. Worlds under construction are blocks laid over a world. -/
def zov (h : zH) (b : Nat) (c : List va_E) : zH := fun j => if j < b then h j else c.getD (j - b) (.inr (1000, []))
theorem zov_app {h : zH} {b m : Nat} {c1 c2 : List va_E} (hm : b + c1.length = m) : zov (zov h b c1) m c2 = zov h b (c1 ++ c2) := by
  subst hm
  funext j
  unfold zov
  by_cases h1 : j < b
  · rw [if_pos (by omega), if_pos h1, if_pos h1]
  · rw [if_neg h1]
    by_cases h2 : j < b + c1.length
    · rw [if_pos h2, if_neg h1]
      simp only [List.getD_eq_getElem?_getD]
      rw [List.getElem?_append_left (by omega)]
    · rw [if_neg h2, if_neg h1]
      simp only [List.getD_eq_getElem?_getD]
      rw [List.getElem?_append_right (by omega)]
      rw [show j - (b + c1.length) = j - b - c1.length by omega]
theorem zov_set {h : zH} {b k a : Nat} {c c' : List va_E} {e : va_E} (ha : b + k = a) (hk : k < c.length) (hc : c.set k e = c') : zu (zov h b c) a e = zov h b c' := by
  subst ha
  subst hc
  funext j
  unfold zu zov
  by_cases hj : j = b + k
  · subst hj
    rw [if_pos rfl, if_neg (by omega)]
    simp only [List.getD_eq_getElem?_getD]
    rw [Nat.add_sub_cancel_left, List.getElem?_set_self hk]
    rfl
  · rw [if_neg hj]
    by_cases h1 : j < b
    · rw [if_pos h1, if_pos h1]
    · rw [if_neg h1, if_neg h1]
      simp only [List.getD_eq_getElem?_getD]
      rw [List.getElem?_set_ne (by omega)]
theorem zov_at {h : zH} {b k a : Nat} {c : List va_E} {e : va_E} (ha : b + k = a) (hc : c[k]? = some e) : zov h b c a = e := by
  subst ha
  unfold zov
  rw [if_neg (by omega), List.getD_eq_getElem?_getD, Nat.add_sub_cancel_left, hc]
  rfl
theorem zov_lo {h : zH} {b j : Nat} {c : List va_E} (hj : j < b) : zov h b c j = h j := if_pos hj
theorem zWl_zov {G : zG} {n : Nat} {h : zH} {e : va_E} : zWl G (n + 1) (zov h n [e]) = zWl G n h ++ [(G.1 + n, zE G e)] := by
  unfold zWl
  rw [List.range_succ, List.map_append]
  congr 1
  · apply List.map_congr_left
    intro i hi
    have := List.mem_range.mp hi
    simp [zov, this]
  · simp [zov]
theorem zI_push {G : zG} {n : Nat} {h : zH} {e : va_E} {H H1 : Heap} (hI : zI G n h H) (hn : n < 1000000) (z1 : H1.size = G.1 + n + 1) (o1 : ∀ q : Nat, q < G.1 + n → H1[q]? = H[q]?) (he : va_at G.2.2.1 vwCl (G.1 + n, zE G e) H1) : zI G (n + 1) (zov h n [e]) H1 := by
  refine ⟨by omega, hn, ?_⟩
  rw [zWl_zov]
  refine va_P.app (hI.2.2.kept fun k x hx => o1 x.1 ?_) (fun k x hx => ?_)
  · have := (hI.2.2 k x hx).lt
    rw [hI.1] at this
    exact this
  · have hz : k < 1 := (List.getElem?_eq_some_iff.mp hx).1
    rw [show k = 0 by omega] at hx
    cases hx
    exact he
theorem zS_push {A : Nat → Prop} {n g : Nat} {H0 H H1 : Heap} {locs : List Loc} (hS : va_S A H0 H locs) (hz : H.size = g + n) (z1 : g + n ≤ H1.size) (o1 : ∀ q : Nat, q < g + n → H1[q]? = H[q]?) : va_S A H0 H1 locs := by
  refine ⟨Nat.le_trans hS.1 (by omega), fun x h1 h2 => (o1 x ?_).trans (hS.2.1 x h1 h2), hS.2.2⟩
  have := hS.1
  omega
theorem wo_i : Cond.instanceMethod objectInit ∈ lw_ok := by
  have h : ([Cond.instanceMethod objectInit] : List Cond).all (fun w => goodWord w && lw_tbl.contains w) = true := by decide +kernel
  have h1 := List.all_eq_true.mp h _ List.mem_cons_self
  rw [Bool.and_eq_true] at h1
  exact List.mem_filter.mpr ⟨List.contains_iff_mem.mp h1.2, h1.1⟩
def zkWs : List Cond := [.instanceMethod objectInit, .code objectInit ⟨#[0xb1]⟩ 1 none, .arrayClass .int, .arrayClass .char, .classLink RX2 17 "[[I", .classLink RX1 9 RX4, .classLink RX2 9 RX5,
  .classLink RX6 9 RX1, .classLink RX6 16 RX3, .classLink RX6 23 RX0, .classLink RX6 26 RX4, .classLink RX6 35 RX2, .classLink RX1 17 RX0, .classLink RX3 9 RX0, .classLink RL 10 RX6, .classLink RL 10 RX6,
  .instantiable RX0 14, .instantiable RX1 2, .instantiable RX2 5, .instantiable RX3 9, .instantiable RX4 8, .instantiable RX5 7, .instantiable RX6 4, .instantiable RX6 4,
  .initialized RX0, .initialized RX1, .initialized RX2, .initialized RX3, .initialized RX4, .initialized RX5, .initialized RX6, .initialized RX6]
theorem zk_ok : ∀ w ∈ zkWs, w ∈ lw_ok := by
  have h : zkWs.all (fun w => goodWord w && lw_tbl.contains w) = true := by decide +kernel
  intro w hw
  have h1 := List.all_eq_true.mp h w hw
  rw [Bool.and_eq_true] at h1
  exact List.mem_filter.mpr ⟨List.contains_iff_mem.mp h1.2, h1.1⟩
theorem zk_at {w : Cond} (i : Nat) (h : zkWs[i]? = some w) : w ∈ lw_ok := zk_ok w (List.mem_of_getElem? h)
section ZK
variable {G : zG} {M : zM} {d N S n0 s0 : Nat} {P : Option Value → zH → Prop} {pc q : Nat} {L L' : List (Option Value)} {st stk : List Value} {n sl : Nat} {h h' : zH}
theorem aw_w (e : h' = h) (K : AW G M d N S n0 s0 P pc L st n sl h') : AW G M d N S n0 s0 P pc L st n sl h := e ▸ K
theorem aw_obj {idx a : Nat} (hd : decode M.2.1 pc = .ok (.invokespecial idx, 3)) (hq : pc + 3 = q) (hl : Cond.methodLink M.1.cls idx objectInit ∈ lw_ok) (hdep : 1 ≤ d) (hcat : (st.map fun v => v.category).sum ≤ 8) (K : AW G M d N S n0 s0 P q L st n sl h) : AW G M d N S n0 s0 P pc L (.ref a :: st) n sl h := by
  subst hq
  intro p l e s m args below meth c H locs ls C hs hI hS hl9 hn hsl
  refine W.objInit (a := zA G a) C.1 C.2.1 C.2.2.2.1 (C.2.2.2.2.1 _ hl) (C.2.2.2.2.1 _ (zk_at 0 rfl)) (C.2.2.2.2.1 _ (zk_at 1 rfl)) rfl (hl9.1.trans C.2.2.1.symm) rfl hd hdep ?_ (K p l e s m args below meth c H locs ls C hs hI hS hl9 hn hsl)
  have := lv_room (m := m) (pc := pc) (ls := ls) (rest := st.map (zV G)) (zcat (G := G) hcat)
  show 2 * 0 + ((st.map (zV G)).map fun v => v.category).sum + 12 ≤ 40 * d
  have e9 : ((st.map (zV G)).map fun v => v.category).sum ≤ 8 := zcat hcat
  omega
/-- what is known of a class whose objects are made -/
def zNw (own : String) (idx ci Nf : Nat) (fs : List Value) : Prop := ∃ (C : String) (T : u_T) (ty : Nat → FieldType), vwCl[ci]? = some (C, T, Nf) ∧ Cond.classLink own idx C ∈ lw_ok ∧ Cond.instantiable C Nf ∈ lw_ok ∧ Cond.initialized C ∈ lw_ok ∧ (∀ w ∈ u_ws C T Nf, w ∈ lw_ok) ∧ (∀ k, k < Nf → parseFieldDescriptor (T k).2.2.1 = some (ty k)) ∧ (∀ j, j < Nf → defaultValue (ty j) = vp_V fs j) ∧ ∀ G : zG, fs.map (zV G) = fs
theorem aw_new {idx ci Nf : Nat} {fs : List Value} (hd : decode M.2.1 pc = .ok (.new idx, 3)) (hq : pc + 3 = q) (hk : zNw M.1.cls idx ci Nf fs) (hn9 : n < 1000000) (hN : n + 1 ≤ N) (hS' : sl + Nf ≤ S) (hH : zov h n [.inr (ci, fs)] = h') (K : AW G M d N S n0 s0 P q L (.ref n :: st) (n + 1) (sl + Nf) h') : AW G M d N S n0 s0 P pc L st n sl h := by
  subst hq
  subst hH
  intro p l e s m args below meth c H locs ls C hs hI hS hl hn hsl
  obtain ⟨Cn, T, ty, hc, hlink, hinst, hini, hin, hty, hfs, hmap⟩ := hk
  have hKn := C.2.2.2.2.2.2.2.2.1.1 ci _ hc
  have hts : ∀ w ∈ lw_ok, w.before args s = true := C.2.2.2.2.1
  refine W.newcK C.1 C.2.1 C.2.2.2.1 (C.2.2.2.2.1 _ hlink) (C.2.2.2.2.1 _ hinst) (C.2.2.2.2.1 _ hini) rfl hd (by show n - n0 + 1 ≤ N - n0; omega) (by show sl - s0 + Nf ≤ S - s0; omega) hKn.2.1 hI.1 fun H1 kC hkC e1 z1 o1 => ?_
  have hat : va_at G.2.2.1 vwCl (G.1 + n, zE G (.inr (ci, fs))) H1 := by
    have e9 : zE G (.inr (ci, fs)) = .inr (ci, fs) := by
      show (Sum.inr (ci, fs.map (zV G)) : va_E) = _
      rw [hmap]
    rw [e9]
    exact ⟨_, hc, (u_born ty hts hin hKn hkC e1 hty).to hfs⟩
  have key := K p l e s m args below meth c H1 locs ls C hs (zI_push hI hn9 z1 o1 hat) (zS_push hS hI.1 (by omega) o1) hl ⟨by omega, hN⟩ ⟨by omega, hS'⟩
  have e1 : n + 1 - n0 = n - n0 + 1 := by omega
  have e2 : sl + Nf - s0 = sl - s0 + Nf := by omega
  rw [e1, e2] at key
  have e3 : (.ref n :: st : List Value).map (zV G) = .ref (G.1 + n) :: st.map (zV G) := by
    show Value.ref (zA G n) :: _ = _
    rw [zA_in hn9]
  rw [e3] at key
  exact key
theorem aw_newi {len : Nat} {x : Int32} (hd : decode M.2.1 pc = .ok (.newarray .int, 2)) (hq : pc + 2 = q) (hx : ¬ x < 0) (hlen : x.toNatClampNeg = len) (hb : len * 4 ≤ 536870912) (hn9 : n < 1000000) (hN : n + 1 ≤ N) (hS' : sl + len ≤ S) (hH : zov h n [.inl (0, len, .inl fun _ => 0)] = h') (K : AW G M d N S n0 s0 P q L (.ref n :: st) (n + 1) (sl + len) h') : AW G M d N S n0 s0 P pc L (.int x :: st) n sl h := by
  subst hq
  subst hH
  intro p l e s m args below meth c H locs ls C hs hI hS hl hn hsl
  have hty := (C.2.2.2.2.2.2.2.2.1.2 0 (G.2.2.2 0, .int) rfl).2
  refine va_newaK (atype := .int) C.1 C.2.1 (C.2.2.2.2.1 _ (zk_at 2 rfl)) rfl hd rfl hx hlen hb (by show n - n0 + 1 ≤ N - n0; omega) (by show sl - s0 + len ≤ S - s0; omega) hI.1 fun H1 cA e1 z1 o1 hAr hNm => ?_
  have hcA : cA = G.2.2.2 0 := Option.some.inj (hNm.symm.trans hty)
  subst hcA
  have hat : va_at G.2.2.1 vwCl (G.1 + n, zE G (.inl (0, len, .inl fun _ => 0))) H1 := e1
  have key := K p l e s m args below meth c H1 locs ls C hs (zI_push hI hn9 z1 o1 hat) (zS_push hS hI.1 (by omega) o1) hl ⟨by omega, hN⟩ ⟨by omega, hS'⟩
  have e1 : n + 1 - n0 = n - n0 + 1 := by omega
  have e2 : sl + len - s0 = sl - s0 + len := by omega
  rw [e1, e2] at key
  have e3 : (.ref n :: st : List Value).map (zV G) = .ref (G.1 + n) :: st.map (zV G) := by
    show Value.ref (zA G n) :: _ = _
    rw [zA_in hn9]
  rw [e3] at key
  exact key
theorem aw_newc {len : Nat} {x : Int32} (hd : decode M.2.1 pc = .ok (.newarray .char, 2)) (hq : pc + 2 = q) (hx : ¬ x < 0) (hlen : x.toNatClampNeg = len) (hb : len * 2 ≤ 536870912) (hn9 : n < 1000000) (hN : n + 1 ≤ N) (hS' : sl + len ≤ S) (hH : zov h n [.inl (1, len, .inl fun _ => 0)] = h') (K : AW G M d N S n0 s0 P q L (.ref n :: st) (n + 1) (sl + len) h') : AW G M d N S n0 s0 P pc L (.int x :: st) n sl h := by
  subst hq
  subst hH
  intro p l e s m args below meth c H locs ls C hs hI hS hl hn hsl
  have hty := (C.2.2.2.2.2.2.2.2.1.2 1 (G.2.2.2 1, .char) rfl).2
  refine va_newaK (atype := .char) C.1 C.2.1 (C.2.2.2.2.1 _ (zk_at 3 rfl)) rfl hd rfl hx hlen hb (by show n - n0 + 1 ≤ N - n0; omega) (by show sl - s0 + len ≤ S - s0; omega) hI.1 fun H1 cA e1 z1 o1 hAr hNm => ?_
  have hcA : cA = G.2.2.2 1 := Option.some.inj (hNm.symm.trans hty)
  subst hcA
  have hat : va_at G.2.2.1 vwCl (G.1 + n, zE G (.inl (1, len, .inl fun _ => 0))) H1 := e1
  have key := K p l e s m args below meth c H1 locs ls C hs (zI_push hI hn9 z1 o1 hat) (zS_push hS hI.1 (by omega) o1) hl ⟨by omega, hN⟩ ⟨by omega, hS'⟩
  have e1 : n + 1 - n0 = n - n0 + 1 := by omega
  have e2 : sl + len - s0 = sl - s0 + len := by omega
  rw [e1, e2] at key
  have e3 : (.ref n :: st : List Value).map (zV G) = .ref (G.1 + n) :: st.map (zV G) := by
    show Value.ref (zA G n) :: _ = _
    rw [zA_in hn9]
  rw [e3] at key
  exact key
def zOC (t : Nat) : String := if t = 2 then RX4 else RX5
theorem aw_newq {idx len t : Nat} {x : Int32} (hd : decode M.2.1 pc = .ok (.anewarray idx, 3)) (hq : pc + 3 = q) (ht : t = 2 ∨ t = 3) (hl : Cond.classLink M.1.cls idx (zOC t) ∈ lw_ok) (hx : ¬ x < 0) (hlen : x.toNatClampNeg = len) (hb : len * 4 ≤ 536870912) (hn9 : n < 1000000) (hN : n + 1 ≤ N) (hS' : sl + len ≤ S) (hH : zov h n [.inl (t, len, .inr (.inr (.inr (.inr fun _ => none))))] = h') (K : AW G M d N S n0 s0 P q L (.ref n :: st) (n + 1) (sl + len) h') : AW G M d N S n0 s0 P pc L (.int x :: st) n sl h := by
  subst hq
  subst hH
  subst hlen
  intro p l e s m args below meth c H locs ls C hs hI hS hl9 hn hsl
  have hZ : zS G s s.heap := C.2.2.2.2.2.2.2.2
  have hao : va_AO (zOC t) s := by
    rcases ht with rfl | rfl
    · exact hZ.2.2.2.2.2.2.2.1
    · exact hZ.2.2.2.2.2.2.2.2.1
  have hty : ∃ (kA : Class) (comp : ClassId), s.vm.classes[G.2.2.2 t]? = some kA ∧ kA.kind = .array comp (.object (zOC t)) ∧ s.vm.findClass (zOC t) = some comp ∧ s.vm.findClass ("[" ++ (FieldType.object (zOC t)).toString) = some (G.2.2.2 t) := by
    rcases ht with rfl | rfl
    · exact (hZ.1.2 2 (G.2.2.2 2, .object RX4) rfl).2
    · exact (hZ.1.2 3 (G.2.2.2 3, .object RX5) rfl).2
  refine W.anew C.1 C.2.1 C.2.2.2.1 (C.2.2.2.2.1 _ hl) (va_AO.use hao) rfl hd rfl hx hb (by show n - n0 + 1 ≤ N - n0; omega) (by show sl - s0 + _ ≤ S - s0; omega) fun cA kA comp f1 f2 f3 f4 => ?_
  obtain ⟨-, -, -, -, -, f5⟩ := hty
  have hcA : cA = G.2.2.2 t := Option.some.inj (f1.symm.trans f5)
  subst hcA
  generalize hH1 : H.push ({ cls := G.2.2.2 t, slots := Array.replicate x.toNatClampNeg .null, vm := .none } : Cell) = H1
  have z1 : H1.size = G.1 + n + 1 := by rw [← hH1, Array.size_push, hI.1]
  have e1 : H1[G.1 + n]? = some (arrV (G.2.2.2 t) x.toNatClampNeg (fun _ => .null)) := by rw [← hH1, ← hI.1, Array.getElem?_push_size, ← arrV_new]
  have o1 : ∀ q : Nat, q < G.1 + n → H1[q]? = H[q]? := fun q hq => by rw [← hH1, Array.getElem?_push, if_neg (by rw [hI.1]; omega)]
  have hat : va_at G.2.2.1 vwCl (G.1 + n, zE G (.inl (t, x.toNatClampNeg, .inr (.inr (.inr (.inr fun _ => none)))))) H1 := by
    show H1[G.1 + n]? = some (vp_cell _ _)
    rw [e1]
    rfl
  have key := K p l e s m args below meth c H1 locs ls C hs (zI_push hI hn9 z1 o1 hat) (zS_push hS hI.1 (by omega) o1) hl9 ⟨by omega, hN⟩ ⟨by omega, hS'⟩
  have e1 : n + 1 - n0 = n - n0 + 1 := by omega
  have e2 : sl + x.toNatClampNeg - s0 = sl - s0 + x.toNatClampNeg := by omega
  rw [e1, e2] at key
  have e3 : (.ref n :: st : List Value).map (zV G) = .ref H.size :: st.map (zV G) := by
    show Value.ref (zA G n) :: _ = _
    rw [zA_in hn9, hI.1]
  rw [e3] at key
  exact key
end ZK
