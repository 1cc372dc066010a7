section ZCALL
variable {G : zG} {M M' : zM} {d d' N S n0 s0 N' S' : Nat} {P P' : Option Value → zH → Prop} {pc q : Nat} {L L' : List (Option Value)} {st stk as : List Value} {n sl : Nat} {h h' : zH}
/-- what the tables say of a callee -/
def zW (M' : zM) (na : Nat) : Prop := Cond.initialized M'.1.cls ∈ lw_ok ∧ Cond.code M'.1 M'.2.1 M'.2.2.1 M'.2.2.2 ∈ lw_ok ∧ (M'.1.cls ≠ "java/lang/invoke/MethodHandle" ∧ M'.1.cls ≠ "java/lang/invoke/VarHandle") ∧ (parseMethodDescriptor M'.1.desc).map (fun d => d.parameters.length) = some na ∧ M'.2.2.1 ≤ 21
theorem zpay {s : State} {args : Array Value} (hts : ∀ w ∈ lw_ok, w.before args s = true) (hw : zW M' n) : ∀ w ∈ (.code M'.1 M'.2.1 M'.2.2.1 M'.2.2.2 :: lw_ok : List Cond), ∀ (a' : Array Value) (U : State), s.WarmedH U.vm → w.before a' U = true :=
  pay_in hts (fun w h => by
    rcases List.mem_cons.mp h with rfl | h
    · exact ⟨hw.2.1, lw_ok_good hw.2.1⟩
    · exact ⟨h, lw_ok_good h⟩)
theorem zlen {na : Nat} {sig : MethodDescriptor} (h : (parseMethodDescriptor M'.1.desc).map (fun d => d.parameters.length) = some na) (hs : parseMethodDescriptor M'.1.desc = some sig) : na = sig.parameters.length := by
  rw [hs] at h
  exact (Option.some.inj h).symm
theorem zblind {Ps : Array Value → State → Prop} {as : List Value} : FrameBlind (va_Pc as (fun U => zI G n h U.heap ∧ zS G U U.heap)) := by
  intro a U g mk hq
  obtain ⟨h1, h2, h3⟩ := hq
  exact ⟨h1, h2, zS.go h3 (State.WarmedH.refl U) (Nat.le_refl _) (fun _ _ _ => rfl)⟩
theorem zpre {s U : State} {H : Heap} {locs : List Loc} (hZ : zS G s s.heap) (hI : zI G n h H) (hS : va_S (fun q => G.1 ≤ q) s.heap H locs) (hU : U.heap = H) (hW : s.WarmedH U.vm) : zI G n h U.heap ∧ zS G U U.heap := by
  rw [hU]
  exact ⟨hI, hZ.go hW hS.1 hS.2.1⟩
theorem zroom {d d' : Nat} (h : d' + 1 ≤ d) (hm : M'.2.2.1 ≤ 21) : 8 + (M'.2.2.1 + 11) + 40 * d' ≤ 40 * d := by omega
theorem ztail {r : Option Value} : (r.map (zV G)).toList ++ st.map (zV G) = (r.toList ++ st).map (zV G) := by cases r <;> rfl
theorem znext {mc : Nat} (h1 : n ≤ N') (h2 : n0 ≤ n) (e : mc = N' - n) : (n - n0) + mc = N' - n0 := by omega
theorem zcat (h : (st.map fun v => v.category).sum ≤ 8) : ((st.map (zV G)).map fun v => v.category).sum ≤ 8 := by rw [zV_cats]; exact h
theorem aw_cs {idx na : Nat} (hd : decode M.2.1 pc = .ok (.invokestatic idx, 3)) (hq : pc + 3 = q) (hw : zW M' na) (hl : Cond.methodLink M.1.cls idx M'.1 ∈ lw_ok) (hst : Cond.static M'.1 ∈ lw_ok) (hk : stk = as.reverse ++ st) (hna : as.length = na) (hdep : d' + 1 ≤ d) (hcat : (st.map fun v => v.category).sum ≤ 8) (hM : zMt G d' M' as n sl h N' S' P') (hN : N' ≤ N) (hS' : S' ≤ S) (K : ∀ r h', P' r h' → AW G M d N S n0 s0 P q L (r.toList ++ st) N' S' h') : AW G M d N S n0 s0 P pc L stk n sl h := by
  subst hq
  subst hk
  intro p l e s m args below meth c H locs ls C hs hI hS hl9 hn hsl
  obtain ⟨hM1, hM2, hM3⟩ := hM
  obtain ⟨w1, w2, w3, w4, w5⟩ := id hw
  have hts := C.2.2.2.2.1
  refine zrun (N' := N') (P' := P') (mc := N' - n) (ms := S' - sl) (va_runS (own := M.1.cls) (index := idx) (n := na) (As := as.map (zV G)) (rest := st.map (zV G)) (g := F0 m pc ls ((as.reverse ++ st).map (zV G))) ⟨C.1, C.2.1, C.2.2.1, C.2.2.2.1, hts⟩ (hM3 l) ⟨⟨rfl, rfl, hdep, zroom hdep w5, zpay hts hw, List.mem_cons_self, hts _ w2, hts _ w1, w3, fun sig hs9 => zlen w4 hs9, hts _ hl⟩, hts _ hst⟩
    ⟨zblind (Ps := fun _ _ => True), fun U hU hW => ⟨rfl, zpre C.2.2.2.2.2.2.2.2 hI hS hU hW⟩⟩ rfl (by rw [List.length_map]; exact hna) hl9.1 (by simp) (lv_room (zcat hcat)) hd
    ⟨by show n - n0 + (N' - n) ≤ N - n0; omega, by show sl - s0 + (S' - sl) ≤ S - s0; omega⟩) hS (fun r h' H1 locs1 hp hI1 hS1 => ?_)
  rw [ztail, znext hM1 hn.1 rfl, znext (n0 := s0) hM2 hsl.1 rfl]
  exact K r h' hp p l e s m args below meth c H1 locs1 ls C hs hI1 hS1 hl9 ⟨by omega, hN⟩ ⟨by omega, hS'⟩
theorem aw_csN {idx na : Nat} (hd : decode M.2.1 pc = .ok (.invokestatic idx, 3)) (hq : pc + 3 = q) (hw : zW M' na) (hl : (M.1.cls, idx, M'.1) ∈ zNl) (hst : Cond.static M'.1 ∈ lw_ok) (hk : stk = as.reverse ++ st) (hna : as.length = na) (hdep : d' + 1 ≤ d) (hcat : (st.map fun v => v.category).sum ≤ 8) (hM : zMt G d' M' as n sl h N' S' P') (hN : N' ≤ N) (hS' : S' ≤ S) (K : ∀ r h', P' r h' → AW G M d N S n0 s0 P q L (r.toList ++ st) N' S' h') : AW G M d N S n0 s0 P pc L stk n sl h := by
  subst hq
  subst hk
  intro p l e s m args below meth c H locs ls C hs hI hS hl9 hn hsl
  obtain ⟨hM1, hM2, hM3⟩ := hM
  obtain ⟨w1, w2, w3, w4, w5⟩ := id hw
  have hts := C.2.2.2.2.1
  refine zrun (N' := N') (P' := P') (mc := N' - n) (ms := S' - sl) (va_runSN (host := RX6) (own := M.1.cls) (index := idx) (n := na) (As := as.map (zV G)) (rest := st.map (zV G)) (g := F0 m pc ls ((as.reverse ++ st).map (zV G))) ⟨C.1, C.2.1, C.2.2.1, C.2.2.2.1, hts⟩ (hM3 l) ⟨⟨⟨rfl, rfl, hdep, zroom hdep w5, zpay hts hw, List.mem_cons_self⟩, hts _ w2, hts _ w1, w3, fun sig hs9 => zlen w4 hs9, va_Nw.use rfl (C.2.2.2.2.2.2.2.2.2.2.2.2.2.2.1 _ hl)⟩, hts _ hst, trivial⟩
    ⟨zblind (Ps := fun _ _ => True), fun U hU hW => ⟨rfl, zpre C.2.2.2.2.2.2.2.2 hI hS hU hW⟩⟩ rfl (by rw [List.length_map]; exact hna) hl9.1 (by simp) (lv_room (zcat hcat)) hd
    ⟨by show n - n0 + (N' - n) ≤ N - n0; omega, by show sl - s0 + (S' - sl) ≤ S - s0; omega⟩) hS (fun r h' H1 locs1 hp hI1 hS1 => ?_)
  rw [ztail, znext hM1 hn.1 rfl, znext (n0 := s0) hM2 hsl.1 rfl]
  exact K r h' hp p l e s m args below meth c H1 locs1 ls C hs hI1 hS1 hl9 ⟨by omega, hN⟩ ⟨by omega, hS'⟩
theorem aw_cv {idx na ci b : Nat} {T : u_T} {Nf : Nat} {fs : List Value} (hd : decode M.2.1 pc = .ok (.invokevirtual idx, 3)) (hq : pc + 3 = q) (hw : zW M' na) (hl : Cond.methodLink M.1.cls idx M'.1 ∈ lw_ok) (hin : Cond.instanceMethod M'.1 ∈ lw_ok) (hsel : Cond.selects M'.1.cls M'.1 M'.1 ∈ lw_ok) (hb : b < n) (hh : h b = .inr (ci, fs)) (hc : vwCl[ci]? = some (M'.1.cls, T, Nf)) (hk : stk = as.reverse ++ .ref b :: st) (hna : as.length = na) (hdep : d' + 1 ≤ d) (hcat : (st.map fun v => v.category).sum ≤ 8) (hM : zMt G d' M' (.ref b :: as) n sl h N' S' P') (hN : N' ≤ N) (hS' : S' ≤ S) (K : ∀ r h', P' r h' → AW G M d N S n0 s0 P q L (r.toList ++ st) N' S' h') : AW G M d N S n0 s0 P pc L stk n sl h := by
  subst hq
  subst hk
  intro p l e s m args below meth c H locs ls C hs hI hS hl9 hn hsl
  obtain ⟨hM1, hM2, hM3⟩ := hM
  obtain ⟨w1, w2, w3, w4, w5⟩ := id hw
  have hts := C.2.2.2.2.1
  refine zrun (N' := N') (P' := P') (mc := N' - n) (ms := S' - sl) (va_runV (C := M'.1.cls) (b := zA G b) (own := M.1.cls) (index := idx) (n := na) (As := as.map (zV G)) (rest := st.map (zV G)) (g := F0 m pc ls ((as.reverse ++ .ref b :: st).map (zV G))) ⟨C.1, C.2.1, C.2.2.1, C.2.2.2.1, hts⟩ (hM3 l) ⟨⟨rfl, rfl, hdep, zroom hdep w5, zpay hts hw, List.mem_cons_self, hts _ w2, hts _ w1, w3, fun sig hs9 => zlen w4 hs9, hts _ hl⟩, hts _ hin, hts _ hsel⟩
    ⟨zblind (Ps := fun _ _ => True), va_recv C.2.2.2.2.2.2.2.2.1 hI.2.2 hc (zWl_at hI.2.1 hb hh), fun U hU hW => ⟨rfl, zpre C.2.2.2.2.2.2.2.2 hI hS hU hW⟩⟩ rfl (by rw [List.length_map]; exact hna) hl9.1 (by simp [zV]) (lv_room (zcat hcat)) hd
    ⟨by show n - n0 + (N' - n) ≤ N - n0; omega, by show sl - s0 + (S' - sl) ≤ S - s0; omega⟩) hS (fun r h' H1 locs1 hp hI1 hS1 => ?_)
  rw [ztail, znext hM1 hn.1 rfl, znext (n0 := s0) hM2 hsl.1 rfl]
  exact K r h' hp p l e s m args below meth c H1 locs1 ls C hs hI1 hS1 hl9 ⟨by omega, hN⟩ ⟨by omega, hS'⟩
theorem aw_ci {idx na b : Nat} (hd : decode M.2.1 pc = .ok (.invokespecial idx, 3)) (hq : pc + 3 = q) (hw : zW M' na) (hl : Cond.methodLink M.1.cls idx M'.1 ∈ lw_ok) (hin : Cond.instanceMethod M'.1 ∈ lw_ok) (hini : M'.1.name = "<init>") (hret : M'.2.2.2 = none) (hk : stk = as.reverse ++ .ref b :: st) (hna : as.length = na) (hdep : d' + 1 ≤ d) (hcat : (st.map fun v => v.category).sum ≤ 8) (hM : zMt G d' M' (.ref b :: as) n sl h N' S' P') (hN : N' ≤ N) (hS' : S' ≤ S) (K : ∀ r h', P' r h' → AW G M d N S n0 s0 P q L (r.toList ++ st) N' S' h') : AW G M d N S n0 s0 P pc L stk n sl h := by
  subst hq
  subst hk
  intro p l e s m args below meth c H locs ls C hs hI hS hl9 hn hsl
  obtain ⟨hM1, hM2, hM3⟩ := hM
  obtain ⟨w1, w2, w3, w4, w5⟩ := id hw
  have hts := C.2.2.2.2.1
  obtain ⟨My, Mb, Mm, Mr⟩ := M'
  dsimp only at hret
  subst hret
  refine zrun (N' := N') (P' := P') (mc := N' - n) (ms := S' - sl) (va_runI (b := zA G b) (own := M.1.cls) (index := idx) (n := na) (As := as.map (zV G)) (rest := st.map (zV G)) (g := F0 m pc ls ((as.reverse ++ .ref b :: st).map (zV G))) ⟨C.1, C.2.1, C.2.2.1, C.2.2.2.1, hts⟩ (hM3 l) ⟨⟨rfl, rfl, hdep, zroom hdep w5, zpay hts hw, List.mem_cons_self, hts _ w2, hts _ w1, w3, fun sig hs9 => zlen w4 hs9, hts _ hl⟩, hini, hts _ hin⟩
    ⟨zblind (Ps := fun _ _ => True), fun U hU hW => ⟨rfl, zpre C.2.2.2.2.2.2.2.2 hI hS hU hW⟩⟩ rfl (by rw [List.length_map]; exact hna) hl9.1 (by simp [zV]) (lv_room (zcat hcat)) hd
    ⟨by show n - n0 + (N' - n) ≤ N - n0; omega, by show sl - s0 + (S' - sl) ≤ S - s0; omega⟩) hS (fun r h' H1 locs1 hp hI1 hS1 => ?_)
  rw [ztail, znext hM1 hn.1 rfl, znext (n0 := s0) hM2 hsl.1 rfl]
  exact K r h' hp p l e s m args below meth c H1 locs1 ls C hs hI1 hS1 hl9 ⟨by omega, hN⟩ ⟨by omega, hS'⟩
theorem aw_ciN {idx na b : Nat} (hd : decode M.2.1 pc = .ok (.invokespecial idx, 3)) (hq : pc + 3 = q) (hw : zW M' na) (hl : (M.1.cls, idx, M'.1) ∈ zNl) (hin : Cond.instanceMethod M'.1 ∈ lw_ok) (hini : M'.1.name = "<init>") (hret : M'.2.2.2 = none) (hk : stk = as.reverse ++ .ref b :: st) (hna : as.length = na) (hdep : d' + 1 ≤ d) (hcat : (st.map fun v => v.category).sum ≤ 8) (hM : zMt G d' M' (.ref b :: as) n sl h N' S' P') (hN : N' ≤ N) (hS' : S' ≤ S) (K : ∀ r h', P' r h' → AW G M d N S n0 s0 P q L (r.toList ++ st) N' S' h') : AW G M d N S n0 s0 P pc L stk n sl h := by
  subst hq
  subst hk
  intro p l e s m args below meth c H locs ls C hs hI hS hl9 hn hsl
  obtain ⟨hM1, hM2, hM3⟩ := hM
  obtain ⟨w1, w2, w3, w4, w5⟩ := id hw
  have hts := C.2.2.2.2.1
  obtain ⟨My, Mb, Mm, Mr⟩ := M'
  dsimp only at hret
  subst hret
  refine zrun (N' := N') (P' := P') (mc := N' - n) (ms := S' - sl) (va_runIN (host := RX6) (b := zA G b) (own := M.1.cls) (index := idx) (n := na) (As := as.map (zV G)) (rest := st.map (zV G)) (g := F0 m pc ls ((as.reverse ++ .ref b :: st).map (zV G))) ⟨C.1, C.2.1, C.2.2.1, C.2.2.2.1, hts⟩ (hM3 l) ⟨⟨⟨rfl, rfl, hdep, zroom hdep w5, zpay hts hw, List.mem_cons_self⟩, hts _ w2, hts _ w1, w3, fun sig hs9 => zlen w4 hs9, va_Nw.use rfl (C.2.2.2.2.2.2.2.2.2.2.2.2.2.2.1 _ hl)⟩, hini, hts _ hin⟩
    ⟨zblind (Ps := fun _ _ => True), fun U hU hW => ⟨rfl, zpre C.2.2.2.2.2.2.2.2 hI hS hU hW⟩⟩ rfl (by rw [List.length_map]; exact hna) hl9.1 (by simp [zV]) (lv_room (zcat hcat)) hd
    ⟨by show n - n0 + (N' - n) ≤ N - n0; omega, by show sl - s0 + (S' - sl) ≤ S - s0; omega⟩) hS (fun r h' H1 locs1 hp hI1 hS1 => ?_)
  rw [ztail, znext hM1 hn.1 rfl, znext (n0 := s0) hM2 hsl.1 rfl]
  exact K r h' hp p l e s m args below meth c H1 locs1 ls C hs hI1 hS1 hl9 ⟨by omega, hN⟩ ⟨by omega, hS'⟩
/-- a body gives the contract -/
theorem zMt_of (hy : plainName M.1.cls = true) (hc1 : ∀ v ∈ as, v.category = 1) (hlen : as.length ≤ M.2.2.1) (hN : n ≤ N) (hSl : sl ≤ S) (hL : as.map some ++ List.replicate (M.2.2.1 - as.length) none = L) (K : AW G M d N S n sl P 0 L [] n sl h) : zMt G d M as n sl h N S P := by
  subst hL
  refine ⟨hN, hSl, fun l => ?_⟩
  refine Met.ofW (cc := M.2.1) (maxL := M.2.2.1) (ret := M.2.2.2) hy rfl ?_
  intro p e s m args below meth c s₁ B hml hv
  obtain ⟨rfl, hI, hZ⟩ := hv
  have hts := atoms_spec (ws := .code M.1 M.2.1 M.2.2.1 M.2.2.2 :: lw_ok) B.pre
  have hcat : ∀ v ∈ as.map (zV G), v.category = 1 := fun v hv => by
    obtain ⟨w, hw, rfl⟩ := List.mem_map.mp hv
    rw [zV_cat]
    exact hc1 w hw
  have e0 : ∀ l : List Value, (∀ v ∈ l, v.category = 1) → lg_sl l = l.map Slot.val := by
    intro l
    induction l with
    | nil => intro _; rfl
    | cons v t ih =>
      intro h1
      have h2 : ¬ v.category = 2 := by
        rw [h1 v List.mem_cons_self]
        decide
      have h3 := ih (fun w hw => h1 w (List.mem_cons_of_mem _ hw))
      simp only [lg_sl, List.flatMap_cons, List.map_cons] at h3 ⊢
      rw [h3]
      simp [h2]
  have hl := lv_entry (as.map (zV G)) (n := M.2.2.1) (by rw [e0 _ hcat]; simpa using hlen)
  rw [lg_entry_eq]
  generalize hls : (lg_sl (as.map (zV G)) ++ List.replicate (M.2.2.1 - (lg_sl (as.map (zV G))).length) Slot.unset).toArray = ls at hl ⊢
  have hzL : zL G M.2.2.1 (as.map some ++ List.replicate (M.2.2.1 - as.length) none) ls := by
    refine ⟨hl.1, hl.2.1, fun i v hv => ?_⟩
    rw [← hls, e0 _ hcat]
    by_cases hi : i < as.length
    · rw [List.getElem?_append_left (by simpa using hi)] at hv
      rw [List.getElem?_toArray, List.getElem?_append_left (by simpa using hi)]
      rw [List.getElem?_map] at hv ⊢
      rw [List.getElem?_map]
      cases hx : as[i]? with
      | none => rw [hx] at hv; cases hv
      | some w =>
        rw [hx] at hv
        simp at hv
        subst hv
        rfl
    · rw [List.getElem?_append_right (by simpa using hi)] at hv
      have := List.mem_of_getElem? hv
      have := List.eq_of_mem_replicate this
      cases this
  have key := K p l e s m _ below meth c s.heap [] ls ⟨B.exec, B.bytes, hml, findClass_of_methodNamed B.named, fun w hw => hts w (List.mem_cons_of_mem _ hw), B.returns, B.notSynchronized, fun h9 => (name_of_methodNamed B.named B.method).1.trans h9, hZ⟩ hI.1 hI va_S.rf hzL ⟨Nat.le_refl _, hN⟩ ⟨Nat.le_refl _, hSl⟩
  rw [Nat.sub_self, Nat.sub_self] at key
  exact key
end ZCALL
