/-! THE SEVEN ROWS OF ELEVEN: the one 'multianewarray' of the program. -/
def zmf (h0 i : Nat) : Nat → Value := fun j => if j < i then .ref (h0 + 1 + j) else .null
def zmT (T : State) (cA cB : ClassId) : Nat → State
  | 0 => T.pushCell (arrV cA 7 fun _ => .null)
  | i + 1 => ((zmT T cA cB i).pushCell (arrV cB 11 fun _ => .int 0)).setCell T.heap.size (arrV cA 7 (zmf T.heap.size (i + 1)))
theorem zmf_up (cA : ClassId) (h0 i : Nat) : (arrV cA 7 (zmf h0 i)).setSlot i (.ref (h0 + 1 + i)) = arrV cA 7 (zmf h0 (i + 1)) := by
  rw [arrV_store]
  congr 1
  funext j
  unfold updV zmf
  by_cases h : j = i
  · subst h
    rw [if_pos rfl, if_pos (Nat.lt_succ_self _)]
  · rw [if_neg h]
    by_cases h2 : j < i
    · rw [if_pos h2, if_pos (by omega)]
    · rw [if_neg h2, if_neg (by omega)]
def zmK (T : State) (cA cB : ClassId) (i : Nat) : Prop := (zmT T cA cB i).heap.size = T.heap.size + 1 + i ∧ (zmT T cA cB i).vm = T.vm ∧ (zmT T cA cB i).slotsUsed = T.slotsUsed + 7 + 11 * i ∧ (zmT T cA cB i).heap[T.heap.size]? = some (arrV cA 7 (zmf T.heap.size i)) ∧ (∀ q : Nat, q < T.heap.size → (zmT T cA cB i).heap[q]? = T.heap[q]?) ∧ ∀ j : Nat, j < i → (zmT T cA cB i).heap[T.heap.size + 1 + j]? = some (arrV cB 11 fun _ => .int 0)
theorem zm_ok (T : State) (cA cB : ClassId) : ∀ i, zmK T cA cB i
  | 0 => ⟨by simp [zmT], rfl, by simp [zmT, arrV_size], by
      show (T.heap.push _)[T.heap.size]? = _
      rw [Array.getElem?_push_size]
      congr 1, fun q hq => by
      show (T.heap.push _)[q]? = _
      rw [Array.getElem?_push, if_neg (by omega)], fun j hj => by omega⟩
  | i + 1 => by
    obtain ⟨a1, a2, a3, a4, a5, a6⟩ := zm_ok T cA cB i
    have e : ∀ q : Nat, (zmT T cA cB (i + 1)).heap[q]? = if q = T.heap.size then some (arrV cA 7 (zmf T.heap.size (i + 1))) else if q = T.heap.size + 1 + i then some (arrV cB 11 fun _ => .int 0) else (zmT T cA cB i).heap[q]? := by
      intro q
      show (((zmT T cA cB i).heap.push _).setIfInBounds T.heap.size _)[q]? = _
      rw [Array.getElem?_setIfInBounds]
      by_cases h1 : T.heap.size = q
      · subst h1
        rw [if_pos rfl, if_pos rfl, if_pos (by rw [Array.size_push, a1]; omega)]
      · rw [if_neg h1, if_neg (fun z => h1 z.symm), Array.getElem?_push, a1]
    refine ⟨?_, a2, ?_, ?_, fun q hq => ?_, fun j hj => ?_⟩
    · show (((zmT T cA cB i).heap.push _).setIfInBounds _ _).size = _
      rw [Array.size_setIfInBounds, Array.size_push, a1]
      omega
    · show (zmT T cA cB i).slotsUsed + (arrV cB 11 fun _ => .int 0).slots.size = _
      rw [a3, arrV_size]
      omega
    · rw [e, if_pos rfl]
    · rw [e, if_neg (by omega), if_neg (by omega)]
      exact a5 q hq
    · rw [e, if_neg (by omega)]
      by_cases h2 : j = i
      · rw [if_pos (by omega)]
      · rw [if_neg (by omega)]
        exact a6 j (by omega)
theorem zm_top (T : State) (g : JFrame) (cA cB : ClassId) : ∀ i, zmT (T.setTop g) cA cB i = (zmT T cA cB i).setTop g
  | 0 => rfl
  | i + 1 => by
    show ((zmT (T.setTop g) cA cB i).pushCell _).setCell T.heap.size _ = _
    rw [zm_top T g cA cB i]
    rfl
section ZM
variable {E : CtlPost} {e : Env} {d : Bool} {acts : List Action} {s : State}
theorem zmake1 {cB cI : ClassId} {kB : Class} (hkB : s.vm.classes[cB]? = some kB) (hB : kB.kind = .array cI .int) (hl : 11 ≤ e.platform.arrayLengthLimit) (hh : 44 ≤ e.platform.maxHeapBytes) (hc : s.heap.size < e.platform.maxCells) (hs : s.slotsUsed + 11 ≤ e.platform.maxSlots) {Q : Addr → Pre} (hq : ∀ acts', Q s.heap.size d acts' (s.pushCell (arrV cB 11 fun _ => .int 0))) : wp (multianewarray.make cB [11]) Q E e d acts s := by
  rw [multianewarray.make]
  simp only [wp_bind', W.ite, show ¬ ((11 : Int32) < 0) by decide, if_false, wp_pure', W.theClass, hkB, hB, Option.some.injEq, exists_eq_left']
  refine W.newArray_of hkB hB (by show ¬ 11 > _; omega) (by show ¬ 11 * 4 > _; omega) hc hs (by rfl) (fun acts' => ?_)
  have := hq acts'
  rw [← arrV_new] at this
  exact this
theorem zmake {cA cB cI : ClassId} {kA kB : Class} (hkA : s.vm.classes[cA]? = some kA) (hA : kA.kind = .array cB (.array .int)) (hkB : s.vm.classes[cB]? = some kB) (hB : kB.kind = .array cI .int) (hl : 11 ≤ e.platform.arrayLengthLimit) (hh : 44 ≤ e.platform.maxHeapBytes) (hc : s.heap.size + 8 ≤ e.platform.maxCells) (hs : s.slotsUsed + 84 ≤ e.platform.maxSlots) {Q : Addr → Pre} (hq : ∀ d' acts', Q s.heap.size d' acts' (zmT s cA cB 7)) : wp (multianewarray.make cA [7, 11]) Q E e d acts s := by
  rw [multianewarray.make]
  simp only [wp_bind', W.ite, show ¬ ((7 : Int32) < 0) by decide, if_false, wp_pure', W.theClass, hkA, hA, Option.some.injEq, exists_eq_left']
  refine W.newArray_of hkA hA (by show ¬ 7 > _; omega) (by show ¬ 7 * 4 > _; omega) (by omega) (by show s.slotsUsed + 7 ≤ _; omega) (by rfl) (fun acts' => ?_)
  have e0 : s.pushCell { cls := cA, slots := Array.replicate (7 : Int32).toNatClampNeg .null } = zmT s cA cB 0 := by
    show _ = s.pushCell (arrV cA 7 fun _ => .null)
    rw [arrV_new]
    rfl
  rw [e0]
  have e1 : (7 : Int32).toNatClampNeg = 7 := by decide
  have e2 : ([11] : List Int32).find? (fun x => decide (x < 0)) = none := by decide
  simp only [e1, e2]
  rw [ite_self, wp_bind', Std.Legacy.Range.forIn_eq_forIn_range']
  show wp (forIn (List.range' 0 7 1) PUnit.unit _) _ E e d acts' _
  refine wp_forIn_inv (fun rest s' => ∃ i, i ≤ 7 ∧ rest = List.range' i (7 - i) ∧ s' = zmT s cA cB i) _ _ ⟨0, by omega, rfl, rfl⟩ ?_ ?_
  · rintro x rest s' d' acts'' Q' ⟨i, hi, hr, rfl⟩ hnext
    have hlt : i < 7 := by
      rcases Nat.lt_or_ge i 7 with h | h
      · exact h
      · rw [show 7 - i = 0 by omega] at hr
        cases hr
    have hr2 : 7 - i = (7 - (i + 1)) + 1 := by omega
    rw [hr2, List.range'_succ] at hr
    obtain ⟨rfl, hrest⟩ := List.cons.inj hr
    obtain ⟨a1, a2, a3, a4, a5, a6⟩ := zm_ok s cA cB x
    simp only [wp_bind']
    refine zmake1 (by rw [a2]; exact hkB) hB hl hh (by rw [a1]; omega) (by rw [a3]; omega) (fun acts3 => ?_)
    simp only [wp_bind', W.writeLoc, wp_pure']
    have hv : (((zmT s cA cB x).pushCell (arrV cB 11 fun _ => .int 0)).heap)[s.heap.size]? = some (arrV cA 7 (zmf s.heap.size x)) := by
      show ((zmT s cA cB x).heap.push _)[s.heap.size]? = _
      rw [Array.getElem?_push, if_neg (by rw [a1]; omega)]
      exact a4
    refine ⟨_, hv, (fun h => by cases h), (by rw [arrV_size]; exact hlt), ?_, hnext _ _ _ ⟨x + 1, hlt, hrest, ?_⟩⟩
    · show State.fitsSlot ((zmT s cA cB x).pushCell _) cA .none x _ = true
      simp [State.fitsSlot, State.slotType?, a2, hkA, hA, fits]
    · rw [a1, zmf_up]
      rfl
  · rintro s' d' acts'' ⟨i, hi, hr, rfl⟩
    have h7 : i = 7 := by
      rcases Nat.lt_or_ge i 7 with h | h
      · rw [show 7 - i = (7 - (i + 1)) + 1 by omega, List.range'_succ] at hr
        cases hr
      · omega
    subst h7
    simp only [wp_pure']
    exact hq _ _
end ZM
section ZMW
variable {p : Program} {l : Launch} {e : Env} {R : Room} {s : State} {m : MethodId} {args : Array Value} {below : List Frame} {meth : Method} {c : Code} {H : Heap} {locs : List Loc} {cells slots : Nat} {Q : State → Prop}
def zmL (h0 i : Nat) : List Loc := (List.range i).map fun j => ⟨h0, j⟩
theorem zm_stand {T : State} (X : Stand p l e R s m args below meth c T locs cells slots) (cA cB : ClassId) : ∀ i, Stand p l e R s m args below meth c (zmT T cA cB i) (locs ++ zmL T.heap.size i) (cells + 1 + i) (slots + 7 + 11 * i)
  | 0 => by
    have h := X.pushed (arrV cA 7 fun _ => .null)
    rw [arrV_size] at h
    simpa [zmL, zmT] using h
  | i + 1 => by
    have h := (zm_stand X cA cB i).pushed (arrV cB 11 fun _ => .int 0)
    obtain ⟨a1, a2, a3, a4, a5, a6⟩ := zm_ok T cA cB i
    have hv : (((zmT T cA cB i).pushCell (arrV cB 11 fun _ => .int 0)).heap)[T.heap.size]? = some (arrV cA 7 (zmf T.heap.size i)) := by
      show ((zmT T cA cB i).heap.push _)[T.heap.size]? = _
      rw [Array.getElem?_push, if_neg (by rw [a1]; omega)]
      exact a4
    have h2 := h.stored hv i (.ref (T.heap.size + 1 + i))
    rw [zmf_up, arrV_size] at h2
    have e1 : locs ++ zmL T.heap.size (i + 1) = (locs ++ zmL T.heap.size i) ++ [⟨T.heap.size, i⟩] := by
      unfold zmL
      rw [List.range_succ, List.map_append, List.append_assoc]
      rfl
    have e2 : slots + 7 + 11 * (i + 1) = slots + 7 + 11 * i + 11 := by omega
    rw [e1, e2]
    exact h2
theorem zm_row {cc : ByteArray} (hexec : p.tables.exec = Jvm.exec) (hb : c.code = cc) {own : String} {index : Nat} (hown : s.vm.findClass own = some m.cls) (hlink : (Cond.classLink own index "[[I").before args s = true) (hover : zAOA s) (harr : (Cond.arrayClass .int).before args s = true)
    {g : JFrame} (hg : g.method = m) (hdg : decode cc g.pc = .ok (.multianewarray index 2, 4)) {rest : List Value} (hstack : g.stack = .int 11 :: .int 7 :: rest) (hcells : cells + 8 ≤ R.cells) (hslots : slots + 84 ≤ R.slots)
    (kk : ∀ (H1 : Heap) (cA cB : ClassId), s.vm.findClass "[[I" = some cA → s.vm.findClass "[I" = some cB → H1.size = H.size + 8 → (∀ q : Nat, q < H.size → H1[q]? = H[q]?) → H1[H.size]? = some (arrV cA 7 (zmf H.size 7)) → (∀ j : Nat, j < 7 → H1[H.size + 1 + j]? = some (arrV cB 11 fun _ => .int 0)) →
      W p l e R s m args below meth c H1 (locs ++ zmL H.size 7) (cells + 8) (slots + 84) Q { g with pc := g.pc + 4, stack := .ref H.size :: rest }) : W p l e R s m args below meth c H locs cells slots Q g := by
  intro T hT X
  subst hT; subst hb; subst hg
  have hpl : e.platform.magicAccessors = ({} : Platform).magicAccessors := by rw [X.admits.platform]
  obtain ⟨cB, cA, kA, hB, -, hkA, hkindA, hnA⟩ := arrayOverA_spec hover
  obtain ⟨cB', kB, cI, hB', hkB, hkindB⟩ := Cond.arrayClass_spec harr
  have eB : cB' = cB := Option.some.inj (hB'.symm.trans hB)
  subst eB
  obtain ⟨c0, hc0, hcl⟩ := Cond.classLink_spec hown hlink e.platform hpl
  have eA : cA = c0 := Option.some.inj (hnA.symm.trans hc0)
  subst eA
  obtain ⟨hg1, hW1, -⟩ := State.classEntry (e := e) X.warmed hcl
  generalize T.vm.noted g.method.cls index (.cls cA) = vm1 at hg1 hW1
  obtain ⟨kA1, hkA1, eA1⟩ := hW1.alike.2.2 _ _ hkA
  obtain ⟨kB1, hkB1, eB1⟩ := hW1.alike.2.2 _ _ hkB
  have kA9 : kA1.kind = .array cB' (.array .int) := by rw [eA1]; exact hkindA
  have kB9 : kB1.kind = .array cI .int := by rw [eB1]; exact hkindB
  have X1 := X.noted hW1
  obtain ⟨r1, r2⟩ := X.roomAbove hcells hslots
  have XF := zm_stand X1 cA cB' 7
  obtain ⟨a1, a2, a3, a4, a5, a6⟩ := zm_ok (T.setVm vm1) cA cB' 7
  obtain ⟨t, b1, b2⟩ := kk _ cA cB' hnA hB a1 a5 a4 a6 _ rfl XF
  refine ⟨t, ?_, b2⟩
  jvm_step X.here [hexec, hdg]
  simp only [multianewarray.sem, wp_bind', W.resolveClassAt_links (State.method?_setTop g X.here.top) hg1]
  rw [W.popN, if_neg (by decide)]
  refine ⟨g, State.topJava?_setTop' (s := T.setVm vm1) g X.here.top, [.int 7, .int 11], rest, rfl, hstack, ?_⟩
  simp only [List.mapM_cons, List.mapM_nil, wp_bind', wp_pure']
  refine zmake (s := ((T.setTop g).setVm vm1).setTop { g with stack := rest }) hkA1 kA9 hkB1 kB9 (by rw [Launch.admits_arrayLengthLimit X.admits]; decide) (by rw [Launch.admits_maxHeapBytes X.admits]; decide) r1 r2 (fun d' acts' => ?_)
  have eS : ((T.setTop g).setVm vm1).setTop { g with stack := rest } = (T.setVm vm1).setTop { g with stack := rest } := by
    show ((T.setVm vm1).setTop g).setTop _ = _
    rw [State.setTop_setTop]
  rw [eS, zm_top]
  simp only [wp_bind', W.mark, W.pushRef, State.topJava?_setTop' _ XF.here.top, Option.some.injEq, exists_eq_left', State.setTop_setTop]
  intro acts
  simp [jvm, XF.here.top]
  exact b1
end ZMW
section ZMA
variable {G : zG} {M : zM} {d N S n0 s0 : Nat} {P : Option Value → zH → Prop} {pc q : Nat} {L L' : List (Option Value)} {st stk : List Value} {n sl : Nat} {h h' : zH}
def zmC (n : Nat) : List va_E := (.inl (4, 7, .inr (.inr (.inr (.inr fun j => some (n + 1 + j))))) : va_E) :: List.replicate 7 (.inl (0, 11, .inl fun _ => 0))
theorem zmC_at {n k : Nat} (hk : k < 7) : (zmC n)[k + 1]? = some (.inl (0, 11, .inl fun _ => 0)) := by
  show (List.replicate 7 _)[k]? = _
  rw [List.getElem?_replicate, if_pos hk]
theorem aw_mana {idx : Nat} (hd : decode M.2.1 pc = .ok (.multianewarray idx 2, 4)) (hq : pc + 4 = q) (hl : Cond.classLink M.1.cls idx "[[I" ∈ lw_ok) (hn9 : n + 8 ≤ 1000000) (hN : n + 8 ≤ N) (hS' : sl + 84 ≤ S) (hH : zov h n (zmC n) = h') (K : AW G M d N S n0 s0 P q L (.ref n :: st) (n + 8) (sl + 84) h') : AW G M d N S n0 s0 P pc L (.int 11 :: .int 7 :: st) n sl h := by
  subst hq
  subst hH
  intro p l e s m args below meth c H locs ls C hs hI hS hl9 hn hsl
  have hZ : zS G s s.heap := C.2.2.2.2.2.2.2.2
  refine zm_row C.1 C.2.1 C.2.2.2.1 (C.2.2.2.2.1 _ hl) hZ.2.2.2.2.2.2.2.2.2.1 (C.2.2.2.2.1 _ (zk_at 2 rfl)) rfl hd rfl (by show n - n0 + 8 ≤ N - n0; omega) (by show sl - s0 + 84 ≤ S - s0; omega) fun H1 cA cB f1 f2 z1 o1 e1 e2 => ?_
  have hA : cA = G.2.2.2 4 := Option.some.inj (f1.symm.trans (hZ.1.2 4 (G.2.2.2 4, .array .int) rfl).2)
  have hB : cB = G.2.2.2 0 := Option.some.inj (f2.symm.trans (hZ.1.2 0 (G.2.2.2 0, .int) rfl).2)
  subst hA
  subst hB
  rw [hI.1] at e1 e2 z1 o1
  have hI1 : zI G (n + 8) (zov h n (zmC n)) H1 := by
    refine ⟨by omega, hn9, fun k x hx => ?_⟩
    obtain ⟨hk, rfl⟩ := zWl_inv hx
    by_cases h1 : k < n
    · rw [zov_lo h1]
      have hold := hI.2.2 k _ (zWl_get h1)
      exact hold.kept (o1 (G.1 + k) (by omega))
    · obtain ⟨j, rfl⟩ : ∃ j, k = n + j := ⟨k - n, by omega⟩
      cases j with
      | zero =>
        rw [zov_at (k := 0) rfl (c := zmC n) rfl]
        show H1[G.1 + n]? = some (vp_cell _ _)
        rw [e1]
        refine congrArg some ?_
        show arrV _ 7 _ = arrV _ 7 (fun j => va_rf ((some (n + 1 + j)).map (zA G)))
        unfold arrV
        congr 2
        funext j
        have hj : j.val < 7 := j.isLt
        show zmf (G.1 + n) 7 j.val = va_rf ((some (n + 1 + j.val)).map (zA G))
        unfold zmf
        rw [if_pos hj]
        show _ = Value.ref (zA G (n + 1 + j.val))
        rw [zA_in (by omega), show G.1 + (n + 1 + j.val) = G.1 + n + 1 + j.val by omega]
      | succ j =>
        rw [zov_at (k := j + 1) rfl (zmC_at (by omega))]
        show H1[G.1 + (n + (j + 1))]? = some (vp_cell _ _)
        have := e2 j (by omega)
        rw [show G.1 + n + 1 + j = G.1 + (n + (j + 1)) by omega] at this
        exact this
  have hS1 : va_S (fun q => G.1 ≤ q) s.heap H1 (locs ++ zmL H.size 7) := by
    have h9 := zS_push hS hI.1 (by omega) o1
    refine ⟨h9.1, h9.2.1, fun x hx => ?_⟩
    rcases List.mem_append.mp hx with h | h
    · exact hS.2.2 x h
    · obtain ⟨j, -, rfl⟩ := List.mem_map.mp h
      show G.1 ≤ H.size
      rw [hI.1]
      omega
  have key := K p l e s m args below meth c H1 _ ls C hs hI1 hS1 hl9 ⟨by omega, hN⟩ ⟨by omega, hS'⟩
  have e1 : n + 8 - n0 = n - n0 + 8 := by omega
  have e2 : sl + 84 - s0 = sl - s0 + 84 := by omega
  rw [e1, e2] at key
  have e3 : (.ref n :: st : List Value).map (zV G) = .ref H.size :: st.map (zV G) := by
    show Value.ref (zA G n) :: _ = _
    rw [zA_in (by omega), hI.1]
  rw [e3] at key
  exact key
end ZMA
