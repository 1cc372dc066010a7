/-! THE TYPED MACHINE, part one: an own judgement over worlds of numbered cells. AW says: from this pc, with these locals, stack and cells, the method goes on to its end with P. -/
abbrev zG : Type := Nat × (Nat → Nat) × va_G × (Nat → ClassId)
def zA (G : zG) (k : Nat) : Nat := if k < 1000000 then G.1 + k else G.2.1 (k - 1000000)
def zV (G : zG) : Value → Value := fun v => match v with
  | .ref k => .ref (zA G k)
  | v => v
def zX (G : zG) : vp_A → vp_A := fun x => match x with
  | (n, .inr (.inr (.inr (.inr f)))) => (n, .inr (.inr (.inr (.inr (fun j => (f j).map (zA G))))))
  | x => x
def zE (G : zG) : va_E → va_E := fun e => match e with
  | .inl (t, x) => .inl (G.2.2.2 t, zX G x)
  | .inr (ci, fs) => .inr (ci, fs.map (zV G))
abbrev zH : Type := Nat → va_E
def zu (h : zH) (a : Nat) (e : va_E) : zH := fun j => if j = a then e else h j
def zWl (G : zG) (n : Nat) (h : zH) : va_W := (List.range n).map fun i => (G.1 + i, zE G (h i))
def lw_ok : List Cond := lw_tbl.filter goodWord
theorem lw_ok_tbl {w : Cond} (h : w ∈ lw_ok) : w ∈ lw_tbl := (List.mem_filter.mp h).1
theorem lw_ok_good {w : Cond} (h : w ∈ lw_ok) : (w.onTables && w.keeps) = true ∨ ∃ ty, w = .arrayClass ty := good_of_word (List.mem_filter.mp h).2
theorem lw_ok_of {w : Cond} (i : Nat) (h : tables_1[i]? = some w) (g : goodWord w = true) : w ∈ lw_ok := List.mem_filter.mpr ⟨List.mem_append_right _ (List.mem_of_getElem? h), g⟩
theorem lw_ok_sel {w : Cond} (i : Nat) (h : (k2_sels lw_privs)[i]? = some w) (g : goodWord w = true) : w ∈ lw_ok := List.mem_filter.mpr ⟨List.mem_append_left _ (List.mem_of_getElem? h), g⟩
def zNl : List (String × Nat × MethodName) := [(RX6, 18, yX3_init), (RX0, 77, yX6_hasBit), (RX0, 81, yX6_isPin), (RX5, 78, yX6_hasBit), (RX2, 36, yX6_hasBit)]
abbrev zM : Type := MethodName × ByteArray × Nat × Option FieldType
def zTy (G : zG) : List (ClassId × FieldType) := [(G.2.2.2 0, .int), (G.2.2.2 1, .char), (G.2.2.2 2, .object RX4), (G.2.2.2 3, .object RX5), (G.2.2.2 4, .array .int)]
theorem zV_cat (G : zG) (v : Value) : (zV G v).category = v.category := by cases v <;> rfl
theorem zV_cats (G : zG) (l : List Value) : ((l.map (zV G)).map fun v => v.category) = l.map fun v => v.category := by
  rw [List.map_map]
  exact List.map_congr_left fun v _ => zV_cat G v
theorem zA_in {G : zG} {a : Nat} (h : a < 1000000) : zA G a = G.1 + a := if_pos h
theorem zWl_get {G : zG} {n i : Nat} {h : zH} (hi : i < n) : (zWl G n h)[i]? = some (G.1 + i, zE G (h i)) := by
  unfold zWl
  rw [List.getElem?_map, List.getElem?_range hi]
  rfl
theorem zWl_len {G : zG} {n : Nat} {h : zH} : (zWl G n h).length = n := by simp [zWl]
theorem zWl_inv {G : zG} {n i : Nat} {h : zH} {q : Nat × va_E} (hq : (zWl G n h)[i]? = some q) : i < n ∧ q = (G.1 + i, zE G (h i)) := by
  have hi : i < n := by
    have := (List.getElem?_eq_some_iff.mp hq).1
    rwa [zWl_len] at this
  rw [zWl_get hi] at hq
  exact ⟨hi, (Option.some.inj hq).symm⟩
theorem zWl_at {G : zG} {n a : Nat} {h : zH} {e : va_E} (hn : n ≤ 1000000) (ha : a < n) (hh : h a = e) : (zWl G n h)[a]? = some (zA G a, zE G e) := by
  rw [zWl_get ha, zA_in (by omega), hh]
theorem zWl_set {G : zG} {n a : Nat} {h : zH} {e : va_E} (hn : n ≤ 1000000) (ha : a < n) : (zWl G n h).set a (zA G a, zE G e) = zWl G n (zu h a e) := by
  apply List.ext_getElem?
  intro j
  rw [zA_in (by omega), List.getElem?_set]
  by_cases hj : j < n
  · rw [zWl_get hj, zWl_len]
    by_cases hja : a = j
    · subst hja
      rw [if_pos rfl, if_pos ha, zWl_get ha]
      simp [zu]
    · rw [if_neg hja, zWl_get hj]
      simp [zu, show ¬ j = a from fun q => hja q.symm]
  · have e1 : (zWl G n h)[j]? = none := List.getElem?_eq_none (by rw [zWl_len]; omega)
    have e2 : (zWl G n (zu h a e))[j]? = none := List.getElem?_eq_none (by rw [zWl_len]; omega)
    rw [e2, if_neg (show ¬ a = j by omega), e1]
theorem zWl_push {G : zG} {n : Nat} {h : zH} {e : va_E} : zWl G n h ++ [(G.1 + n, zE G e)] = zWl G (n + 1) (zu h n e) := by
  unfold zWl
  rw [List.range_succ, List.map_append]
  congr 1
  · apply List.map_congr_left
    intro i hi
    have := List.mem_range.mp hi
    simp [zu, show ¬ i = n by omega]
  · simp [zu]
theorem zWl_D {G : zG} {n : Nat} {h : zH} : va_D (fun q => G.1 ≤ q) (zWl G n h) := by
  refine ⟨fun i j p q hi hj e => ?_, fun k q hk => ?_⟩
  · obtain ⟨h1, rfl⟩ := zWl_inv hi
    obtain ⟨h2, rfl⟩ := zWl_inv hj
    have : G.1 + i = G.1 + j := e
    omega
  · obtain ⟨h1, rfl⟩ := zWl_inv hk
    exact Nat.le_add_right _ _
/-- the cells stand in the heap, and the heap ends with them -/
def zI (G : zG) (n : Nat) (h : zH) (H : Heap) : Prop := H.size = G.1 + n ∧ n ≤ 1000000 ∧ va_P G.2.2.1 vwCl (zWl G n h) H
def zAOA (U : State) : Prop := (Cond.arrayOver (.array .int)).before #[] U = true
theorem zAOA.moved {u U : State} (hvm : u.vm.Alike U.vm) (h : zAOA u) : zAOA U := by
  obtain ⟨comp, c, k, h1, h2, h3, h4, h5⟩ := arrayOverA_spec h
  obtain ⟨k', hk', he⟩ := hvm.2.2 _ _ h3
  have hi : (U.vm.classes.findIdx? fun (x : Class) => match x.kind with | .array component _ => component == comp | _ => false) = some c := by
    rw [hvm.findIdx?_eq _ (fun _ => rfl)]
    exact h2
  have hkind : k'.kind = .array comp (.array .int) := by rw [he]; exact h4
  have f1 : U.vm.findClass (FieldType.array .int).toString = some comp := by rw [hvm.findClass]; exact h1
  have f2 : U.vm.findClass ("[" ++ (FieldType.array .int).toString) = some c := by rw [hvm.findClass]; exact h5
  unfold zAOA Cond.before Cond.holds
  simp only [Cond.value]
  rw [f1, Option.bind_some]
  refine (congrArg (fun o : Option Nat => (o.bind (fun c => (U.vm.classes[c]?).map fun (k : Class) => match k.kind with | .array _ ty => decide (ty = FieldType.array .int) && decide (U.vm.findClass ("[" ++ (FieldType.array .int).toString) = some c) | _ => false) == some true)) hi).trans ?_
  simp [hk', hkind, f2]
/-- the law's script -/
def zScr (G : zG) (U : State) (H : Heap) : Prop := va_X (G.2.1 30) (G.2.1 31) (fun j => nI (G.2.1 (1000 + j))) U H ∧ G.2.1 30 < G.1 ∧ True
/-- what is taken from the tables and from outside: classes, static rows, texts -/
def zS (G : zG) (U : State) (H : Heap) : Prop :=
  va_K G.2.2.1 vwCl (zTy G) U ∧ G.1 ≤ H.size ∧ True ∧ True ∧ True ∧ True ∧
  (∀ q ∈ zNl, va_Nw (.methodLinkNest q.1 q.2.1 q.2.2 RX6) U) ∧ va_AO RX4 U ∧ va_AO RX5 U ∧ zAOA U ∧ zScr G U H
theorem zS.go {G : zG} {s U : State} {H H1 : Heap} (h : zS G s H) (hW : s.WarmedH U.vm) (hz : H.size ≤ H1.size) (hq : ∀ a : Nat, a < H.size → ¬ G.1 ≤ a → H1[a]? = H[a]?) : zS G U H1 := by
  obtain ⟨h1, h2, -, -, -, -, h7, h8, h9, h10, h11, h12, -⟩ := h
  have hv := hW.alike
  exact ⟨va_K.moved hv h1, Nat.le_trans h2 hz, trivial, trivial, trivial, trivial, fun q hq => va_Nw.warmM hW (h7 q hq), h8.moved hv, h9.moved hv, h10.moved hv, (h11.moved hv).kept (hq _ (Nat.lt_of_lt_of_le h12 h2) (Nat.not_le.mpr h12)), h12, trivial⟩
def zQ (G : zG) (N : Nat) (P : Option Value → zH → Prop) : Array Value → State → Outcome → State → Prop := fun _ st oc t =>
  (∃ (r : Option Value) (h' : zH), oc = .returned (r.map (zV G)) ∧ P r h' ∧ zI G N h' t.heap) ∧ va_F (fun q => G.1 ≤ q) st t
/-- a method's contract over cells -/
def zMt (G : zG) (d : Nat) (M : zM) (as : List Value) (n sl : Nat) (h : zH) (N S : Nat) (P : Option Value → zH → Prop) : Prop :=
  n ≤ N ∧ sl ≤ S ∧ ∀ l : Launch, Met l M.1 (.code M.1 M.2.1 M.2.2.1 M.2.2.2 :: lw_ok) { frames := d, cells := N - n, slots := S - sl, locals := 40 * d } (va_Pc (as.map (zV G)) (fun U => zI G n h U.heap ∧ zS G U U.heap)) (zQ G N P) (N - n) (S - sl) (fun q => G.1 ≤ q)
def zL (G : zG) (nL : Nat) (L : List (Option Value)) (ls : Array Slot) : Prop := ls.size = nL ∧ lv_wf ls ∧ ∀ (i : Nat) (v : Value), L[i]? = some (some v) → ls[i]? = some (.val (zV G v))
def zC (G : zG) (M : zM) (p : Program) (s : State) (m : MethodId) (args : Array Value) (meth : Method) (c : Code) : Prop :=
  p.tables.exec = Jvm.exec ∧ c.code = M.2.1 ∧ c.maxLocals = M.2.2.1 ∧ s.vm.findClass M.1.cls = some m.cls ∧ (∀ w ∈ lw_ok, w.before args s = true) ∧ meth.sig.returnType = M.2.2.2 ∧ meth.locks = false ∧ (M.1.name = "<init>" → meth.name = "<init>") ∧ zS G s s.heap
def AW (G : zG) (M : zM) (d N S n0 s0 : Nat) (P : Option Value → zH → Prop) (pc : Nat) (L : List (Option Value)) (st : List Value) (n sl : Nat) (h : zH) : Prop :=
  ∀ (p : Program) (l : Launch) (e : Env) (s : State) (m : MethodId) (args : Array Value) (below : List Frame) (meth : Method) (c : Code) (H : Heap) (locs : List Loc) (ls : Array Slot),
    zC G M p s m args meth c → s.heap.size = G.1 + n0 → zI G n h H → va_S (fun q => G.1 ≤ q) s.heap H locs → zL G M.2.2.1 L ls → (n0 ≤ n ∧ n ≤ N) → (s0 ≤ sl ∧ sl ≤ S) →
    W p l e { frames := d, cells := N - n0, slots := S - s0, locals := 40 * d } s m args below meth c H locs (n - n0) (sl - s0) (MQ below (zQ G N P) args s (N - n0) (S - s0) (fun q => G.1 ≤ q)) (F0 m pc ls (st.map (zV G)))
theorem zL_at {G : zG} {nL i : Nat} {L : List (Option Value)} {ls : Array Slot} {v : Value} (h : zL G nL L ls) (hL : L[i]? = some (some v)) : ls[i]? = some (.val (zV G v)) := h.2.2 i v hL
def zas (G : zG) (L : List (Option Value)) : List (Nat × Value) := (List.range L.length).filterMap fun i => match L[i]? with
  | some (some v) => some (i, zV G v)
  | _ => none
theorem zas_in {G : zG} {L : List (Option Value)} {i : Nat} {v : Value} (h : L[i]? = some (some v)) : (i, zV G v) ∈ zas G L := by
  refine List.mem_filterMap.mpr ⟨i, List.mem_range.mpr (List.getElem?_eq_some_iff.mp h).1, ?_⟩
  simp only [h]
theorem zas_of {G : zG} {L : List (Option Value)} {q : Nat × Value} (h : q ∈ zas G L) : ∃ v, L[q.1]? = some (some v) ∧ q.2 = zV G v := by
  obtain ⟨i, -, hi⟩ := List.mem_filterMap.mp h
  split at hi
  · rename_i v hv
    cases hi
    exact ⟨v, hv, rfl⟩
  · cases hi
theorem zL_has {G : zG} {nL : Nat} {L : List (Option Value)} {ls : Array Slot} (h : zL G nL L ls) : lv_has ls nL (zas G L) := by
  refine ⟨h.1, h.2.1, fun q hq => ?_⟩
  obtain ⟨v, h1, h2⟩ := zas_of hq
  rw [h2]
  exact h.2.2 _ _ h1
def zok (L : List (Option Value)) (i : Nat) : Bool := match i with
  | 0 => true
  | j + 1 => match L[j]? with
    | some (some (.long _)) => false
    | some (some (.double _)) => false
    | _ => true
theorem zok_cat {L : List (Option Value)} {i j : Nat} {v : Value} (h : zok L i = true) (hj : j + 1 = i) (hv : L[j]? = some (some v)) : ¬ v.category = 2 := by
  subst hj
  intro hc
  change (match L[j]? with
    | some (some (.long _)) => false
    | some (some (.double _)) => false
    | _ => true) = true at h
  rw [hv] at h
  cases v <;> simp_all [Value.category]
theorem zL_store1 {G : zG} {nL i : Nat} {L : List (Option Value)} {ls' : Array Slot} {v : Value} (hok : zok L i = true) (h : lv_has ls' nL ((i, zV G v) :: (zas G L).filter (fun q => !(q.1 == i) && !(q.1 + 1 == i && q.2.category == 2)))) : zL G nL (L.set i (some v)) ls' := by
  refine ⟨h.1, h.2.1, fun j w hw => ?_⟩
  rw [List.getElem?_set] at hw
  by_cases hij : i = j
  · subst hij
    rw [if_pos rfl] at hw
    split at hw
    · have : v = w := by simpa using hw
      subst this
      exact h.2.2 _ List.mem_cons_self
    · cases hw
  · rw [if_neg hij] at hw
    refine h.2.2 (j, zV G w) (List.mem_cons_of_mem _ (List.mem_filter.mpr ⟨zas_in hw, ?_⟩))
    have h1 : ¬ j = i := fun q => hij q.symm
    by_cases h2 : j + 1 = i
    · have := zok_cat hok h2 hw
      simp [h1, zV_cat, this]
    · simp [h1, h2]
theorem zL_store2 {G : zG} {nL i : Nat} {L : List (Option Value)} {ls' : Array Slot} {v : Value} (hok : zok L i = true) (h : lv_has ls' nL ((i, zV G v) :: (zas G L).filter (fun q => !(q.1 == i) && (!(q.1 == i + 1) && !(q.1 + 1 == i && q.2.category == 2))))) : zL G nL ((L.set i (some v)).set (i + 1) none) ls' := by
  refine ⟨h.1, h.2.1, fun j w hw => ?_⟩
  rw [List.getElem?_set] at hw
  by_cases hij1 : i + 1 = j
  · subst hij1
    rw [if_pos rfl] at hw
    split at hw
    · simp at hw
    · cases hw
  · rw [if_neg hij1, List.getElem?_set] at hw
    by_cases hij : i = j
    · subst hij
      rw [if_pos rfl] at hw
      split at hw
      · have : v = w := by simpa using hw
        subst this
        exact h.2.2 _ List.mem_cons_self
      · cases hw
    · rw [if_neg hij] at hw
      refine h.2.2 (j, zV G w) (List.mem_cons_of_mem _ (List.mem_filter.mpr ⟨zas_in hw, ?_⟩))
      have h1 : ¬ j = i := fun q => hij q.symm
      have h3 : ¬ j = i + 1 := fun q => hij1 q.symm
      by_cases h2 : j + 1 = i
      · have := zok_cat hok h2 hw
        simp [h1, h3, zV_cat, this]
      · simp [h1, h2, h3]
/-- fewer locals are known -/
def zle : List (Option Value) → List (Option Value) → Prop
  | [], _ => True
  | none :: a, b => zle a b.tail
  | some v :: a, b => b.head? = some (some v) ∧ zle a b.tail
theorem zle_at : ∀ {a b : List (Option Value)}, zle a b → ∀ (i : Nat) (v : Value), a[i]? = some (some v) → b[i]? = some (some v)
  | [], _, _, i, v, h => by simp at h
  | none :: a, b, hl, 0, v, h => by simp at h
  | none :: a, [], hl, i + 1, v, h => by
    have := zle_at (a := a) (b := []) hl i v (by simpa using h)
    simp at this
  | none :: a, y :: b, hl, i + 1, v, h => by
    have := zle_at (a := a) (b := b) hl i v (by simpa using h)
    simpa using this
  | some w :: a, [], hl, i, v, h => by
    have := hl.1
    simp at this
  | some w :: a, y :: b, hl, 0, v, h => by
    have h1 : y = some w := by simpa using hl.1
    have h2 : w = v := by simpa using h
    subst h2; subst h1; rfl
  | some w :: a, y :: b, hl, i + 1, v, h => by
    have := zle_at (a := a) (b := b) hl.2 i v (by simpa using h)
    simpa using this
