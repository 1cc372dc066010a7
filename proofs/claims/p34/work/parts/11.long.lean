/-! LONGS: an answer, an argument; a quotient. -/
section ZR5
variable {G : zG} {M : zM} {d N S n0 s0 : Nat} {P : Option Value → zH → Prop} {pc q : Nat} {L L' : List (Option Value)} {st stk as : List Value} {n sl : Nat} {h h' : zH}
theorem aw_idiv {x y : Int32} (hd : decode M.2.1 pc = .ok (.idiv, 1)) (hq : pc + 1 = q) (hne : ¬ y = 0) (K : AW G M d N S n0 s0 P q L (.int (x / y) :: st) n sl h) : AW G M d N S n0 s0 P pc L (.int y :: .int x :: st) n sl h := by
  subst hq
  intro p l e s m args below meth c H locs ls C hs hI hS hl hn hsl
  exact lv_idiv C.1 C.2.1 hd hne (K p l e s m args below meth c H locs ls C hs hI hS hl hn hsl)
theorem aw_lret {x : Int64} (hd : decode M.2.1 pc = .ok (.lreturn, 1)) (hr : M.2.2.2 = some .long) (hN : n = N) (hSl : sl = S) (hP : P (some (.long x)) h) : AW G M d N S n0 s0 P pc L [.long x] n sl h := by
  subst hN
  subst hSl
  intro p l e s m args below meth c H locs ls C hs hI hS hl hn hsl
  exact W.lret (v := x) C.1 C.2.1 (C.2.2.2.2.2.1.trans hr) (fun t ht hW => ⟨⟨some (.long x), h, rfl, hP, by rw [ht]; exact hI⟩, hS.F ht⟩) hS.2.2 hd C.2.2.2.2.2.2.1
/-- the locals that a call's arguments make -/
def zLof : List Value → List (Option Value)
  | [] => []
  | v :: vs => if v.category = 2 then some v :: none :: zLof vs else some v :: zLof vs
theorem zLof_at : ∀ (vs : List Value) (k i : Nat) (v : Value), (zLof vs)[i]? = some (some v) → (k + i, v) ∈ lv_args k vs
  | [], k, i, v, h => by simp [zLof] at h
  | w :: vs, k, i, v, h => by
    unfold zLof at h
    unfold lv_args
    by_cases hw : w.category = 2
    · rw [if_pos hw] at h ⊢
      match i, h with
      | 0, h =>
        have : w = v := by simpa using h
        subst this
        exact List.mem_cons_self
      | 1, h => simp at h
      | i + 2, h =>
        have h9 : (zLof vs)[i]? = some (some v) := by simpa using h
        have := zLof_at vs (k + 2) i v h9
        rw [show k + (i + 2) = k + 2 + i by omega]
        exact List.mem_cons_of_mem _ this
    · rw [if_neg hw] at h ⊢
      match i, h with
      | 0, h =>
        have : w = v := by simpa using h
        subst this
        exact List.mem_cons_self
      | i + 1, h =>
        have h9 : (zLof vs)[i]? = some (some v) := by simpa using h
        have := zLof_at vs (k + 1) i v h9
        rw [show k + (i + 1) = k + 1 + i by omega]
        exact List.mem_cons_of_mem _ this
theorem zLof_len : ∀ (vs : List Value), (lg_sl vs).length = (zLof vs).length
  | [] => rfl
  | w :: vs => by
    have := zLof_len vs
    unfold zLof
    by_cases hw : w.category = 2
    · rw [if_pos hw]
      simp only [lg_sl, List.flatMap_cons, if_pos hw, List.length_append, List.length_cons] at this ⊢
      simp only [List.length_nil]
      omega
    · rw [if_neg hw]
      simp only [lg_sl, List.flatMap_cons, if_neg hw, List.length_append, List.length_cons] at this ⊢
      simp only [List.length_nil]
      omega
theorem zLof_map : ∀ (vs : List Value), zLof (vs.map (zV G)) = (zLof vs).map (fun o => o.map (zV G))
  | [] => rfl
  | w :: vs => by
    have := zLof_map vs
    rw [List.map_cons]
    unfold zLof
    rw [zV_cat]
    by_cases hw : w.category = 2
    · rw [if_pos hw, if_pos hw, this]
      rfl
    · rw [if_neg hw, if_neg hw, this]
      rfl
/-- a body gives the contract, its arguments of any width -/
theorem zMt_ofL (hy : plainName M.1.cls = true) (hlen : (zLof as).length ≤ M.2.2.1) (hN : n ≤ N) (hSl : sl ≤ S) (hL : zLof as ++ List.replicate (M.2.2.1 - (zLof as).length) none = L) (K : AW G M d N S n sl P 0 L [] n sl h) : zMt G d M as n sl h N S P := by
  subst hL
  refine ⟨hN, hSl, fun l => ?_⟩
  refine Met.ofW (cc := M.2.1) (maxL := M.2.2.1) (ret := M.2.2.2) hy rfl ?_
  intro p e s m args below meth c s₁ B hml hv
  obtain ⟨rfl, hI, hZ⟩ := hv
  have hts := atoms_spec (ws := .code M.1 M.2.1 M.2.2.1 M.2.2.2 :: lw_ok) B.pre
  have eM := zLof_map (G := G) as
  have hl := lv_entry (as.map (zV G)) (n := M.2.2.1) (by rw [zLof_len, eM, List.length_map]; exact hlen)
  rw [lg_entry_eq]
  generalize (lg_sl (as.map (zV G)) ++ List.replicate (M.2.2.1 - (lg_sl (as.map (zV G))).length) Slot.unset).toArray = ls at hl ⊢
  have hzL : zL G M.2.2.1 (zLof as ++ List.replicate (M.2.2.1 - (zLof as).length) none) ls := by
    refine ⟨hl.1, hl.2.1, fun i v hv => ?_⟩
    by_cases hi : i < (zLof as).length
    · rw [List.getElem?_append_left hi] at hv
      have h1 : (zLof (as.map (zV G)))[i]? = some (some (zV G v)) := by
        rw [eM, List.getElem?_map, hv]
        rfl
      have h2 := zLof_at (as.map (zV G)) 0 i (zV G v) h1
      rw [Nat.zero_add] at h2
      exact hl.2.2 _ h2
    · rw [List.getElem?_append_right (by omega)] at hv
      have := List.mem_of_getElem? hv
      have := List.eq_of_mem_replicate this
      cases this
  have key := K p l e s m _ below meth c s.heap [] ls ⟨B.exec, B.bytes, hml, findClass_of_methodNamed B.named, fun w hw => hts w (List.mem_cons_of_mem _ hw), B.returns, B.notSynchronized, fun h9 => (name_of_methodNamed B.named B.method).1.trans h9, hZ⟩ hI.1 hI va_S.rf hzL ⟨Nat.le_refl _, hN⟩ ⟨Nat.le_refl _, hSl⟩
  rw [Nat.sub_self, Nat.sub_self] at key
  exact key
end ZR5
theorem zMv_ofL {G : zG} {M : zM} {d sl : Nat} {P : Option Value → zH → Prop} {as : List Value} {L : List (Option Value)} {h : zH} (hy : plainName M.1.cls = true) (hlen : (zLof as).length ≤ M.2.2.1) (hL : zLof as ++ List.replicate (M.2.2.1 - (zLof as).length) none = L) (K : AV G M d sl P 0 L [] h) : zMv G d M as sl h P :=
  zMt_ofL hy hlen (Nat.le_refl _) (Nat.le_refl _) hL K
