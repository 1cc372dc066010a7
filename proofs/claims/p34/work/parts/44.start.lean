/-! THE WORLD AFTER THE TWO CONSTRUCTORS, and that both sides stand alike in it. -/
def zs0r (a : Nat) : Nat → Int32 :=
  if a = 3 ∨ a = 15 ∨ a = 27 ∨ a = 39 ∨ a = 74 then (fun k => if k = 3 then 10 else if k = 4 then 1024 else if k = 5 then 3 else 0)
  else if a = 6 ∨ a = 18 ∨ a = 30 ∨ a = 42 ∨ a = 54 ∨ a = 66 then zfill 16 (-1) (fun _ => 0)
  else if a = 14 ∨ a = 26 ∨ a = 38 ∨ a = 50 ∨ a = 75 then zfill 10 (-1) (fun _ => 0)
  else if 87 ≤ a ∧ (a - 87) % 3 = 0 then (fun k => if k = 1 then nI ((a - 87) / 3) else 0)
  else fun _ => 0
def zs0 : zs := (zs0r, fun j => 3 + 12 * j)
def zR0 : zr := fun a => if a = 1 then zn7 10 else fun _ => 0
def zcR : List va_E := (zcX6.set 2 (.inl (2, 4, .inr (.inr (.inr (.inr fun j => some (3 + 12 * j))))))).set 77 (.inl (3, 11, .inr (.inr (.inr (.inr fun j => some (87 + 3 * j))))))
set_option maxRecDepth 1000000 in
set_option maxHeartbeats 4000000 in
theorem zw_all : (List.range 120).map (zT zs0 zR0) = zcR := rfl
/-- two entries that say the same of a cell -/
def zqe (e e' : va_E) : Prop := e = e' ∨ ∃ (t len : Nat) (f f' : Nat → Option Nat), e = .inl (t, len, .inr (.inr (.inr (.inr f)))) ∧ e' = .inl (t, len, .inr (.inr (.inr (.inr f')))) ∧ ∀ j, j < len → f j = f' j
theorem zqe_at {G : zG} {e e' : va_E} {q : Nat} {H : Heap} (h : zqe e e') (k : va_at G.2.2.1 vwCl (q, zE G e) H) : va_at G.2.2.1 vwCl (q, zE G e') H := by
  rcases h with rfl | ⟨t, len, f, f', rfl, rfl, h⟩
  · exact k
  · have k9 : H[q]? = some (arrV (G.2.2.2 t) len (fun j => va_rf ((f j).map (zA G)))) := k
    have e9 : arrV (G.2.2.2 t) len (fun j => va_rf ((f j).map (zA G))) = arrV (G.2.2.2 t) len (fun j => va_rf ((f' j).map (zA G))) := by
      unfold arrV
      congr 2
      funext j
      show va_rf ((f j.val).map (zA G)) = va_rf ((f' j.val).map (zA G))
      rw [h j.val j.isLt]
    show H[q]? = some (arrV (G.2.2.2 t) len (fun j => va_rf ((f' j).map (zA G))))
    rw [k9, e9]
theorem aw_like {G : zG} {M : zM} {d N S n0 s0 : Nat} {P : Option Value → zH → Prop} {pc : Nat} {L : List (Option Value)} {st : List Value} {n sl : Nat} {h h' : zH} (hl : ∀ a, a < n → zqe (h a) (h' a)) (K : AW G M d N S n0 s0 P pc L st n sl h') : AW G M d N S n0 s0 P pc L st n sl h := by
  intro p l e s m args below meth c H locs ls C hs hI hS hl9 hn hsl
  refine K p l e s m args below meth c H locs ls C hs ⟨hI.1, hI.2.1, fun k x hx => ?_⟩ hS hl9 hn hsl
  obtain ⟨hk, rfl⟩ := zWl_inv hx
  exact zqe_at (hl k hk) (hI.2.2 k _ (zWl_get hk))
theorem zcX6_len : zcX6.length = 120 := rfl
theorem zw_like (h9 : zH) : ∀ a, a < 120 → zqe (zov h9 0 zcX6 a) (zT zs0 zR0 a) := by
  intro a ha
  have e0 : zcR[a]? = some (zT zs0 zR0 a) := by
    rw [← zw_all, List.getElem?_map, List.getElem?_range ha]
    rfl
  by_cases h2 : a = 2
  · subst h2
    refine Or.inr ⟨2, 4, zrf 3 12 4, fun j => some (3 + 12 * j), rfl, rfl, fun j hj => ?_⟩
    unfold zrf
    rw [if_pos hj]
  · by_cases h7 : a = 77
    · subst h7
      refine Or.inr ⟨3, 11, zrf 87 3 11, fun j => some (87 + 3 * j), rfl, rfl, fun j hj => ?_⟩
      unfold zrf
      rw [if_pos hj]
    · refine Or.inl ?_
      refine zov_at (k := a) (Nat.zero_add a) ?_
      rw [← e0]
      unfold zcR
      rw [List.getElem?_set_ne (fun q => h7 q.symm), List.getElem?_set_ne (fun q => h2 q.symm)]
theorem bt_zero (p : Nat) : bt 0 p = false := by
  show (0#32).getLsbD p = false
  exact BitVec.getLsbD_zero
theorem bt_1024 {k : Nat} (h : bt 1024 k = true) : k = 10 := by
  have hk : k < 32 := by
    rcases Nat.lt_or_ge k 32 with h1 | h1
    · exact h1
    · have : bt 1024 k = false := BitVec.getLsbD_of_ge _ _ h1
      rw [this] at h
      cases h
  have hall : ∀ k, k < 32 → bt 1024 k = true → k = 10 := by decide +kernel
  exact hall k hk h
theorem zr0_V : zVr (zn7 10) := by
  have n0 : cN (zn7 10) = 0 := by decide +kernel
  have c0 : cC (zn7 10) = 0 := by decide +kernel
  have f0 : cF (zn7 10) = 0 := by decide +kernel
  have d0 : dN (zn7 10) = 0 := by decide +kernel
  refine ⟨⟨⟨?_, ?_⟩, ⟨?_, ?_⟩, ?_, ?_⟩, ?_, ?_, ?_, ⟨⟨?_, ?_⟩, ?_, Or.inl (by decide +kernel), ?_⟩, ?_, ?_⟩
  · rw [n0]; decide +kernel
  · rw [n0]; decide
  · rw [c0]; decide +kernel
  · rw [c0]; decide
  · rw [f0]; decide +kernel
  · rw [f0]; decide
  · rw [n0]; exact fun i hi => absurd hi (Nat.not_lt_zero i)
  · rw [c0]; exact fun i hi => absurd hi (Nat.not_lt_zero i)
  · rw [f0]; exact fun i hi => absurd hi (Nat.not_lt_zero i)
  · rw [d0]; decide +kernel
  · rw [d0]; decide
  · intro p _
    exact bt_zero p
  · intro k hk
    exact Or.inr (bt_1024 hk)
  · intro f _ hf
    exact if_pos (by omega)
  · intro d _
    rw [f0]
    exact Nat.zero_le _
theorem zi0_B (b : Nat) (hb : b = 64) : zBr zs0 b (zn7 10) := by
  subst hb
  have n0 : cN (zn7 10) = 0 := by decide +kernel
  have c0 : cC (zn7 10) = 0 := by decide +kernel
  have nf : ∀ p, nOf (zn7 10) p = none := fun p => by
    unfold nOf
    rw [n0]
    rfl
  have cf : ∀ p, chOf (zn7 10) p = none := fun p => by
    unfold chOf
    rw [c0]
    rfl
  refine ⟨⟨by decide +kernel, by decide +kernel, by decide +kernel⟩, ?_, fun p hp => ?_, ?_, ?_, ?_, fun p => ?_, fun p => ?_⟩
  · decide +kernel
  · rw [nf]
    exact if_pos hp
  · decide +kernel
  · decide +kernel
  · decide +kernel
  · rw [nf]
    exact bt_zero p
  · rw [cf]
    exact bt_zero p
theorem zinv0 : zInv zs0 zR0 := by
  refine ⟨⟨zn7 10, zr0_V, fun k _ => rfl, ⟨zi0_B _ rfl, ?_, ⟨by decide +kernel, by decide +kernel, by decide +kernel⟩, by decide +kernel, by decide +kernel, by decide +kernel⟩, ?_⟩, ⟨?_, 0, by decide, by decide +kernel, by decide +kernel, fun i hi => absurd hi (Nat.not_lt_zero i)⟩, 0, by decide, by decide +kernel, by decide +kernel, fun i hi => absurd hi (Nat.not_lt_zero i)⟩
  · decide +kernel
  · have : ∀ i, i < 11 → zs0.1 (87 + 3 * i) 1 = nI i := by decide +kernel
    exact fun i hi => this i (by omega)
  · intro i hi
    rcases (by omega : i = 0 ∨ i = 1 ∨ i = 2 ∨ i = 3) with rfl | rfl | rfl | rfl
    · exact ⟨Or.inl rfl, fun j hj => by show 3 + 12 * j ≠ 3 + 12 * 0; omega⟩
    · exact ⟨Or.inr (Or.inl rfl), fun j hj => by show 3 + 12 * j ≠ 3 + 12 * 1; omega⟩
    · exact ⟨Or.inr (Or.inr (Or.inl rfl)), fun j hj => by show 3 + 12 * j ≠ 3 + 12 * 2; omega⟩
    · exact ⟨Or.inr (Or.inr (Or.inr rfl)), fun j hj => by show 3 + 12 * j ≠ 3 + 12 * 3; omega⟩
