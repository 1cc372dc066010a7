section ZR4
variable {G : zG} {M : zM} {d N S n0 s0 : Nat} {P : Option Value → zH → Prop} {pc q : Nat} {L L' : List (Option Value)} {st stk : List Value} {n sl : Nat} {h h' : zH}
theorem aw_if_neP {x : Int32} {off : Int} {t : Nat} (hd : decode M.2.1 pc = .ok (.ifCond .ne off, 3)) (hq : pc + 3 = q) (ht : (pc : Int) + off = (t : Int)) (K1 : x = 0 → AW G M d N S n0 s0 P q L st n sl h) (K2 : ¬ (x = 0) → AW G M d N S n0 s0 P t L st n sl h) : AW G M d N S n0 s0 P pc L (.int x :: st) n sl h :=
  aw_if_ne hd hq ht (fun z => K2 z) (fun z => K1 (Decidable.of_not_not z))
theorem aw_icmp_neP {x y : Int32} {off : Int} {t : Nat} (hd : decode M.2.1 pc = .ok (.if_icmp .ne off, 3)) (hq : pc + 3 = q) (ht : (pc : Int) + off = (t : Int)) (K1 : x = y → AW G M d N S n0 s0 P q L st n sl h) (K2 : ¬ (x = y) → AW G M d N S n0 s0 P t L st n sl h) : AW G M d N S n0 s0 P pc L (.int y :: .int x :: st) n sl h :=
  aw_icmp_ne hd hq ht (fun z => K2 z) (fun z => K1 (Decidable.of_not_not z))
theorem aw_fconst0 {v : UInt32} (hd : decode M.2.1 pc = .ok (.fconst 0, 1)) (hq : pc + 1 = q) (hv : FP.fconst0 = v) (K : AW G M d N S n0 s0 P q L (.float v :: st) n sl h) : AW G M d N S n0 s0 P pc L st n sl h := by
  subst hq
  subst hv
  intro p l e s m args below meth c H locs ls C hs hI hS hl hn hsl
  exact lv_fconst0 C.1 C.2.1 hd (K p l e s m args below meth c H locs ls C hs hI hS hl hn hsl)
theorem aw_fconst1 {v : UInt32} (hd : decode M.2.1 pc = .ok (.fconst 1, 1)) (hq : pc + 1 = q) (hv : FP.fconst1 = v) (K : AW G M d N S n0 s0 P q L (.float v :: st) n sl h) : AW G M d N S n0 s0 P pc L st n sl h := by
  subst hq
  subst hv
  intro p l e s m args below meth c H locs ls C hs hI hS hl hn hsl
  exact lv_fconst1 C.1 C.2.1 hd (K p l e s m args below meth c H locs ls C hs hI hS hl hn hsl)
theorem aw_fconst2 {v : UInt32} (hd : decode M.2.1 pc = .ok (.fconst 2, 1)) (hq : pc + 1 = q) (hv : FP.fconst2 = v) (K : AW G M d N S n0 s0 P q L (.float v :: st) n sl h) : AW G M d N S n0 s0 P pc L st n sl h := by
  subst hq
  subst hv
  intro p l e s m args below meth c H locs ls C hs hI hS hl hn hsl
  exact lv_fconst2 C.1 C.2.1 hd (K p l e s m args below meth c H locs ls C hs hI hS hl hn hsl)
theorem aw_ldcwf {i : Nat} {v : UInt32} (hd : decode M.2.1 pc = .ok (.ldc_w i, 3)) (hq : pc + 3 = q) (hw : Jvm.Cond.constantFloat M.1.cls i v ∈ lw_ok) (K : AW G M d N S n0 s0 P q L (.float v :: st) n sl h) : AW G M d N S n0 s0 P pc L st n sl h := by
  subst hq
  intro p l e s m args below meth c H locs ls C hs hI hS hl hn hsl
  intro T hT X
  obtain ⟨t, a, b⟩ := K p l e s m args below meth c H locs ls C hs hI hS hl hn hsl T hT X
  refine ⟨t, ?_, b⟩
  obtain ⟨k, cf, hk, hcf, hcp⟩ := Cond.constantFloat_spec C.2.2.2.1 (C.2.2.2.2.1 _ hw)
  obtain ⟨k', hk', he⟩ := X.warmed.alike.2.2 _ _ hk
  have hx := C.1
  have hdg : decode c.code pc = .ok (.ldc_w i, 3) := by rw [C.2.1]; exact hd
  jvm_step X.here [hx, hdg, ldc_w.wp_float (s := T) (f := F0 m pc ls (st.map (zV G))) X.here.top hk' (by rw [he]; exact hcf) hcp]
  exact a
end ZR4
def zA5 (a : Nat) : Prop := a < 120 ∧ ∀ (s : zs) (R : zr), zT s R a = .inl (0, 5, .inl (s.1 a))
theorem zn32 {r : UInt32} (h : isNaN32 r = false) : vf_n32 r := by
  have h1 : ¬ (r &&& 0x7fffffff > 0x7f800000) := by simpa [isNaN32] using h
  exact UInt32.not_lt.mp h1
def zX4b (x : Nat) : Bool := x == 74 || x == 3 || x == 15 || x == 27 || x == 39
theorem zX4b_of {x : Nat} (h : zX4b x = true) : zX4 x := by simpa [zX4b, zX4, or_assoc] using h
