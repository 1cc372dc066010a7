section ZR5
variable {G : zG} {M : zM} {d N S n0 s0 : Nat} {P : Option Value → zH → Prop} {pc q : Nat} {L L' : List (Option Value)} {st stk : List Value} {n sl : Nat} {h h' : zH}
theorem aw_slen {x idx : Nat} (hd : decode M.2.1 pc = .ok (.invokevirtual idx, 3)) (hq : pc + 3 = q) (hl : Cond.methodLink M.1.cls idx yJ0_length_8abf5 ∈ lw_ok) (hdep : 4 ≤ d) (hcat : (st.map fun v => v.category).sum ≤ 8) (hx : zStr x) (K : AW G M d N S n0 s0 P q L (.int (zSlen x) :: st) n sl h) : AW G M d N S n0 s0 P pc L (.ref x :: st) n sl h := by
  sorry
theorem aw_schar {x idx : Nat} {i : Int32} (hd : decode M.2.1 pc = .ok (.invokevirtual idx, 3)) (hq : pc + 3 = q) (hl : Cond.methodLink M.1.cls idx yJ0_charAt_5068e ∈ lw_ok) (hdep : 4 ≤ d) (hcat : (st.map fun v => v.category).sum ≤ 8) (hx : zStr x) (hin : vp_in i (zSln x)) (K : AW G M d N S n0 s0 P q L (.int (zSch x i.toNatClampNeg) :: st) n sl h) : AW G M d N S n0 s0 P pc L (.int i :: .ref x :: st) n sl h := by
  sorry
end ZR5
