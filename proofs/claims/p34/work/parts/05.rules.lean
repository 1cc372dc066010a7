section ZR
variable {G : zG} {M : zM} {d N S n0 s0 : Nat} {P : Option Value → zH → Prop} {pc q : Nat} {L L' : List (Option Value)} {st : List Value} {n sl : Nat} {h : zH}
theorem aw_iconst {k : Int} {v : Int32} (hd : decode M.2.1 pc = .ok (.iconst k, 1)) (hq : pc + 1 = q) (hv : Int32.ofInt k = v) (K : AW G M d N S n0 s0 P q L (.int v :: st) n sl h) : AW G M d N S n0 s0 P pc L (st) n sl h := by
  subst hq
  intro p l e s m args below meth c H locs ls C hs hI hS hl hn hsl
  exact lv_iconst C.1 C.2.1 hd hv (K p l e s m args below meth c H locs ls C hs hI hS hl hn hsl)
theorem aw_bipush {k : Int} {v : Int32} (hd : decode M.2.1 pc = .ok (.bipush k, 2)) (hq : pc + 2 = q) (hv : (Int8.ofInt k).toInt32 = v) (K : AW G M d N S n0 s0 P q L (.int v :: st) n sl h) : AW G M d N S n0 s0 P pc L (st) n sl h := by
  subst hq
  intro p l e s m args below meth c H locs ls C hs hI hS hl hn hsl
  exact lv_bipush C.1 C.2.1 hd hv (K p l e s m args below meth c H locs ls C hs hI hS hl hn hsl)
theorem aw_sipush {k : Int} {v : Int32} (hd : decode M.2.1 pc = .ok (.sipush k, 3)) (hq : pc + 3 = q) (hv : (Int16.ofInt k).toInt32 = v) (K : AW G M d N S n0 s0 P q L (.int v :: st) n sl h) : AW G M d N S n0 s0 P pc L (st) n sl h := by
  subst hq
  intro p l e s m args below meth c H locs ls C hs hI hS hl hn hsl
  exact lv_sipush C.1 C.2.1 hd hv (K p l e s m args below meth c H locs ls C hs hI hS hl hn hsl)
theorem aw_lconst {k : Fin 2} {v : Int64} (hd : decode M.2.1 pc = .ok (.lconst k, 1)) (hq : pc + 1 = q) (hv : Int64.ofNat (k : Nat) = v) (K : AW G M d N S n0 s0 P q L (.long v :: st) n sl h) : AW G M d N S n0 s0 P pc L (st) n sl h := by
  subst hq
  intro p l e s m args below meth c H locs ls C hs hI hS hl hn hsl
  exact lv_lconst C.1 C.2.1 hd hv (K p l e s m args below meth c H locs ls C hs hI hS hl hn hsl)
theorem aw_ldc {i : Nat} {v : Int32} (hd : decode M.2.1 pc = .ok (.ldc i, 2)) (hq : pc + 2 = q) (hw : Jvm.Cond.constant M.1.cls i v ∈ lw_ok) (K : AW G M d N S n0 s0 P q L (.int v :: st) n sl h) : AW G M d N S n0 s0 P pc L (st) n sl h := by
  subst hq
  intro p l e s m args below meth c H locs ls C hs hI hS hl hn hsl
  exact lv_ldc C.1 C.2.1 C.2.2.2.1 (C.2.2.2.2.1 _ hw) hd (K p l e s m args below meth c H locs ls C hs hI hS hl hn hsl)
theorem aw_ldcw {i : Nat} {v : Int32} (hd : decode M.2.1 pc = .ok (.ldc_w i, 3)) (hq : pc + 3 = q) (hw : Jvm.Cond.constant M.1.cls i v ∈ lw_ok) (K : AW G M d N S n0 s0 P q L (.int v :: st) n sl h) : AW G M d N S n0 s0 P pc L (st) n sl h := by
  subst hq
  intro p l e s m args below meth c H locs ls C hs hI hS hl hn hsl
  exact lv_ldcw C.1 C.2.1 C.2.2.2.1 (C.2.2.2.2.1 _ hw) hd (K p l e s m args below meth c H locs ls C hs hI hS hl hn hsl)
theorem aw_ldcf {i : Nat} {v : UInt32} (hd : decode M.2.1 pc = .ok (.ldc i, 2)) (hq : pc + 2 = q) (hw : Jvm.Cond.constantFloat M.1.cls i v ∈ lw_ok) (K : AW G M d N S n0 s0 P q L (.float v :: st) n sl h) : AW G M d N S n0 s0 P pc L (st) n sl h := by
  subst hq
  intro p l e s m args below meth c H locs ls C hs hI hS hl hn hsl
  exact lv_ldcf C.1 C.2.1 C.2.2.2.1 (C.2.2.2.2.1 _ hw) hd (K p l e s m args below meth c H locs ls C hs hI hS hl hn hsl)
theorem aw_ldc2 {i : Nat} {v : Int64} (hd : decode M.2.1 pc = .ok (.ldc2_w i, 3)) (hq : pc + 3 = q) (hw : Jvm.Cond.constantLong M.1.cls i v ∈ lw_ok) (K : AW G M d N S n0 s0 P q L (.long v :: st) n sl h) : AW G M d N S n0 s0 P pc L (st) n sl h := by
  subst hq
  intro p l e s m args below meth c H locs ls C hs hI hS hl hn hsl
  exact lv_ldc2 C.1 C.2.1 C.2.2.2.1 (C.2.2.2.2.1 _ hw) hd (K p l e s m args below meth c H locs ls C hs hI hS hl hn hsl)
theorem aw_iload {i : Nat} {x : Int32} (hd : decode M.2.1 pc = .ok (.iload i, 2)) (hq : pc + 2 = q) (hL : L[i]? = some (some (.int x))) (K : AW G M d N S n0 s0 P q L (.int x :: st) n sl h) : AW G M d N S n0 s0 P pc L (st) n sl h := by
  subst hq
  intro p l e s m args below meth c H locs ls C hs hI hS hl hn hsl
  exact lv_iload C.1 C.2.1 hd (zL_at hl hL) (K p l e s m args below meth c H locs ls C hs hI hS hl hn hsl)
theorem aw_iload_n {k : Fin 4} {x : Int32} (hd : decode M.2.1 pc = .ok (.iload_n k, 1)) (hq : pc + 1 = q) (hL : L[(k : Nat)]? = some (some (.int x))) (K : AW G M d N S n0 s0 P q L (.int x :: st) n sl h) : AW G M d N S n0 s0 P pc L (st) n sl h := by
  subst hq
  intro p l e s m args below meth c H locs ls C hs hI hS hl hn hsl
  exact lv_iload_n C.1 C.2.1 hd rfl (zL_at hl hL) (K p l e s m args below meth c H locs ls C hs hI hS hl hn hsl)
theorem aw_lload {i : Nat} {x : Int64} (hd : decode M.2.1 pc = .ok (.lload i, 2)) (hq : pc + 2 = q) (hL : L[i]? = some (some (.long x))) (K : AW G M d N S n0 s0 P q L (.long x :: st) n sl h) : AW G M d N S n0 s0 P pc L (st) n sl h := by
  subst hq
  intro p l e s m args below meth c H locs ls C hs hI hS hl hn hsl
  exact lv_lload C.1 C.2.1 hd (zL_at hl hL) (K p l e s m args below meth c H locs ls C hs hI hS hl hn hsl)
theorem aw_lload_n {k : Fin 4} {x : Int64} (hd : decode M.2.1 pc = .ok (.lload_n k, 1)) (hq : pc + 1 = q) (hL : L[(k : Nat)]? = some (some (.long x))) (K : AW G M d N S n0 s0 P q L (.long x :: st) n sl h) : AW G M d N S n0 s0 P pc L (st) n sl h := by
  subst hq
  intro p l e s m args below meth c H locs ls C hs hI hS hl hn hsl
  exact lv_lload_n C.1 C.2.1 hd rfl (zL_at hl hL) (K p l e s m args below meth c H locs ls C hs hI hS hl hn hsl)
theorem aw_fload {i : Nat} {x : UInt32} (hd : decode M.2.1 pc = .ok (.fload i, 2)) (hq : pc + 2 = q) (hL : L[i]? = some (some (.float x))) (K : AW G M d N S n0 s0 P q L (.float x :: st) n sl h) : AW G M d N S n0 s0 P pc L (st) n sl h := by
  subst hq
  intro p l e s m args below meth c H locs ls C hs hI hS hl hn hsl
  exact lv_fload C.1 C.2.1 hd (zL_at hl hL) (K p l e s m args below meth c H locs ls C hs hI hS hl hn hsl)
theorem aw_fload_n {k : Fin 4} {x : UInt32} (hd : decode M.2.1 pc = .ok (.fload_n k, 1)) (hq : pc + 1 = q) (hL : L[(k : Nat)]? = some (some (.float x))) (K : AW G M d N S n0 s0 P q L (.float x :: st) n sl h) : AW G M d N S n0 s0 P pc L (st) n sl h := by
  subst hq
  intro p l e s m args below meth c H locs ls C hs hI hS hl hn hsl
  exact lv_fload_n C.1 C.2.1 hd rfl (zL_at hl hL) (K p l e s m args below meth c H locs ls C hs hI hS hl hn hsl)
theorem aw_aload {i : Nat} {x : Nat} (hd : decode M.2.1 pc = .ok (.aload i, 2)) (hq : pc + 2 = q) (hL : L[i]? = some (some (.ref x))) (K : AW G M d N S n0 s0 P q L (.ref x :: st) n sl h) : AW G M d N S n0 s0 P pc L (st) n sl h := by
  subst hq
  intro p l e s m args below meth c H locs ls C hs hI hS hl hn hsl
  exact lv_aload C.1 C.2.1 hd (zL_at hl hL) (K p l e s m args below meth c H locs ls C hs hI hS hl hn hsl)
theorem aw_aload_n {k : Fin 4} {x : Nat} (hd : decode M.2.1 pc = .ok (.aload_n k, 1)) (hq : pc + 1 = q) (hL : L[(k : Nat)]? = some (some (.ref x))) (K : AW G M d N S n0 s0 P q L (.ref x :: st) n sl h) : AW G M d N S n0 s0 P pc L (st) n sl h := by
  subst hq
  intro p l e s m args below meth c H locs ls C hs hI hS hl hn hsl
  exact lv_aload_n C.1 C.2.1 hd rfl (zL_at hl hL) (K p l e s m args below meth c H locs ls C hs hI hS hl hn hsl)
theorem aw_istore {i : Nat} {x : Int32} (hd : decode M.2.1 pc = .ok (.istore i, 2)) (hq : pc + 2 = q) (hi : i < M.2.2.1) (hok : zok L i = true) (hL : L.set i (some (.int x)) = L') (K : AW G M d N S n0 s0 P q L' st n sl h) : AW G M d N S n0 s0 P pc L (.int x :: st) n sl h := by
  subst hq
  subst hL
  intro p l e s m args below meth c H locs ls C hs hI hS hl hn hsl
  exact lv_istore C.1 C.2.1 hd (zL_has hl) hi rfl (fun ls' hl' => K p l e s m args below meth c H locs ls' C hs hI hS (zL_store1 (v := .int x) hok hl') hn hsl)
theorem aw_istore_n {k : Fin 4} {x : Int32} (hd : decode M.2.1 pc = .ok (.istore_n k, 1)) (hq : pc + 1 = q) (hi : (k : Nat) < M.2.2.1) (hok : zok L (k : Nat) = true) (hL : L.set (k : Nat) (some (.int x)) = L') (K : AW G M d N S n0 s0 P q L' st n sl h) : AW G M d N S n0 s0 P pc L (.int x :: st) n sl h := by
  subst hq
  subst hL
  intro p l e s m args below meth c H locs ls C hs hI hS hl hn hsl
  exact lv_istore_n C.1 C.2.1 hd rfl (zL_has hl) hi rfl (fun ls' hl' => K p l e s m args below meth c H locs ls' C hs hI hS (zL_store1 (v := .int x) hok hl') hn hsl)
theorem aw_fstore_n {k : Fin 4} {x : UInt32} (hd : decode M.2.1 pc = .ok (.fstore_n k, 1)) (hq : pc + 1 = q) (hi : (k : Nat) < M.2.2.1) (hok : zok L (k : Nat) = true) (hL : L.set (k : Nat) (some (.float x)) = L') (K : AW G M d N S n0 s0 P q L' st n sl h) : AW G M d N S n0 s0 P pc L (.float x :: st) n sl h := by
  subst hq
  subst hL
  intro p l e s m args below meth c H locs ls C hs hI hS hl hn hsl
  exact lv_fstore_n C.1 C.2.1 hd rfl (zL_has hl) hi rfl (fun ls' hl' => K p l e s m args below meth c H locs ls' C hs hI hS (zL_store1 (v := .float x) hok hl') hn hsl)
theorem aw_astore {i : Nat} {x : Nat} (hd : decode M.2.1 pc = .ok (.astore i, 2)) (hq : pc + 2 = q) (hi : i < M.2.2.1) (hok : zok L i = true) (hL : L.set i (some (.ref x)) = L') (K : AW G M d N S n0 s0 P q L' st n sl h) : AW G M d N S n0 s0 P pc L (.ref x :: st) n sl h := by
  subst hq
  subst hL
  intro p l e s m args below meth c H locs ls C hs hI hS hl hn hsl
  exact lv_astore C.1 C.2.1 hd (zL_has hl) hi rfl (fun ls' hl' => K p l e s m args below meth c H locs ls' C hs hI hS (zL_store1 (v := .ref x) hok hl') hn hsl)
theorem aw_astore_n {k : Fin 4} {x : Nat} (hd : decode M.2.1 pc = .ok (.astore_n k, 1)) (hq : pc + 1 = q) (hi : (k : Nat) < M.2.2.1) (hok : zok L (k : Nat) = true) (hL : L.set (k : Nat) (some (.ref x)) = L') (K : AW G M d N S n0 s0 P q L' st n sl h) : AW G M d N S n0 s0 P pc L (.ref x :: st) n sl h := by
  subst hq
  subst hL
  intro p l e s m args below meth c H locs ls C hs hI hS hl hn hsl
  exact lv_astore_n C.1 C.2.1 hd rfl (zL_has hl) hi rfl (fun ls' hl' => K p l e s m args below meth c H locs ls' C hs hI hS (zL_store1 (v := .ref x) hok hl') hn hsl)
theorem aw_lstore {i : Nat} {x : Int64} (hd : decode M.2.1 pc = .ok (.lstore i, 2)) (hq : pc + 2 = q) (hi : i + 1 < M.2.2.1) (hok : zok L i = true) (hL : (L.set i (some (.long x))).set (i + 1) none = L') (K : AW G M d N S n0 s0 P q L' st n sl h) : AW G M d N S n0 s0 P pc L (.long x :: st) n sl h := by
  subst hq
  subst hL
  intro p l e s m args below meth c H locs ls C hs hI hS hl hn hsl
  exact lv_lstore C.1 C.2.1 hd (zL_has hl) hi rfl (fun ls' hl' => K p l e s m args below meth c H locs ls' C hs hI hS (zL_store2 (v := .long x) hok hl') hn hsl)
theorem aw_lstore_n {k : Fin 4} {x : Int64} (hd : decode M.2.1 pc = .ok (.lstore_n k, 1)) (hq : pc + 1 = q) (hi : (k : Nat) + 1 < M.2.2.1) (hok : zok L (k : Nat) = true) (hL : (L.set (k : Nat) (some (.long x))).set ((k : Nat) + 1) none = L') (K : AW G M d N S n0 s0 P q L' st n sl h) : AW G M d N S n0 s0 P pc L (.long x :: st) n sl h := by
  subst hq
  subst hL
  intro p l e s m args below meth c H locs ls C hs hI hS hl hn hsl
  exact lv_lstore_n C.1 C.2.1 hd rfl (zL_has hl) hi rfl (fun ls' hl' => K p l e s m args below meth c H locs ls' C hs hI hS (zL_store2 (v := .long x) hok hl') hn hsl)
theorem aw_iinc {i : Nat} {k : Int} {x v : Int32} (hd : decode M.2.1 pc = .ok (.iinc i k, 3)) (hq : pc + 3 = q) (hx : L[i]? = some (some (.int x))) (hv : x + Int32.ofInt k = v) (hi : i < M.2.2.1) (hok : zok L i = true) (hL : L.set i (some (.int v)) = L') (K : AW G M d N S n0 s0 P q L' st n sl h) : AW G M d N S n0 s0 P pc L st n sl h := by
  subst hq
  subst hL
  intro p l e s m args below meth c H locs ls C hs hI hS hl hn hsl
  obtain ⟨k9, hk9⟩ := List.getElem?_of_mem (zas_in (G := G) hx)
  exact lv_iinc C.1 C.2.1 hd (zL_has hl) hk9 hv hi rfl (fun ls' hl' => K p l e s m args below meth c H locs ls' C hs hI hS (zL_store1 (v := .int v) hok hl') hn hsl)
theorem aw_iadd {x y : Int32} (hd : decode M.2.1 pc = .ok (.iadd, 1)) (hq : pc + 1 = q) (K : AW G M d N S n0 s0 P q L (.int (x + y) :: st) n sl h) : AW G M d N S n0 s0 P pc L (.int y :: .int x :: st) n sl h := by
  subst hq
  intro p l e s m args below meth c H locs ls C hs hI hS hl hn hsl
  exact lv_iadd C.1 C.2.1 hd (K p l e s m args below meth c H locs ls C hs hI hS hl hn hsl)
theorem aw_isub {x y : Int32} (hd : decode M.2.1 pc = .ok (.isub, 1)) (hq : pc + 1 = q) (K : AW G M d N S n0 s0 P q L (.int (x - y) :: st) n sl h) : AW G M d N S n0 s0 P pc L (.int y :: .int x :: st) n sl h := by
  subst hq
  intro p l e s m args below meth c H locs ls C hs hI hS hl hn hsl
  exact lv_isub C.1 C.2.1 hd (K p l e s m args below meth c H locs ls C hs hI hS hl hn hsl)
theorem aw_imul {x y : Int32} (hd : decode M.2.1 pc = .ok (.imul, 1)) (hq : pc + 1 = q) (K : AW G M d N S n0 s0 P q L (.int (x * y) :: st) n sl h) : AW G M d N S n0 s0 P pc L (.int y :: .int x :: st) n sl h := by
  subst hq
  intro p l e s m args below meth c H locs ls C hs hI hS hl hn hsl
  exact lv_imul C.1 C.2.1 hd (K p l e s m args below meth c H locs ls C hs hI hS hl hn hsl)
theorem aw_iand {x y : Int32} (hd : decode M.2.1 pc = .ok (.iand, 1)) (hq : pc + 1 = q) (K : AW G M d N S n0 s0 P q L (.int (x &&& y) :: st) n sl h) : AW G M d N S n0 s0 P pc L (.int y :: .int x :: st) n sl h := by
  subst hq
  intro p l e s m args below meth c H locs ls C hs hI hS hl hn hsl
  exact lv_iand C.1 C.2.1 hd (K p l e s m args below meth c H locs ls C hs hI hS hl hn hsl)
theorem aw_ior {x y : Int32} (hd : decode M.2.1 pc = .ok (.ior, 1)) (hq : pc + 1 = q) (K : AW G M d N S n0 s0 P q L (.int (x ||| y) :: st) n sl h) : AW G M d N S n0 s0 P pc L (.int y :: .int x :: st) n sl h := by
  subst hq
  intro p l e s m args below meth c H locs ls C hs hI hS hl hn hsl
  exact lv_ior C.1 C.2.1 hd (K p l e s m args below meth c H locs ls C hs hI hS hl hn hsl)
theorem aw_ixor {x y : Int32} (hd : decode M.2.1 pc = .ok (.ixor, 1)) (hq : pc + 1 = q) (K : AW G M d N S n0 s0 P q L (.int (x ^^^ y) :: st) n sl h) : AW G M d N S n0 s0 P pc L (.int y :: .int x :: st) n sl h := by
  subst hq
  intro p l e s m args below meth c H locs ls C hs hI hS hl hn hsl
  exact lv_ixor C.1 C.2.1 hd (K p l e s m args below meth c H locs ls C hs hI hS hl hn hsl)
theorem aw_ishl {x y : Int32} (hd : decode M.2.1 pc = .ok (.ishl, 1)) (hq : pc + 1 = q) (K : AW G M d N S n0 s0 P q L (.int (x <<< (y &&& 31)) :: st) n sl h) : AW G M d N S n0 s0 P pc L (.int y :: .int x :: st) n sl h := by
  subst hq
  intro p l e s m args below meth c H locs ls C hs hI hS hl hn hsl
  exact lv_ishl C.1 C.2.1 hd (K p l e s m args below meth c H locs ls C hs hI hS hl hn hsl)
theorem aw_ishr {x y : Int32} (hd : decode M.2.1 pc = .ok (.ishr, 1)) (hq : pc + 1 = q) (K : AW G M d N S n0 s0 P q L (.int (x >>> (y &&& 31)) :: st) n sl h) : AW G M d N S n0 s0 P pc L (.int y :: .int x :: st) n sl h := by
  subst hq
  intro p l e s m args below meth c H locs ls C hs hI hS hl hn hsl
  exact lv_ishr C.1 C.2.1 hd (K p l e s m args below meth c H locs ls C hs hI hS hl hn hsl)
theorem aw_irem {x y : Int32} (hd : decode M.2.1 pc = .ok (.irem, 1)) (hq : pc + 1 = q) (hne : ¬ y = 0) (K : AW G M d N S n0 s0 P q L (.int (x - x / y * y) :: st) n sl h) : AW G M d N S n0 s0 P pc L (.int y :: .int x :: st) n sl h := by
  subst hq
  intro p l e s m args below meth c H locs ls C hs hI hS hl hn hsl
  exact lv_irem C.1 C.2.1 hd hne (K p l e s m args below meth c H locs ls C hs hI hS hl hn hsl)
theorem aw_iushr {x y : Int32} (hd : decode M.2.1 pc = .ok (.iushr, 1)) (hq : pc + 1 = q) (K : AW G M d N S n0 s0 P q L (.int ((x.toUInt32 >>> (y.toUInt32 &&& Int32.toUInt32 31)).toInt32) :: st) n sl h) : AW G M d N S n0 s0 P pc L (.int y :: .int x :: st) n sl h := by
  subst hq
  intro p l e s m args below meth c H locs ls C hs hI hS hl hn hsl
  exact lv_iushr C.1 C.2.1 hd rfl (K p l e s m args below meth c H locs ls C hs hI hS hl hn hsl)
theorem aw_dup {v : Value} (hd : decode M.2.1 pc = .ok (.dup, 1)) (hq : pc + 1 = q) (hv : v.category = 1) (K : AW G M d N S n0 s0 P q L (v :: v :: st) n sl h) : AW G M d N S n0 s0 P pc L (v :: st) n sl h := by
  subst hq
  intro p l e s m args below meth c H locs ls C hs hI hS hl hn hsl
  exact lv_dup C.1 C.2.1 hd ((zV_cat G v).trans hv) (K p l e s m args below meth c H locs ls C hs hI hS hl hn hsl)
theorem aw_dup2 {v w : Value} (hd : decode M.2.1 pc = .ok (.dup2, 1)) (hq : pc + 1 = q) (hv : v.category = 1) (hw : w.category = 1) (K : AW G M d N S n0 s0 P q L (v :: w :: v :: w :: st) n sl h) : AW G M d N S n0 s0 P pc L (v :: w :: st) n sl h := by
  subst hq
  intro p l e s m args below meth c H locs ls C hs hI hS hl hn hsl
  exact lv_dup2_11 C.1 C.2.1 hd ((zV_cat G v).trans hv) ((zV_cat G w).trans hw) (K p l e s m args below meth c H locs ls C hs hI hS hl hn hsl)
theorem aw_pop {v : Value} (hd : decode M.2.1 pc = .ok (.pop, 1)) (hq : pc + 1 = q) (hv : v.category = 1) (K : AW G M d N S n0 s0 P q L (st) n sl h) : AW G M d N S n0 s0 P pc L (v :: st) n sl h := by
  subst hq
  intro p l e s m args below meth c H locs ls C hs hI hS hl hn hsl
  exact lv_pop C.1 C.2.1 hd ((zV_cat G v).trans hv) (K p l e s m args below meth c H locs ls C hs hI hS hl hn hsl)
theorem aw_i2l {x : Int32} (hd : decode M.2.1 pc = .ok (.i2l, 1)) (hq : pc + 1 = q) (K : AW G M d N S n0 s0 P q L (.long x.toInt64 :: st) n sl h) : AW G M d N S n0 s0 P pc L (.int x :: st) n sl h := by
  subst hq
  intro p l e s m args below meth c H locs ls C hs hI hS hl hn hsl
  exact lv_i2l C.1 C.2.1 hd rfl (K p l e s m args below meth c H locs ls C hs hI hS hl hn hsl)
theorem aw_l2i {x : Int64} (hd : decode M.2.1 pc = .ok (.l2i, 1)) (hq : pc + 1 = q) (K : AW G M d N S n0 s0 P q L (.int x.toInt32 :: st) n sl h) : AW G M d N S n0 s0 P pc L (.long x :: st) n sl h := by
  subst hq
  intro p l e s m args below meth c H locs ls C hs hI hS hl hn hsl
  exact lv_l2i C.1 C.2.1 hd rfl (K p l e s m args below meth c H locs ls C hs hI hS hl hn hsl)
theorem aw_i2c {x : Int32} (hd : decode M.2.1 pc = .ok (.i2c, 1)) (hq : pc + 1 = q) (K : AW G M d N S n0 s0 P q L (.int (x.toUInt32 % 65536).toInt32 :: st) n sl h) : AW G M d N S n0 s0 P pc L (.int x :: st) n sl h := by
  subst hq
  intro p l e s m args below meth c H locs ls C hs hI hS hl hn hsl
  exact lv_i2c C.1 C.2.1 hd rfl (K p l e s m args below meth c H locs ls C hs hI hS hl hn hsl)
theorem aw_i2f {x : Int32} (hd : decode M.2.1 pc = .ok (.i2f, 1)) (hq : pc + 1 = q) (K : AW G M d N S n0 s0 P q L (.float (FP.i2f x) :: st) n sl h) : AW G M d N S n0 s0 P pc L (.int x :: st) n sl h := by
  subst hq
  intro p l e s m args below meth c H locs ls C hs hI hS hl hn hsl
  exact lv_i2f C.1 C.2.1 hd (K p l e s m args below meth c H locs ls C hs hI hS hl hn hsl)
theorem aw_f2i {x : UInt32} (hd : decode M.2.1 pc = .ok (.f2i, 1)) (hq : pc + 1 = q) (K : AW G M d N S n0 s0 P q L (.int (FP.f2i x) :: st) n sl h) : AW G M d N S n0 s0 P pc L (.float x :: st) n sl h := by
  subst hq
  intro p l e s m args below meth c H locs ls C hs hI hS hl hn hsl
  exact lv_f2i C.1 C.2.1 hd (K p l e s m args below meth c H locs ls C hs hI hS hl hn hsl)
theorem aw_lmul {x y : Int64} (hd : decode M.2.1 pc = .ok (.lmul, 1)) (hq : pc + 1 = q) (K : AW G M d N S n0 s0 P q L (.long (x * y) :: st) n sl h) : AW G M d N S n0 s0 P pc L (.long y :: .long x :: st) n sl h := by
  subst hq
  intro p l e s m args below meth c H locs ls C hs hI hS hl hn hsl
  exact lv_lmul C.1 C.2.1 hd (K p l e s m args below meth c H locs ls C hs hI hS hl hn hsl)
theorem aw_ladd {x y : Int64} (hd : decode M.2.1 pc = .ok (.ladd, 1)) (hq : pc + 1 = q) (K : AW G M d N S n0 s0 P q L (.long (x + y) :: st) n sl h) : AW G M d N S n0 s0 P pc L (.long y :: .long x :: st) n sl h := by
  subst hq
  intro p l e s m args below meth c H locs ls C hs hI hS hl hn hsl
  exact lv_ladd C.1 C.2.1 hd (K p l e s m args below meth c H locs ls C hs hI hS hl hn hsl)
theorem aw_lsub {x y : Int64} (hd : decode M.2.1 pc = .ok (.lsub, 1)) (hq : pc + 1 = q) (K : AW G M d N S n0 s0 P q L (.long (x - y) :: st) n sl h) : AW G M d N S n0 s0 P pc L (.long y :: .long x :: st) n sl h := by
  subst hq
  intro p l e s m args below meth c H locs ls C hs hI hS hl hn hsl
  exact lv_lsub C.1 C.2.1 hd (K p l e s m args below meth c H locs ls C hs hI hS hl hn hsl)
theorem aw_ldiv {x y : Int64} (hd : decode M.2.1 pc = .ok (.ldiv, 1)) (hq : pc + 1 = q) (hne : ¬ y = 0) (K : AW G M d N S n0 s0 P q L (.long (x / y) :: st) n sl h) : AW G M d N S n0 s0 P pc L (.long y :: .long x :: st) n sl h := by
  subst hq
  intro p l e s m args below meth c H locs ls C hs hI hS hl hn hsl
  exact lv_ldiv C.1 C.2.1 hd hne (K p l e s m args below meth c H locs ls C hs hI hS hl hn hsl)
theorem aw_lrem {x y : Int64} (hd : decode M.2.1 pc = .ok (.lrem, 1)) (hq : pc + 1 = q) (hne : ¬ y = 0) (K : AW G M d N S n0 s0 P q L (.long (x - x / y * y) :: st) n sl h) : AW G M d N S n0 s0 P pc L (.long y :: .long x :: st) n sl h := by
  subst hq
  intro p l e s m args below meth c H locs ls C hs hI hS hl hn hsl
  exact lv_lrem C.1 C.2.1 hd hne (K p l e s m args below meth c H locs ls C hs hI hS hl hn hsl)
theorem aw_lcmp {x y : Int64} (hd : decode M.2.1 pc = .ok (.lcmp, 1)) (hq : pc + 1 = q) (K : AW G M d N S n0 s0 P q L (.int (lg_cmp x y) :: st) n sl h) : AW G M d N S n0 s0 P pc L (.long y :: .long x :: st) n sl h := by
  subst hq
  intro p l e s m args below meth c H locs ls C hs hI hS hl hn hsl
  exact W.lcmp C.1 C.2.1 hd (K p l e s m args below meth c H locs ls C hs hI hS hl hn hsl)
theorem aw_fmul {x y : UInt32} (hd : decode M.2.1 pc = .ok (.fmul, 1)) (hq : pc + 1 = q) (hne : vf_n32 (FP.fmul x y)) (K : AW G M d N S n0 s0 P q L (.float (FP.fmul x y) :: st) n sl h) : AW G M d N S n0 s0 P pc L (.float y :: .float x :: st) n sl h := by
  subst hq
  intro p l e s m args below meth c H locs ls C hs hI hS hl hn hsl
  exact lv_fmul C.1 C.2.1 hd hne (K p l e s m args below meth c H locs ls C hs hI hS hl hn hsl)
theorem aw_fdiv {x y : UInt32} (hd : decode M.2.1 pc = .ok (.fdiv, 1)) (hq : pc + 1 = q) (hne : vf_n32 (FP.fdiv x y)) (K : AW G M d N S n0 s0 P q L (.float (FP.fdiv x y) :: st) n sl h) : AW G M d N S n0 s0 P pc L (.float y :: .float x :: st) n sl h := by
  subst hq
  intro p l e s m args below meth c H locs ls C hs hI hS hl hn hsl
  exact lv_fdiv C.1 C.2.1 hd hne (K p l e s m args below meth c H locs ls C hs hI hS hl hn hsl)
theorem aw_fsub {x y : UInt32} (hd : decode M.2.1 pc = .ok (.fsub, 1)) (hq : pc + 1 = q) (hne : vf_n32 (FP.fsub x y)) (K : AW G M d N S n0 s0 P q L (.float (FP.fsub x y) :: st) n sl h) : AW G M d N S n0 s0 P pc L (.float y :: .float x :: st) n sl h := by
  subst hq
  intro p l e s m args below meth c H locs ls C hs hI hS hl hn hsl
  exact lv_fsub C.1 C.2.1 hd hne (K p l e s m args below meth c H locs ls C hs hI hS hl hn hsl)
theorem aw_fcmp {x y : UInt32} {op : CmpOp} (hd : decode M.2.1 pc = .ok (.fcmp op, 1)) (hq : pc + 1 = q) (K : AW G M d N S n0 s0 P q L (.int (Op.cmpValue (FP.fcmp x y) op) :: st) n sl h) : AW G M d N S n0 s0 P pc L (.float y :: .float x :: st) n sl h := by
  subst hq
  intro p l e s m args below meth c H locs ls C hs hI hS hl hn hsl
  exact lv_fcmp C.1 C.2.1 hd (K p l e s m args below meth c H locs ls C hs hI hS hl hn hsl)
theorem aw_if_eq {x : Int32} {off : Int} {t : Nat} (hd : decode M.2.1 pc = .ok (.ifCond .eq off, 3)) (hq : pc + 3 = q) (ht : (pc : Int) + off = (t : Int)) (K1 : x = 0 → AW G M d N S n0 s0 P t L st n sl h) (K2 : ¬ (x = 0) → AW G M d N S n0 s0 P q L st n sl h) : AW G M d N S n0 s0 P pc L (.int x :: st) n sl h := by
  subst hq
  intro p l e s m args below meth c H locs ls C hs hI hS hl hn hsl
  exact lv_if_eq C.1 C.2.1 hd ht (fun z => K1 z p l e s m args below meth c H locs ls C hs hI hS hl hn hsl) (fun z => K2 z p l e s m args below meth c H locs ls C hs hI hS hl hn hsl)
theorem aw_icmp_eq {x y : Int32} {off : Int} {t : Nat} (hd : decode M.2.1 pc = .ok (.if_icmp .eq off, 3)) (hq : pc + 3 = q) (ht : (pc : Int) + off = (t : Int)) (K1 : x = y → AW G M d N S n0 s0 P t L st n sl h) (K2 : ¬ (x = y) → AW G M d N S n0 s0 P q L st n sl h) : AW G M d N S n0 s0 P pc L (.int y :: .int x :: st) n sl h := by
  subst hq
  intro p l e s m args below meth c H locs ls C hs hI hS hl hn hsl
  exact lv_icmp_eq C.1 C.2.1 hd ht (fun z => K1 z p l e s m args below meth c H locs ls C hs hI hS hl hn hsl) (fun z => K2 z p l e s m args below meth c H locs ls C hs hI hS hl hn hsl)
theorem aw_if_ne {x : Int32} {off : Int} {t : Nat} (hd : decode M.2.1 pc = .ok (.ifCond .ne off, 3)) (hq : pc + 3 = q) (ht : (pc : Int) + off = (t : Int)) (K1 : ¬ x = 0 → AW G M d N S n0 s0 P t L st n sl h) (K2 : ¬ (¬ x = 0) → AW G M d N S n0 s0 P q L st n sl h) : AW G M d N S n0 s0 P pc L (.int x :: st) n sl h := by
  subst hq
  intro p l e s m args below meth c H locs ls C hs hI hS hl hn hsl
  exact lv_if_ne C.1 C.2.1 hd ht (fun z => K1 z p l e s m args below meth c H locs ls C hs hI hS hl hn hsl) (fun z => K2 (fun z9 => z9 z) p l e s m args below meth c H locs ls C hs hI hS hl hn hsl)
theorem aw_icmp_ne {x y : Int32} {off : Int} {t : Nat} (hd : decode M.2.1 pc = .ok (.if_icmp .ne off, 3)) (hq : pc + 3 = q) (ht : (pc : Int) + off = (t : Int)) (K1 : ¬ x = y → AW G M d N S n0 s0 P t L st n sl h) (K2 : ¬ (¬ x = y) → AW G M d N S n0 s0 P q L st n sl h) : AW G M d N S n0 s0 P pc L (.int y :: .int x :: st) n sl h := by
  subst hq
  intro p l e s m args below meth c H locs ls C hs hI hS hl hn hsl
  exact lv_icmp_ne C.1 C.2.1 hd ht (fun z => K1 z p l e s m args below meth c H locs ls C hs hI hS hl hn hsl) (fun z => K2 (fun z9 => z9 z) p l e s m args below meth c H locs ls C hs hI hS hl hn hsl)
theorem aw_if_lt {x : Int32} {off : Int} {t : Nat} (hd : decode M.2.1 pc = .ok (.ifCond .lt off, 3)) (hq : pc + 3 = q) (ht : (pc : Int) + off = (t : Int)) (K1 : x < 0 → AW G M d N S n0 s0 P t L st n sl h) (K2 : ¬ (x < 0) → AW G M d N S n0 s0 P q L st n sl h) : AW G M d N S n0 s0 P pc L (.int x :: st) n sl h := by
  subst hq
  intro p l e s m args below meth c H locs ls C hs hI hS hl hn hsl
  exact lv_if_lt C.1 C.2.1 hd ht (fun z => K1 z p l e s m args below meth c H locs ls C hs hI hS hl hn hsl) (fun z => K2 z p l e s m args below meth c H locs ls C hs hI hS hl hn hsl)
theorem aw_icmp_lt {x y : Int32} {off : Int} {t : Nat} (hd : decode M.2.1 pc = .ok (.if_icmp .lt off, 3)) (hq : pc + 3 = q) (ht : (pc : Int) + off = (t : Int)) (K1 : x < y → AW G M d N S n0 s0 P t L st n sl h) (K2 : ¬ (x < y) → AW G M d N S n0 s0 P q L st n sl h) : AW G M d N S n0 s0 P pc L (.int y :: .int x :: st) n sl h := by
  subst hq
  intro p l e s m args below meth c H locs ls C hs hI hS hl hn hsl
  exact lv_icmp_lt C.1 C.2.1 hd ht (fun z => K1 z p l e s m args below meth c H locs ls C hs hI hS hl hn hsl) (fun z => K2 z p l e s m args below meth c H locs ls C hs hI hS hl hn hsl)
theorem aw_if_ge {x : Int32} {off : Int} {t : Nat} (hd : decode M.2.1 pc = .ok (.ifCond .ge off, 3)) (hq : pc + 3 = q) (ht : (pc : Int) + off = (t : Int)) (K1 : 0 ≤ x → AW G M d N S n0 s0 P t L st n sl h) (K2 : ¬ (0 ≤ x) → AW G M d N S n0 s0 P q L st n sl h) : AW G M d N S n0 s0 P pc L (.int x :: st) n sl h := by
  subst hq
  intro p l e s m args below meth c H locs ls C hs hI hS hl hn hsl
  exact lv_if_ge C.1 C.2.1 hd ht (fun z => K1 z p l e s m args below meth c H locs ls C hs hI hS hl hn hsl) (fun z => K2 z p l e s m args below meth c H locs ls C hs hI hS hl hn hsl)
theorem aw_icmp_ge {x y : Int32} {off : Int} {t : Nat} (hd : decode M.2.1 pc = .ok (.if_icmp .ge off, 3)) (hq : pc + 3 = q) (ht : (pc : Int) + off = (t : Int)) (K1 : y ≤ x → AW G M d N S n0 s0 P t L st n sl h) (K2 : ¬ (y ≤ x) → AW G M d N S n0 s0 P q L st n sl h) : AW G M d N S n0 s0 P pc L (.int y :: .int x :: st) n sl h := by
  subst hq
  intro p l e s m args below meth c H locs ls C hs hI hS hl hn hsl
  exact lv_icmp_ge C.1 C.2.1 hd ht (fun z => K1 z p l e s m args below meth c H locs ls C hs hI hS hl hn hsl) (fun z => K2 z p l e s m args below meth c H locs ls C hs hI hS hl hn hsl)
theorem aw_if_gt {x : Int32} {off : Int} {t : Nat} (hd : decode M.2.1 pc = .ok (.ifCond .gt off, 3)) (hq : pc + 3 = q) (ht : (pc : Int) + off = (t : Int)) (K1 : 0 < x → AW G M d N S n0 s0 P t L st n sl h) (K2 : ¬ (0 < x) → AW G M d N S n0 s0 P q L st n sl h) : AW G M d N S n0 s0 P pc L (.int x :: st) n sl h := by
  subst hq
  intro p l e s m args below meth c H locs ls C hs hI hS hl hn hsl
  exact lv_if_gt C.1 C.2.1 hd ht (fun z => K1 z p l e s m args below meth c H locs ls C hs hI hS hl hn hsl) (fun z => K2 z p l e s m args below meth c H locs ls C hs hI hS hl hn hsl)
theorem aw_icmp_gt {x y : Int32} {off : Int} {t : Nat} (hd : decode M.2.1 pc = .ok (.if_icmp .gt off, 3)) (hq : pc + 3 = q) (ht : (pc : Int) + off = (t : Int)) (K1 : y < x → AW G M d N S n0 s0 P t L st n sl h) (K2 : ¬ (y < x) → AW G M d N S n0 s0 P q L st n sl h) : AW G M d N S n0 s0 P pc L (.int y :: .int x :: st) n sl h := by
  subst hq
  intro p l e s m args below meth c H locs ls C hs hI hS hl hn hsl
  exact lv_icmp_gt C.1 C.2.1 hd ht (fun z => K1 z p l e s m args below meth c H locs ls C hs hI hS hl hn hsl) (fun z => K2 z p l e s m args below meth c H locs ls C hs hI hS hl hn hsl)
theorem aw_if_le {x : Int32} {off : Int} {t : Nat} (hd : decode M.2.1 pc = .ok (.ifCond .le off, 3)) (hq : pc + 3 = q) (ht : (pc : Int) + off = (t : Int)) (K1 : x ≤ 0 → AW G M d N S n0 s0 P t L st n sl h) (K2 : ¬ (x ≤ 0) → AW G M d N S n0 s0 P q L st n sl h) : AW G M d N S n0 s0 P pc L (.int x :: st) n sl h := by
  subst hq
  intro p l e s m args below meth c H locs ls C hs hI hS hl hn hsl
  exact lv_if_le C.1 C.2.1 hd ht (fun z => K1 z p l e s m args below meth c H locs ls C hs hI hS hl hn hsl) (fun z => K2 z p l e s m args below meth c H locs ls C hs hI hS hl hn hsl)
theorem aw_icmp_le {x y : Int32} {off : Int} {t : Nat} (hd : decode M.2.1 pc = .ok (.if_icmp .le off, 3)) (hq : pc + 3 = q) (ht : (pc : Int) + off = (t : Int)) (K1 : x ≤ y → AW G M d N S n0 s0 P t L st n sl h) (K2 : ¬ (x ≤ y) → AW G M d N S n0 s0 P q L st n sl h) : AW G M d N S n0 s0 P pc L (.int y :: .int x :: st) n sl h := by
  subst hq
  intro p l e s m args below meth c H locs ls C hs hI hS hl hn hsl
  exact lv_icmp_le C.1 C.2.1 hd ht (fun z => K1 z p l e s m args below meth c H locs ls C hs hI hS hl hn hsl) (fun z => K2 z p l e s m args below meth c H locs ls C hs hI hS hl hn hsl)
/-- a truth value on the stack -/
def zb (b : Bool) : Int32 := bif b then 1 else 0
theorem zb_0 {b : Bool} : zb b = 0 ↔ b = false := by cases b <;> simp [zb]
theorem aw_ifeqB {b : Bool} {off : Int} {t : Nat} (hd : decode M.2.1 pc = .ok (.ifCond .eq off, 3)) (hq : pc + 3 = q) (ht : (pc : Int) + off = (t : Int)) (K1 : b = true → AW G M d N S n0 s0 P q L st n sl h) (K2 : ¬ (b = true) → AW G M d N S n0 s0 P t L st n sl h) : AW G M d N S n0 s0 P pc L (.int (zb b) :: st) n sl h :=
  aw_if_eq hd hq ht (fun z => K2 (by simp [zb_0.mp z])) (fun z => K1 (by cases b <;> simp_all [zb]))
theorem aw_ifneB {b : Bool} {off : Int} {t : Nat} (hd : decode M.2.1 pc = .ok (.ifCond .ne off, 3)) (hq : pc + 3 = q) (ht : (pc : Int) + off = (t : Int)) (K1 : b = true → AW G M d N S n0 s0 P t L st n sl h) (K2 : ¬ (b = true) → AW G M d N S n0 s0 P q L st n sl h) : AW G M d N S n0 s0 P pc L (.int (zb b) :: st) n sl h :=
  aw_if_ne hd hq ht (fun z => K1 (by cases b <;> simp_all [zb])) (fun z => K2 (by cases b <;> simp_all [zb]))
theorem aw_goto {off : Int} (hd : decode M.2.1 pc = .ok (.goto off, 3)) (ht : (pc : Int) + off = (q : Int)) (K : AW G M d N S n0 s0 P q L st n sl h) : AW G M d N S n0 s0 P pc L st n sl h := by
  intro p l e s m args below meth c H locs ls C hs hI hS hl hn hsl
  exact lv_goto C.1 C.2.1 hd ht (K p l e s m args below meth c H locs ls C hs hI hS hl hn hsl)
theorem aw_tabOut {dflt lo hi : Int} {offs : Array Int} {len : Nat} {x : Int32} (hd : decode M.2.1 pc = .ok (.tableswitch dflt lo hi offs, len)) (hx : x.toInt < lo ∨ hi < x.toInt) (ht : (pc : Int) + dflt = (q : Int)) (K : AW G M d N S n0 s0 P q L st n sl h) : AW G M d N S n0 s0 P pc L (.int x :: st) n sl h := by
  intro p l e s m args below meth c H locs ls C hs hI hS hl hn hsl
  exact lv_tableOut C.1 C.2.1 hd hx ht (K p l e s m args below meth c H locs ls C hs hI hS hl hn hsl)
theorem aw_tabIn {dflt lo hi : Int} {offs : Array Int} {len : Nat} {x : Int32} {off : Int} (hd : decode M.2.1 pc = .ok (.tableswitch dflt lo hi offs, len)) (h1 : ¬ x.toInt < lo) (h2 : ¬ hi < x.toInt) (ho : offs[(x.toInt - lo).toNat]? = some off) (ht : (pc : Int) + off = (q : Int)) (K : AW G M d N S n0 s0 P q L st n sl h) : AW G M d N S n0 s0 P pc L (.int x :: st) n sl h := by
  intro p l e s m args below meth c H locs ls C hs hI hS hl hn hsl
  exact lv_tableIn C.1 C.2.1 hd h1 h2 ho ht (K p l e s m args below meth c H locs ls C hs hI hS hl hn hsl)
/-- fewer locals, another name of a state -/
theorem aw_fewer (hz : zle L' L) (K : AW G M d N S n0 s0 P pc L' st n sl h) : AW G M d N S n0 s0 P pc L st n sl h := by
  intro p l e s m args below meth c H locs ls C hs hI hS hl hn hsl
  exact K p l e s m args below meth c H locs ls C hs hI hS ⟨hl.1, hl.2.1, fun i v hv => hl.2.2 i v (zle_at hz i v hv)⟩ hn hsl
/-- a field, as a pool's entry names it: class and slot, and the tables' words of it -/
def zF (own : String) (idx ci k : Nat) (fin : Bool) (ft : FieldType) : Prop := ∃ (C : String) (T : u_T) (N : Nat) (ty : Nat → FieldType), vwCl[ci]? = some (C, T, N) ∧ k < N ∧ Cond.fieldLink own idx (T k).1 (T k).2.1 (T k).2.2.1 ∈ lw_ok ∧ (∀ w ∈ u_ws C T N, w ∈ lw_ok) ∧ (∀ k, k < N → parseFieldDescriptor (T k).2.2.1 = some (ty k)) ∧ (∀ a, a < N → ∀ b, b < N → a ≠ b → (T a).2.1 ≠ (T b).2.1) ∧ (T k).2.2.2 = fin ∧ parseFieldDescriptor (T k).2.2.1 = some ft ∧ (fin = true → (T k).1 = own)
theorem aw_getf {idx ci k a : Nat} {fin : Bool} {ft : FieldType} {fs : List Value} {v : Value} (hd : decode M.2.1 pc = .ok (.getfield idx, 3)) (hq : pc + 3 = q) (hf : zF M.1.cls idx ci k fin ft) (ha : a < n) (hh : h a = .inr (ci, fs)) (hv : fs[k]? = some v) (K : AW G M d N S n0 s0 P q L (v :: st) n sl h) : AW G M d N S n0 s0 P pc L (.ref a :: st) n sl h := by
  subst hq
  intro p l e s m args below meth c H locs ls C hs hI hS hl hn hsl
  obtain ⟨Cn, T, N9, ty, hc, hk, hlink, hin, -⟩ := hf
  refine va_get (v := zV G v) C.1 C.2.1 C.2.2.2.2.1 hin C.2.2.2.1 C.2.2.2.2.2.2.2.2.1 hI.2.2 a (zWl_at hI.2.1 ha hh) hc k hk (C.2.2.2.2.1 _ hlink) (fun _ h9 => h9) ?_ hd (K p l e s m args below meth c H locs ls C hs hI hS hl hn hsl)
  rw [List.getElem?_map, hv]
  rfl
end ZR
