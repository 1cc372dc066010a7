section ZR3
variable {G : zG} {M : zM} {d N S n0 s0 : Nat} {P : Option Value → zH → Prop} {pc q : Nat} {L L' : List (Option Value)} {st stk : List Value} {n sl : Nat} {h h' : zH}
theorem aw_getr {idx ci k a : Nat} {fs : List Value} {v : Value} (hd : decode M.2.1 pc = .ok (.getfield idx, 3)) (hq : pc + 3 = q) (hf : zFr M.1.cls idx ci k) (ha : a < n) (hh : h a = .inr (ci, fs)) (hv : fs[k]? = some v) (K : AW G M d N S n0 s0 P q L (v :: st) n sl h) : AW G M d N S n0 s0 P pc L (.ref a :: st) n sl h := by
  subst hq
  intro p l e s m args below meth c H locs ls C hs hI hS hl hn hsl
  obtain ⟨Cn, T, N9, hc, hk, hlink, hin⟩ := hf
  refine va_get (v := zV G v) C.1 C.2.1 C.2.2.2.2.1 hin C.2.2.2.1 C.2.2.2.2.2.2.2.2.1 hI.2.2 a (zWl_at hI.2.1 ha hh) hc k hk (C.2.2.2.2.1 _ hlink) (fun _ h9 => h9) ?_ hd (K p l e s m args below meth c H locs ls C hs hI hS hl hn hsl)
  rw [List.getElem?_map, hv]
  rfl
theorem aw_iald' {a len : Nat} {f : Nat → Int32} {i v : Int32} (hd : decode M.2.1 pc = .ok (.iaload, 1)) (hq : pc + 1 = q) (ha : a < n) (hh : h a = .inl (0, len, .inl f)) (hin : vp_in i len) (hv : f i.toNatClampNeg = v) (K : AW G M d N S n0 s0 P q L (.int v :: st) n sl h) : AW G M d N S n0 s0 P pc L (.int i :: .ref a :: st) n sl h := by
  subst hv
  exact aw_iald hd hq ha hh hin K
theorem aw_cald' {a len : Nat} {f : Nat → Int32} {i v : Int32} (hd : decode M.2.1 pc = .ok (.caload, 1)) (hq : pc + 1 = q) (ha : a < n) (hh : h a = .inl (1, len, .inl f)) (hin : vp_in i len) (hv : f i.toNatClampNeg = v) (K : AW G M d N S n0 s0 P q L (.int v :: st) n sl h) : AW G M d N S n0 s0 P pc L (.int i :: .ref a :: st) n sl h := by
  subst hv
  exact aw_cald hd hq ha hh hin K
/-- another name of the number on top -/
theorem aw_nm {x y : Int32} (e : x = y) (K : AW G M d N S n0 s0 P pc L (.int x :: st) n sl h) : AW G M d N S n0 s0 P pc L (.int y :: st) n sl h := e ▸ K
theorem aw_st {st' : List Value} (e : st' = st) (K : AW G M d N S n0 s0 P pc L st' n sl h) : AW G M d N S n0 s0 P pc L st n sl h := e ▸ K
theorem zc_nat : Cond.native arraycopyName ∈ lw_ok := lw_ok_of 305 (by decide +kernel) rfl
theorem zc_st : Cond.static arraycopyName ∈ lw_ok := lw_ok_of 304 (by decide +kernel) rfl
theorem zc_in : Cond.initialized "java/lang/System" ∈ lw_ok := lw_ok_of 10 (by decide +kernel) rfl
theorem zc_wd : nativeFrameWords "java/lang/System" "arraycopy" 5 + 11 ≤ 72 := by decide +kernel
theorem aw_copy {idx a0 a len0 len1 : Nat} {f g : Nat → Int32} {sp dp k : Int32} (hd : decode M.2.1 pc = .ok (.invokestatic idx, 3)) (hq : pc + 3 = q) (hl : Cond.methodLink M.1.cls idx arraycopyName ∈ lw_ok) (ha0 : a0 < n) (ha : a < n) (hh0 : h a0 = .inl (0, len0, .inl f)) (hh : h a = .inl (0, len1, .inl g)) (h1 : ¬ sp < 0) (h2 : ¬ dp < 0) (h3 : ¬ k < 0) (h4 : sp.toNatClampNeg + k.toNatClampNeg ≤ len0) (h5 : dp.toNatClampNeg + k.toNatClampNeg ≤ len1) (hdep : 2 ≤ d) (hcat : (st.map fun v => v.category).sum ≤ 8) (hH : zu h a (.inl (0, len1, .inl (va_cpy f g sp.toNatClampNeg dp.toNatClampNeg k.toNatClampNeg))) = h') (K : AW G M d N S n0 s0 P q L st n sl h') : AW G M d N S n0 s0 P pc L (.int k :: .int dp :: .ref a :: .int sp :: .ref a0 :: st) n sl h := by
  subst hq
  subst hH
  intro p l e s m args below meth c H locs ls C hs hI hS hl9 hn hsl
  refine va_copyi (ty := .int) C.1 C.2.1 (C.2.2.1.trans hl9.1.symm) C.2.2.2.1 (C.2.2.2.2.1 _ hl) (C.2.2.2.2.1 _ zc_nat) (C.2.2.2.2.1 _ zc_st) (C.2.2.2.2.1 _ zc_in) C.2.2.2.2.2.2.2.2.1 hI.2.2 zWl_D hS a0 a 0 0 (zWl_at hI.2.1 ha0 hh0) (zWl_at hI.2.1 ha hh) rfl rfl rfl h1 h2 h3 h4 h5 (fun _ _ => rfl) (by show 1 ≤ d; omega) (by rw [zV_cats]; have := zc_wd; show _ ≤ 40 * d; omega) hd (fun H1 locs1 hP hD hS1 => w_size fun hz => ?_)
  have hP : va_P G.2.2.1 vwCl (zWl G n (zu h a (.inl (0, len1, .inl (va_cpy f g sp.toNatClampNeg dp.toNatClampNeg k.toNatClampNeg))))) H1 := by
    rw [← zWl_set hI.2.1 ha]
    exact hP
  exact K p l e s m args below meth c H1 locs1 ls C hs (zI_of hs hn.1 hI.2.1 ha hP hz) hS1 hl9 hn hsl
theorem aw_aast {a len v ci : Nat} {vs : List Value} {f : Nat → Option Nat} {i : Int32} {T : u_T} {Nf : Nat} (hd : decode M.2.1 pc = .ok (.aastore, 1)) (hq : pc + 1 = q) (ha : a < n) (hh : h a = .inl (2, len, .inr (.inr (.inr (.inr f))))) (hv : v < n) (hhv : h v = .inr (ci, vs)) (hc : vwCl[ci]? = some (RX4, T, Nf)) (hin : vp_in i len) (hH : zu h a (.inl (2, len, .inr (.inr (.inr (.inr (va_up f i.toNatClampNeg (some v))))))) = h') (K : AW G M d N S n0 s0 P q L st n sl h') : AW G M d N S n0 s0 P pc L (.ref v :: .int i :: .ref a :: st) n sl h := by
  subst hq
  subst hH
  intro p l e s m args below meth c H locs ls C hs hI hS hl hn hsl
  refine va_astq C.1 C.2.1 C.2.2.2.2.2.2.2.2.1 hI.2.2 zWl_D hS a 2 v ci (zWl_at hI.2.1 ha hh) rfl (zWl_at hI.2.1 hv hhv) hc hin hd (fun H1 locs1 hP hD hS1 => w_size fun hz => ?_)
  have e1 : va_up (fun j => (f j).map (zA G)) i.toNatClampNeg (some (zA G v)) = fun j => (va_up f i.toNatClampNeg (some v) j).map (zA G) := by
    funext j
    unfold va_up
    split <;> rfl
  have hP : va_P G.2.2.1 vwCl (zWl G n (zu h a (.inl (2, len, .inr (.inr (.inr (.inr (va_up f i.toNatClampNeg (some v))))))))) H1 := by
    rw [← zWl_set hI.2.1 ha]
    rw [e1] at hP
    exact hP
  exact K p l e s m args below meth c H1 locs1 ls C hs (zI_of hs hn.1 hI.2.1 ha hP hz) hS1 hl hn hsl
end ZR3
/-- an index within, as a truth value -/
def zin (i : Int32) (n : Nat) : Bool := !(decide (i < 0)) && decide (i.toNatClampNeg < n)
theorem zin_in {i : Int32} {n : Nat} (h : zin i n = true) : vp_in i n := by
  simp only [zin, Bool.and_eq_true, Bool.not_eq_true', decide_eq_false_iff_not, decide_eq_true_eq] at h
  exact fun q => q.elim h.1 (fun q2 => absurd h.2 (Nat.not_lt.mpr q2))
theorem zin_lt {i : Int32} {n : Nat} (h : zin i n = true) : i.toNatClampNeg < n := by
  simp only [zin, Bool.and_eq_true, Bool.not_eq_true', decide_eq_false_iff_not, decide_eq_true_eq] at h
  exact h.2
def zlt {α β : Type} (e : α) (f : α → β) : β := f e
theorem zltd {α β : Type} {e : α} {f : α → β} {r : β} (H : zlt e f = r) : ∃ x, x = e ∧ f x = r := ⟨e, rfl, H⟩
theorem zt {α : Type} {c : Prop} [Decidable c] {a b r : α} (h : c) (H : (if c then a else b) = r) : a = r := by rw [if_pos h] at H; exact H
theorem zf {α : Type} {c : Prop} [Decidable c] {a b r : α} (h : ¬ c) (H : (if c then a else b) = r) : b = r := by rw [if_neg h] at H; exact H
theorem zio {α : Type} {c : Prop} [Decidable c] {a : Option α} {r : α} (H : (if c then a else none) = some r) : c ∧ a = some r := by
  split at H
  · exact ⟨‹c›, H⟩
  · cases H
theorem zbd {α β : Type} {x : Option α} {f : α → Option β} {r : β} (H : Option.bind x f = some r) : ∃ v, x = some v ∧ f v = some r := Option.bind_eq_some_iff.mp H
def zFu : Nat := 1000

abbrev zs : Type := (Nat → Nat → Int32) × (Nat → Nat)
abbrev zr : Type := Nat → Nat → Int32
abbrev zShp : Type := Nat × Nat × List (Option Nat)
def zfl : Nat → List (Option Nat) → (Nat → Int32) → List Value
  | _, [], _ => []
  | k, none :: l, r => .int (r k) :: zfl (k + 1) l r
  | k, some a :: l, r => .ref a :: zfl (k + 1) l r
def zcell (sh : zShp) (row : Nat → Int32) (P : Nat → Nat) : va_E := match sh.1 with
  | 0 => .inr (sh.2.1, zfl 0 sh.2.2 row)
  | 1 => .inl (0, sh.2.1, .inl row)
  | 2 => .inl (1, sh.2.1, .inl row)
  | 3 => .inl (2, sh.2.1, .inr (.inr (.inr (.inr (fun j => some (P j))))))
  | 4 => .inl (3, sh.2.1, .inr (.inr (.inr (.inr (fun j => some (87 + 3 * j))))))
  | 5 => .inl (4, sh.2.1, .inr (.inr (.inr (.inr (fun j => some (79 + j))))))
  | _ => .inr (1000, [])
def zSh (a : Nat) : zShp := ([(0, 6, [some 74, some 76, some 1, some 51]), (0, 1, [some 2, none]), (3, 4, []), (0, 4, [some 4, some 14, none, none, none, none, none, none]), (0, 0, [some 5, some 6, some 7, some 8, some 9, some 10, some 11, some 12, some 13, none, none, none, none, none]), (1, 8, []), (1, 16, []), (1, 5, []), (1, 5, []), (1, 5, []), (1, 10, []), (1, 10, []), (1, 10, []), (1, 16, []), (1, 10, []), (0, 4, [some 16, some 26, none, none, none, none, none, none]), (0, 0, [some 17, some 18, some 19, some 20, some 21, some 22, some 23, some 24, some 25, none, none, none, none, none]), (1, 8, []), (1, 16, []), (1, 5, []), (1, 5, []), (1, 5, []), (1, 10, []), (1, 10, []), (1, 10, []), (1, 16, []), (1, 10, []), (0, 4, [some 28, some 38, none, none, none, none, none, none]), (0, 0, [some 29, some 30, some 31, some 32, some 33, some 34, some 35, some 36, some 37, none, none, none, none, none]), (1, 8, []), (1, 16, []), (1, 5, []), (1, 5, []), (1, 5, []), (1, 10, []), (1, 10, []), (1, 10, []), (1, 16, []), (1, 10, []), (0, 4, [some 40, some 50, none, none, none, none, none, none]), (0, 0, [some 41, some 42, some 43, some 44, some 45, some 46, some 47, some 48, some 49, none, none, none, none, none]), (1, 8, []), (1, 16, []), (1, 5, []), (1, 5, []), (1, 5, []), (1, 10, []), (1, 10, []), (1, 10, []), (1, 16, []), (1, 10, []), (0, 3, [some 52, some 62, some 63, none, none, none, none, none, none]), (0, 0, [some 53, some 54, some 55, some 56, some 57, some 58, some 59, some 60, some 61, none, none, none, none, none]), (1, 8, []), (1, 16, []), (1, 5, []), (1, 5, []), (1, 5, []), (1, 10, []), (1, 10, []), (1, 10, []), (1, 16, []), (2, 100, []), (1, 8, []), (0, 0, [some 65, some 66, some 67, some 68, some 69, some 70, some 71, some 72, some 73, none, none, none, none, none]), (1, 8, []), (1, 16, []), (1, 5, []), (1, 5, []), (1, 5, []), (1, 10, []), (1, 10, []), (1, 10, []), (1, 16, []), (0, 4, [some 64, some 75, none, none, none, none, none, none]), (1, 10, []), (0, 2, [some 64, some 77, some 78, some 86, none]), (4, 11, []), (5, 7, []), (1, 11, []), (1, 11, []), (1, 11, []), (1, 11, []), (1, 11, []), (1, 11, []), (1, 11, []), (1, 55, []), (0, 5, [some 64, none, some 88, some 89, none, none, none]), (1, 16, []), (1, 16, []), (0, 5, [some 64, none, some 91, some 92, none, none, none]), (1, 16, []), (1, 16, []), (0, 5, [some 64, none, some 94, some 95, none, none, none]), (1, 16, []), (1, 16, []), (0, 5, [some 64, none, some 97, some 98, none, none, none]), (1, 16, []), (1, 16, []), (0, 5, [some 64, none, some 100, some 101, none, none, none]), (1, 16, []), (1, 16, []), (0, 5, [some 64, none, some 103, some 104, none, none, none]), (1, 16, []), (1, 16, []), (0, 5, [some 64, none, some 106, some 107, none, none, none]), (1, 16, []), (1, 16, []), (0, 5, [some 64, none, some 109, some 110, none, none, none]), (1, 16, []), (1, 16, []), (0, 5, [some 64, none, some 112, some 113, none, none, none]), (1, 16, []), (1, 16, []), (0, 5, [some 64, none, some 115, some 116, none, none, none]), (1, 16, []), (1, 16, []), (0, 5, [some 64, none, some 118, some 119, none, none, none]), (1, 16, []), (1, 16, [])] : List zShp).getD a (9, 0, [])
def zT (s : zs) (R : zr) : zH := fun a => zcell (zSh a) (s.1 a) s.2
def zc (s : zs) (a k : Nat) (v : Int32) : zs := (fun a' => if a' = a then upd (s.1 a) k v else s.1 a', s.2)
def zcr (s : zs) (a : Nat) (row : Nat → Int32) : zs := (fun a' => if a' = a then row else s.1 a', s.2)
def zcp (s : zs) (k v : Nat) : zs := (s.1, fun j => if j = k then v else s.2 j)
def zm (R : zr) (a k : Nat) (v : Int32) : zr := fun a' => if a' = a then upd (R a) k v else R a'
theorem zT_up {s : zs} {R : zr} {a : Nat} {row : Nat → Int32} {e : va_E} (ha : a < 120) (he : e = zcell (zSh a) row s.2) : zu (zT s R) a e = zT (zcr s a row) R := by
  funext j
  unfold zu
  by_cases hj : j = a
  · subst hj
    rw [if_pos rfl, he]
    simp [zT, zcr, ha]
  · rw [if_neg hj]
    simp only [zT, zcr, if_neg hj]
theorem zT_upP {s : zs} {R : zr} {k v : Nat} : zu (zT s R) 2 (.inl (2, 4, .inr (.inr (.inr (.inr (va_up (fun j => some (s.2 j)) k (some v))))))) = zT (zcp s k v) R := by
  funext j
  unfold zu
  by_cases hj : j = 2
  · subst hj
    rw [if_pos rfl]
    show _ = zcell (zSh 2) (s.1 2) (fun j => if j = k then v else s.2 j)
    show _ = (Sum.inl (2, 4, .inr (.inr (.inr (.inr (fun j => some (if j = k then v else s.2 j)))))) : va_E)
    have e9 : va_up (fun j => some (s.2 j)) k (some v) = fun j => some (if j = k then v else s.2 j) := by
      funext j
      unfold va_up
      split <;> simp_all
    rw [e9]
  · rw [if_neg hj]
    have hne : (zSh j).1 ≠ 3 := by
      intro h3
      by_cases hb : j < 120
      · have : ∀ i, i < 120 → i ≠ 2 → (zSh i).1 ≠ 3 := by decide +kernel
        exact this j hb hj h3
      · have : zSh j = (9, 0, []) := by
          unfold zSh
          rw [List.getD_eq_getElem?_getD, List.getElem?_eq_none (by simpa using Nat.le_of_not_lt hb)]
          rfl
        rw [this] at h3
        cases h3
    have key : ∀ (row : Nat → Int32), zcell (zSh j) row s.2 = zcell (zSh j) row (zcp s k v).2 := by
      intro row
      generalize zSh j = sh at hne
      obtain ⟨x, y, z⟩ := sh
      match x, hne with
      | 0, _ => rfl
      | 1, _ => rfl
      | 2, _ => rfl
      | 3, h => exact absurd rfl h
      | 4, _ => rfl
      | 5, _ => rfl
      | x + 6, _ => rfl
    exact key _
def zB (b : Nat) : Prop := b = 64 ∨ b = 52 ∨ b = 4 ∨ b = 16 ∨ b = 28 ∨ b = 40
def zX4 (x : Nat) : Prop := x = 74 ∨ x = 3 ∨ x = 15 ∨ x = 27 ∨ x = 39
def zU (u : Nat) : Prop := ∃ i, i < 11 ∧ u = 87 + 3 * i
def sB (x : Nat) : Nat := if x = 74 then 64 else x + 1
def sD (x : Nat) : Nat := if x = 74 then 75 else x + 11
theorem zB64 : zB 64 := Or.inl rfl
theorem zB52 : zB 52 := Or.inr (Or.inl rfl)
theorem zX4_74 : zX4 74 := Or.inl rfl
theorem zX4_B {x : Nat} (h : zX4 x) : zB (sB x) := by rcases h with rfl | rfl | rfl | rfl | rfl <;> simp [sB, zB]
theorem zB_lt {b k : Nat} (h : zB b) (hk : k ≤ 9) : b + k < 120 := by rcases h with rfl | rfl | rfl | rfl | rfl | rfl <;> omega
theorem zB_lt0 {b : Nat} (h : zB b) : b < 120 := zB_lt (k := 0) h (by omega)
theorem zX4_lt {x : Nat} (h : zX4 x) : x < 120 := by rcases h with rfl | rfl | rfl | rfl | rfl <;> omega
theorem zX4_ltD {x : Nat} (h : zX4 x) : sD x < 120 := by rcases h with rfl | rfl | rfl | rfl | rfl <;> decide
theorem zU_lt {u k : Nat} (h : zU u) (hk : k ≤ 2) : u + k < 120 := by obtain ⟨i, hi, rfl⟩ := h; omega
theorem zU_of {i : Int32} (h : zin i 11 = true) : zU (87 + 3 * i.toNatClampNeg) := ⟨_, zin_lt h, rfl⟩
theorem o_X0 {b : Nat} (hb : zB b) (s : zs) (R : zr) : zT s R b = .inr (0, [.ref (b + 1), .ref (b + 2), .ref (b + 3), .ref (b + 4), .ref (b + 5), .ref (b + 6), .ref (b + 7), .ref (b + 8), .ref (b + 9), .int (s.1 b 9), .int (s.1 b 10), .int (s.1 b 11), .int (s.1 b 12), .int (s.1 b 13)]) := by
  rcases hb with rfl | rfl | rfl | rfl | rfl | rfl <;> rfl
theorem p_X0_9 {b : Nat} (hb : zB b) {s : zs} {R : zr} {x9 : Int32} : zu (zT s R) b (.inr (0, ([.ref (b + 1), .ref (b + 2), .ref (b + 3), .ref (b + 4), .ref (b + 5), .ref (b + 6), .ref (b + 7), .ref (b + 8), .ref (b + 9), .int (s.1 b 9), .int (s.1 b 10), .int (s.1 b 11), .int (s.1 b 12), .int (s.1 b 13)] : List Value).set 9 (.int x9))) = zT (zc s b 9 x9) R := by
  rcases hb with rfl | rfl | rfl | rfl | rfl | rfl <;> exact zT_up (row := upd (s.1 _) 9 x9) (by decide) rfl
theorem p_X0_10 {b : Nat} (hb : zB b) {s : zs} {R : zr} {x9 : Int32} : zu (zT s R) b (.inr (0, ([.ref (b + 1), .ref (b + 2), .ref (b + 3), .ref (b + 4), .ref (b + 5), .ref (b + 6), .ref (b + 7), .ref (b + 8), .ref (b + 9), .int (s.1 b 9), .int (s.1 b 10), .int (s.1 b 11), .int (s.1 b 12), .int (s.1 b 13)] : List Value).set 10 (.int x9))) = zT (zc s b 10 x9) R := by
  rcases hb with rfl | rfl | rfl | rfl | rfl | rfl <;> exact zT_up (row := upd (s.1 _) 10 x9) (by decide) rfl
theorem p_X0_11 {b : Nat} (hb : zB b) {s : zs} {R : zr} {x9 : Int32} : zu (zT s R) b (.inr (0, ([.ref (b + 1), .ref (b + 2), .ref (b + 3), .ref (b + 4), .ref (b + 5), .ref (b + 6), .ref (b + 7), .ref (b + 8), .ref (b + 9), .int (s.1 b 9), .int (s.1 b 10), .int (s.1 b 11), .int (s.1 b 12), .int (s.1 b 13)] : List Value).set 11 (.int x9))) = zT (zc s b 11 x9) R := by
  rcases hb with rfl | rfl | rfl | rfl | rfl | rfl <;> exact zT_up (row := upd (s.1 _) 11 x9) (by decide) rfl
theorem p_X0_12 {b : Nat} (hb : zB b) {s : zs} {R : zr} {x9 : Int32} : zu (zT s R) b (.inr (0, ([.ref (b + 1), .ref (b + 2), .ref (b + 3), .ref (b + 4), .ref (b + 5), .ref (b + 6), .ref (b + 7), .ref (b + 8), .ref (b + 9), .int (s.1 b 9), .int (s.1 b 10), .int (s.1 b 11), .int (s.1 b 12), .int (s.1 b 13)] : List Value).set 12 (.int x9))) = zT (zc s b 12 x9) R := by
  rcases hb with rfl | rfl | rfl | rfl | rfl | rfl <;> exact zT_up (row := upd (s.1 _) 12 x9) (by decide) rfl
theorem p_X0_13 {b : Nat} (hb : zB b) {s : zs} {R : zr} {x9 : Int32} : zu (zT s R) b (.inr (0, ([.ref (b + 1), .ref (b + 2), .ref (b + 3), .ref (b + 4), .ref (b + 5), .ref (b + 6), .ref (b + 7), .ref (b + 8), .ref (b + 9), .int (s.1 b 9), .int (s.1 b 10), .int (s.1 b 11), .int (s.1 b 12), .int (s.1 b 13)] : List Value).set 13 (.int x9))) = zT (zc s b 13 x9) R := by
  rcases hb with rfl | rfl | rfl | rfl | rfl | rfl <;> exact zT_up (row := upd (s.1 _) 13 x9) (by decide) rfl
theorem o_X4 {x : Nat} (hx : zX4 x) (s : zs) (R : zr) : zT s R x = .inr (4, [.ref (sB x), .ref (sD x), .int (s.1 x 2), .int (s.1 x 3), .int (s.1 x 4), .int (s.1 x 5), .int (s.1 x 6), .int (s.1 x 7)]) := by
  rcases hx with rfl | rfl | rfl | rfl | rfl <;> rfl
theorem p_X4_2 {x : Nat} (hx : zX4 x) {s : zs} {R : zr} {x9 : Int32} : zu (zT s R) x (.inr (4, ([.ref (sB x), .ref (sD x), .int (s.1 x 2), .int (s.1 x 3), .int (s.1 x 4), .int (s.1 x 5), .int (s.1 x 6), .int (s.1 x 7)] : List Value).set 2 (.int x9))) = zT (zc s x 2 x9) R := by
  rcases hx with rfl | rfl | rfl | rfl | rfl <;> exact zT_up (row := upd (s.1 _) 2 x9) (by decide) rfl
theorem p_X4_3 {x : Nat} (hx : zX4 x) {s : zs} {R : zr} {x9 : Int32} : zu (zT s R) x (.inr (4, ([.ref (sB x), .ref (sD x), .int (s.1 x 2), .int (s.1 x 3), .int (s.1 x 4), .int (s.1 x 5), .int (s.1 x 6), .int (s.1 x 7)] : List Value).set 3 (.int x9))) = zT (zc s x 3 x9) R := by
  rcases hx with rfl | rfl | rfl | rfl | rfl <;> exact zT_up (row := upd (s.1 _) 3 x9) (by decide) rfl
theorem p_X4_4 {x : Nat} (hx : zX4 x) {s : zs} {R : zr} {x9 : Int32} : zu (zT s R) x (.inr (4, ([.ref (sB x), .ref (sD x), .int (s.1 x 2), .int (s.1 x 3), .int (s.1 x 4), .int (s.1 x 5), .int (s.1 x 6), .int (s.1 x 7)] : List Value).set 4 (.int x9))) = zT (zc s x 4 x9) R := by
  rcases hx with rfl | rfl | rfl | rfl | rfl <;> exact zT_up (row := upd (s.1 _) 4 x9) (by decide) rfl
theorem p_X4_5 {x : Nat} (hx : zX4 x) {s : zs} {R : zr} {x9 : Int32} : zu (zT s R) x (.inr (4, ([.ref (sB x), .ref (sD x), .int (s.1 x 2), .int (s.1 x 3), .int (s.1 x 4), .int (s.1 x 5), .int (s.1 x 6), .int (s.1 x 7)] : List Value).set 5 (.int x9))) = zT (zc s x 5 x9) R := by
  rcases hx with rfl | rfl | rfl | rfl | rfl <;> exact zT_up (row := upd (s.1 _) 5 x9) (by decide) rfl
theorem p_X4_6 {x : Nat} (hx : zX4 x) {s : zs} {R : zr} {x9 : Int32} : zu (zT s R) x (.inr (4, ([.ref (sB x), .ref (sD x), .int (s.1 x 2), .int (s.1 x 3), .int (s.1 x 4), .int (s.1 x 5), .int (s.1 x 6), .int (s.1 x 7)] : List Value).set 6 (.int x9))) = zT (zc s x 6 x9) R := by
  rcases hx with rfl | rfl | rfl | rfl | rfl <;> exact zT_up (row := upd (s.1 _) 6 x9) (by decide) rfl
theorem p_X4_7 {x : Nat} (hx : zX4 x) {s : zs} {R : zr} {x9 : Int32} : zu (zT s R) x (.inr (4, ([.ref (sB x), .ref (sD x), .int (s.1 x 2), .int (s.1 x 3), .int (s.1 x 4), .int (s.1 x 5), .int (s.1 x 6), .int (s.1 x 7)] : List Value).set 7 (.int x9))) = zT (zc s x 7 x9) R := by
  rcases hx with rfl | rfl | rfl | rfl | rfl <;> exact zT_up (row := upd (s.1 _) 7 x9) (by decide) rfl
theorem o_X5 {u : Nat} (hu : zU u) (s : zs) (R : zr) : zT s R u = .inr (5, [.ref (64), .int (s.1 u 1), .ref (u + 1), .ref (u + 2), .int (s.1 u 4), .int (s.1 u 5), .int (s.1 u 6)]) := by
  obtain ⟨i, hi, rfl⟩ := hu
  rcases (by omega : i = 0 ∨ i = 1 ∨ i = 2 ∨ i = 3 ∨ i = 4 ∨ i = 5 ∨ i = 6 ∨ i = 7 ∨ i = 8 ∨ i = 9 ∨ i = 10) with rfl | rfl | rfl | rfl | rfl | rfl | rfl | rfl | rfl | rfl | rfl <;> rfl
theorem p_X5_4 {u : Nat} (hu : zU u) {s : zs} {R : zr} {x9 : Int32} : zu (zT s R) u (.inr (5, ([.ref (64), .int (s.1 u 1), .ref (u + 1), .ref (u + 2), .int (s.1 u 4), .int (s.1 u 5), .int (s.1 u 6)] : List Value).set 4 (.int x9))) = zT (zc s u 4 x9) R := by
  obtain ⟨i, hi, rfl⟩ := hu
  rcases (by omega : i = 0 ∨ i = 1 ∨ i = 2 ∨ i = 3 ∨ i = 4 ∨ i = 5 ∨ i = 6 ∨ i = 7 ∨ i = 8 ∨ i = 9 ∨ i = 10) with rfl | rfl | rfl | rfl | rfl | rfl | rfl | rfl | rfl | rfl | rfl <;> exact zT_up (row := upd (s.1 _) 4 x9) (by decide) rfl
theorem p_X5_5 {u : Nat} (hu : zU u) {s : zs} {R : zr} {x9 : Int32} : zu (zT s R) u (.inr (5, ([.ref (64), .int (s.1 u 1), .ref (u + 1), .ref (u + 2), .int (s.1 u 4), .int (s.1 u 5), .int (s.1 u 6)] : List Value).set 5 (.int x9))) = zT (zc s u 5 x9) R := by
  obtain ⟨i, hi, rfl⟩ := hu
  rcases (by omega : i = 0 ∨ i = 1 ∨ i = 2 ∨ i = 3 ∨ i = 4 ∨ i = 5 ∨ i = 6 ∨ i = 7 ∨ i = 8 ∨ i = 9 ∨ i = 10) with rfl | rfl | rfl | rfl | rfl | rfl | rfl | rfl | rfl | rfl | rfl <;> exact zT_up (row := upd (s.1 _) 5 x9) (by decide) rfl
theorem p_X5_6 {u : Nat} (hu : zU u) {s : zs} {R : zr} {x9 : Int32} : zu (zT s R) u (.inr (5, ([.ref (64), .int (s.1 u 1), .ref (u + 1), .ref (u + 2), .int (s.1 u 4), .int (s.1 u 5), .int (s.1 u 6)] : List Value).set 6 (.int x9))) = zT (zc s u 6 x9) R := by
  obtain ⟨i, hi, rfl⟩ := hu
  rcases (by omega : i = 0 ∨ i = 1 ∨ i = 2 ∨ i = 3 ∨ i = 4 ∨ i = 5 ∨ i = 6 ∨ i = 7 ∨ i = 8 ∨ i = 9 ∨ i = 10) with rfl | rfl | rfl | rfl | rfl | rfl | rfl | rfl | rfl | rfl | rfl <;> exact zT_up (row := upd (s.1 _) 6 x9) (by decide) rfl
theorem o_X6 (s : zs) (R : zr) : zT s R 0 = .inr (6, [.ref (74), .ref (76), .ref (1), .ref (51)]) := by
  rfl
theorem o_X1 (s : zs) (R : zr) : zT s R 1 = .inr (1, [.ref (2), .int (s.1 1 1)]) := by
  rfl
theorem p_X1_1 {s : zs} {R : zr} {x9 : Int32} : zu (zT s R) 1 (.inr (1, ([.ref (2), .int (s.1 1 1)] : List Value).set 1 (.int x9))) = zT (zc s 1 1 x9) R := by
  exact zT_up (row := upd (s.1 _) 1 x9) (by decide) rfl
theorem o_X2 (s : zs) (R : zr) : zT s R 76 = .inr (2, [.ref (64), .ref (77), .ref (78), .ref (86), .int (s.1 76 4)]) := by
  rfl
theorem p_X2_4 {s : zs} {R : zr} {x9 : Int32} : zu (zT s R) 76 (.inr (2, ([.ref (64), .ref (77), .ref (78), .ref (86), .int (s.1 76 4)] : List Value).set 4 (.int x9))) = zT (zc s 76 4 x9) R := by
  exact zT_up (row := upd (s.1 _) 4 x9) (by decide) rfl
theorem o_X3 (s : zs) (R : zr) : zT s R 51 = .inr (3, [.ref (52), .ref (62), .ref (63), .int (s.1 51 3), .int (s.1 51 4), .int (s.1 51 5), .int (s.1 51 6), .int (s.1 51 7), .int (s.1 51 8)]) := by
  rfl
theorem p_X3_3 {s : zs} {R : zr} {x9 : Int32} : zu (zT s R) 51 (.inr (3, ([.ref (52), .ref (62), .ref (63), .int (s.1 51 3), .int (s.1 51 4), .int (s.1 51 5), .int (s.1 51 6), .int (s.1 51 7), .int (s.1 51 8)] : List Value).set 3 (.int x9))) = zT (zc s 51 3 x9) R := by
  exact zT_up (row := upd (s.1 _) 3 x9) (by decide) rfl
theorem p_X3_4 {s : zs} {R : zr} {x9 : Int32} : zu (zT s R) 51 (.inr (3, ([.ref (52), .ref (62), .ref (63), .int (s.1 51 3), .int (s.1 51 4), .int (s.1 51 5), .int (s.1 51 6), .int (s.1 51 7), .int (s.1 51 8)] : List Value).set 4 (.int x9))) = zT (zc s 51 4 x9) R := by
  exact zT_up (row := upd (s.1 _) 4 x9) (by decide) rfl
theorem p_X3_5 {s : zs} {R : zr} {x9 : Int32} : zu (zT s R) 51 (.inr (3, ([.ref (52), .ref (62), .ref (63), .int (s.1 51 3), .int (s.1 51 4), .int (s.1 51 5), .int (s.1 51 6), .int (s.1 51 7), .int (s.1 51 8)] : List Value).set 5 (.int x9))) = zT (zc s 51 5 x9) R := by
  exact zT_up (row := upd (s.1 _) 5 x9) (by decide) rfl
theorem p_X3_6 {s : zs} {R : zr} {x9 : Int32} : zu (zT s R) 51 (.inr (3, ([.ref (52), .ref (62), .ref (63), .int (s.1 51 3), .int (s.1 51 4), .int (s.1 51 5), .int (s.1 51 6), .int (s.1 51 7), .int (s.1 51 8)] : List Value).set 6 (.int x9))) = zT (zc s 51 6 x9) R := by
  exact zT_up (row := upd (s.1 _) 6 x9) (by decide) rfl
theorem p_X3_7 {s : zs} {R : zr} {x9 : Int32} : zu (zT s R) 51 (.inr (3, ([.ref (52), .ref (62), .ref (63), .int (s.1 51 3), .int (s.1 51 4), .int (s.1 51 5), .int (s.1 51 6), .int (s.1 51 7), .int (s.1 51 8)] : List Value).set 7 (.int x9))) = zT (zc s 51 7 x9) R := by
  exact zT_up (row := upd (s.1 _) 7 x9) (by decide) rfl
theorem p_X3_8 {s : zs} {R : zr} {x9 : Int32} : zu (zT s R) 51 (.inr (3, ([.ref (52), .ref (62), .ref (63), .int (s.1 51 3), .int (s.1 51 4), .int (s.1 51 5), .int (s.1 51 6), .int (s.1 51 7), .int (s.1 51 8)] : List Value).set 8 (.int x9))) = zT (zc s 51 8 x9) R := by
  exact zT_up (row := upd (s.1 _) 8 x9) (by decide) rfl
theorem o_X0a0 {b : Nat} (hb : zB b) (s : zs) (R : zr) : zT s R (b + 1) = .inl (0, 8, .inl (s.1 (b + 1))) := by
  rcases hb with rfl | rfl | rfl | rfl | rfl | rfl <;> rfl
theorem p_X0a0 {b : Nat} (hb : zB b) {s : zs} {R : zr} {k : Nat} {x9 : Int32} : zu (zT s R) (b + 1) (.inl (0, 8, .inl (upd (s.1 (b + 1)) k x9))) = zT (zc s (b + 1) k x9) R := by
  rcases hb with rfl | rfl | rfl | rfl | rfl | rfl <;> exact zT_up (row := upd (s.1 _) k x9) (by decide) rfl
theorem r_X0a0 {b : Nat} (hb : zB b) {s : zs} {R : zr} {row : Nat → Int32} : zu (zT s R) (b + 1) (.inl (0, 8, .inl row)) = zT (zcr s (b + 1) row) R := by
  rcases hb with rfl | rfl | rfl | rfl | rfl | rfl <;> exact zT_up (by decide) rfl
theorem o_X0a1 {b : Nat} (hb : zB b) (s : zs) (R : zr) : zT s R (b + 2) = .inl (0, 16, .inl (s.1 (b + 2))) := by
  rcases hb with rfl | rfl | rfl | rfl | rfl | rfl <;> rfl
theorem p_X0a1 {b : Nat} (hb : zB b) {s : zs} {R : zr} {k : Nat} {x9 : Int32} : zu (zT s R) (b + 2) (.inl (0, 16, .inl (upd (s.1 (b + 2)) k x9))) = zT (zc s (b + 2) k x9) R := by
  rcases hb with rfl | rfl | rfl | rfl | rfl | rfl <;> exact zT_up (row := upd (s.1 _) k x9) (by decide) rfl
theorem r_X0a1 {b : Nat} (hb : zB b) {s : zs} {R : zr} {row : Nat → Int32} : zu (zT s R) (b + 2) (.inl (0, 16, .inl row)) = zT (zcr s (b + 2) row) R := by
  rcases hb with rfl | rfl | rfl | rfl | rfl | rfl <;> exact zT_up (by decide) rfl
theorem o_X0a2 {b : Nat} (hb : zB b) (s : zs) (R : zr) : zT s R (b + 3) = .inl (0, 5, .inl (s.1 (b + 3))) := by
  rcases hb with rfl | rfl | rfl | rfl | rfl | rfl <;> rfl
theorem p_X0a2 {b : Nat} (hb : zB b) {s : zs} {R : zr} {k : Nat} {x9 : Int32} : zu (zT s R) (b + 3) (.inl (0, 5, .inl (upd (s.1 (b + 3)) k x9))) = zT (zc s (b + 3) k x9) R := by
  rcases hb with rfl | rfl | rfl | rfl | rfl | rfl <;> exact zT_up (row := upd (s.1 _) k x9) (by decide) rfl
theorem r_X0a2 {b : Nat} (hb : zB b) {s : zs} {R : zr} {row : Nat → Int32} : zu (zT s R) (b + 3) (.inl (0, 5, .inl row)) = zT (zcr s (b + 3) row) R := by
  rcases hb with rfl | rfl | rfl | rfl | rfl | rfl <;> exact zT_up (by decide) rfl
theorem o_X0a3 {b : Nat} (hb : zB b) (s : zs) (R : zr) : zT s R (b + 4) = .inl (0, 5, .inl (s.1 (b + 4))) := by
  rcases hb with rfl | rfl | rfl | rfl | rfl | rfl <;> rfl
theorem p_X0a3 {b : Nat} (hb : zB b) {s : zs} {R : zr} {k : Nat} {x9 : Int32} : zu (zT s R) (b + 4) (.inl (0, 5, .inl (upd (s.1 (b + 4)) k x9))) = zT (zc s (b + 4) k x9) R := by
  rcases hb with rfl | rfl | rfl | rfl | rfl | rfl <;> exact zT_up (row := upd (s.1 _) k x9) (by decide) rfl
theorem r_X0a3 {b : Nat} (hb : zB b) {s : zs} {R : zr} {row : Nat → Int32} : zu (zT s R) (b + 4) (.inl (0, 5, .inl row)) = zT (zcr s (b + 4) row) R := by
  rcases hb with rfl | rfl | rfl | rfl | rfl | rfl <;> exact zT_up (by decide) rfl
theorem o_X0a4 {b : Nat} (hb : zB b) (s : zs) (R : zr) : zT s R (b + 5) = .inl (0, 5, .inl (s.1 (b + 5))) := by
  rcases hb with rfl | rfl | rfl | rfl | rfl | rfl <;> rfl
theorem p_X0a4 {b : Nat} (hb : zB b) {s : zs} {R : zr} {k : Nat} {x9 : Int32} : zu (zT s R) (b + 5) (.inl (0, 5, .inl (upd (s.1 (b + 5)) k x9))) = zT (zc s (b + 5) k x9) R := by
  rcases hb with rfl | rfl | rfl | rfl | rfl | rfl <;> exact zT_up (row := upd (s.1 _) k x9) (by decide) rfl
theorem r_X0a4 {b : Nat} (hb : zB b) {s : zs} {R : zr} {row : Nat → Int32} : zu (zT s R) (b + 5) (.inl (0, 5, .inl row)) = zT (zcr s (b + 5) row) R := by
  rcases hb with rfl | rfl | rfl | rfl | rfl | rfl <;> exact zT_up (by decide) rfl
theorem o_X0a5 {b : Nat} (hb : zB b) (s : zs) (R : zr) : zT s R (b + 6) = .inl (0, 10, .inl (s.1 (b + 6))) := by
  rcases hb with rfl | rfl | rfl | rfl | rfl | rfl <;> rfl
theorem p_X0a5 {b : Nat} (hb : zB b) {s : zs} {R : zr} {k : Nat} {x9 : Int32} : zu (zT s R) (b + 6) (.inl (0, 10, .inl (upd (s.1 (b + 6)) k x9))) = zT (zc s (b + 6) k x9) R := by
  rcases hb with rfl | rfl | rfl | rfl | rfl | rfl <;> exact zT_up (row := upd (s.1 _) k x9) (by decide) rfl
theorem r_X0a5 {b : Nat} (hb : zB b) {s : zs} {R : zr} {row : Nat → Int32} : zu (zT s R) (b + 6) (.inl (0, 10, .inl row)) = zT (zcr s (b + 6) row) R := by
  rcases hb with rfl | rfl | rfl | rfl | rfl | rfl <;> exact zT_up (by decide) rfl
theorem o_X0a6 {b : Nat} (hb : zB b) (s : zs) (R : zr) : zT s R (b + 7) = .inl (0, 10, .inl (s.1 (b + 7))) := by
  rcases hb with rfl | rfl | rfl | rfl | rfl | rfl <;> rfl
theorem p_X0a6 {b : Nat} (hb : zB b) {s : zs} {R : zr} {k : Nat} {x9 : Int32} : zu (zT s R) (b + 7) (.inl (0, 10, .inl (upd (s.1 (b + 7)) k x9))) = zT (zc s (b + 7) k x9) R := by
  rcases hb with rfl | rfl | rfl | rfl | rfl | rfl <;> exact zT_up (row := upd (s.1 _) k x9) (by decide) rfl
theorem r_X0a6 {b : Nat} (hb : zB b) {s : zs} {R : zr} {row : Nat → Int32} : zu (zT s R) (b + 7) (.inl (0, 10, .inl row)) = zT (zcr s (b + 7) row) R := by
  rcases hb with rfl | rfl | rfl | rfl | rfl | rfl <;> exact zT_up (by decide) rfl
theorem o_X0a7 {b : Nat} (hb : zB b) (s : zs) (R : zr) : zT s R (b + 8) = .inl (0, 10, .inl (s.1 (b + 8))) := by
  rcases hb with rfl | rfl | rfl | rfl | rfl | rfl <;> rfl
theorem p_X0a7 {b : Nat} (hb : zB b) {s : zs} {R : zr} {k : Nat} {x9 : Int32} : zu (zT s R) (b + 8) (.inl (0, 10, .inl (upd (s.1 (b + 8)) k x9))) = zT (zc s (b + 8) k x9) R := by
  rcases hb with rfl | rfl | rfl | rfl | rfl | rfl <;> exact zT_up (row := upd (s.1 _) k x9) (by decide) rfl
theorem r_X0a7 {b : Nat} (hb : zB b) {s : zs} {R : zr} {row : Nat → Int32} : zu (zT s R) (b + 8) (.inl (0, 10, .inl row)) = zT (zcr s (b + 8) row) R := by
  rcases hb with rfl | rfl | rfl | rfl | rfl | rfl <;> exact zT_up (by decide) rfl
theorem o_X0a8 {b : Nat} (hb : zB b) (s : zs) (R : zr) : zT s R (b + 9) = .inl (0, 16, .inl (s.1 (b + 9))) := by
  rcases hb with rfl | rfl | rfl | rfl | rfl | rfl <;> rfl
theorem p_X0a8 {b : Nat} (hb : zB b) {s : zs} {R : zr} {k : Nat} {x9 : Int32} : zu (zT s R) (b + 9) (.inl (0, 16, .inl (upd (s.1 (b + 9)) k x9))) = zT (zc s (b + 9) k x9) R := by
  rcases hb with rfl | rfl | rfl | rfl | rfl | rfl <;> exact zT_up (row := upd (s.1 _) k x9) (by decide) rfl
theorem r_X0a8 {b : Nat} (hb : zB b) {s : zs} {R : zr} {row : Nat → Int32} : zu (zT s R) (b + 9) (.inl (0, 16, .inl row)) = zT (zcr s (b + 9) row) R := by
  rcases hb with rfl | rfl | rfl | rfl | rfl | rfl <;> exact zT_up (by decide) rfl
theorem o_X4a1 {x : Nat} (hx : zX4 x) (s : zs) (R : zr) : zT s R (sD x) = .inl (0, 10, .inl (s.1 (sD x))) := by
  rcases hx with rfl | rfl | rfl | rfl | rfl <;> rfl
theorem p_X4a1 {x : Nat} (hx : zX4 x) {s : zs} {R : zr} {k : Nat} {x9 : Int32} : zu (zT s R) (sD x) (.inl (0, 10, .inl (upd (s.1 (sD x)) k x9))) = zT (zc s (sD x) k x9) R := by
  rcases hx with rfl | rfl | rfl | rfl | rfl <;> exact zT_up (row := upd (s.1 _) k x9) (by decide) rfl
theorem r_X4a1 {x : Nat} (hx : zX4 x) {s : zs} {R : zr} {row : Nat → Int32} : zu (zT s R) (sD x) (.inl (0, 10, .inl row)) = zT (zcr s (sD x) row) R := by
  rcases hx with rfl | rfl | rfl | rfl | rfl <;> exact zT_up (by decide) rfl
theorem o_X5a2 {u : Nat} (hu : zU u) (s : zs) (R : zr) : zT s R (u + 1) = .inl (0, 16, .inl (s.1 (u + 1))) := by
  obtain ⟨i, hi, rfl⟩ := hu
  rcases (by omega : i = 0 ∨ i = 1 ∨ i = 2 ∨ i = 3 ∨ i = 4 ∨ i = 5 ∨ i = 6 ∨ i = 7 ∨ i = 8 ∨ i = 9 ∨ i = 10) with rfl | rfl | rfl | rfl | rfl | rfl | rfl | rfl | rfl | rfl | rfl <;> rfl
theorem p_X5a2 {u : Nat} (hu : zU u) {s : zs} {R : zr} {k : Nat} {x9 : Int32} : zu (zT s R) (u + 1) (.inl (0, 16, .inl (upd (s.1 (u + 1)) k x9))) = zT (zc s (u + 1) k x9) R := by
  obtain ⟨i, hi, rfl⟩ := hu
  rcases (by omega : i = 0 ∨ i = 1 ∨ i = 2 ∨ i = 3 ∨ i = 4 ∨ i = 5 ∨ i = 6 ∨ i = 7 ∨ i = 8 ∨ i = 9 ∨ i = 10) with rfl | rfl | rfl | rfl | rfl | rfl | rfl | rfl | rfl | rfl | rfl <;> exact zT_up (row := upd (s.1 _) k x9) (by decide) rfl
theorem r_X5a2 {u : Nat} (hu : zU u) {s : zs} {R : zr} {row : Nat → Int32} : zu (zT s R) (u + 1) (.inl (0, 16, .inl row)) = zT (zcr s (u + 1) row) R := by
  obtain ⟨i, hi, rfl⟩ := hu
  rcases (by omega : i = 0 ∨ i = 1 ∨ i = 2 ∨ i = 3 ∨ i = 4 ∨ i = 5 ∨ i = 6 ∨ i = 7 ∨ i = 8 ∨ i = 9 ∨ i = 10) with rfl | rfl | rfl | rfl | rfl | rfl | rfl | rfl | rfl | rfl | rfl <;> exact zT_up (by decide) rfl
theorem o_X5a3 {u : Nat} (hu : zU u) (s : zs) (R : zr) : zT s R (u + 2) = .inl (0, 16, .inl (s.1 (u + 2))) := by
  obtain ⟨i, hi, rfl⟩ := hu
  rcases (by omega : i = 0 ∨ i = 1 ∨ i = 2 ∨ i = 3 ∨ i = 4 ∨ i = 5 ∨ i = 6 ∨ i = 7 ∨ i = 8 ∨ i = 9 ∨ i = 10) with rfl | rfl | rfl | rfl | rfl | rfl | rfl | rfl | rfl | rfl | rfl <;> rfl
theorem p_X5a3 {u : Nat} (hu : zU u) {s : zs} {R : zr} {k : Nat} {x9 : Int32} : zu (zT s R) (u + 2) (.inl (0, 16, .inl (upd (s.1 (u + 2)) k x9))) = zT (zc s (u + 2) k x9) R := by
  obtain ⟨i, hi, rfl⟩ := hu
  rcases (by omega : i = 0 ∨ i = 1 ∨ i = 2 ∨ i = 3 ∨ i = 4 ∨ i = 5 ∨ i = 6 ∨ i = 7 ∨ i = 8 ∨ i = 9 ∨ i = 10) with rfl | rfl | rfl | rfl | rfl | rfl | rfl | rfl | rfl | rfl | rfl <;> exact zT_up (row := upd (s.1 _) k x9) (by decide) rfl
theorem r_X5a3 {u : Nat} (hu : zU u) {s : zs} {R : zr} {row : Nat → Int32} : zu (zT s R) (u + 2) (.inl (0, 16, .inl row)) = zT (zcr s (u + 2) row) R := by
  obtain ⟨i, hi, rfl⟩ := hu
  rcases (by omega : i = 0 ∨ i = 1 ∨ i = 2 ∨ i = 3 ∨ i = 4 ∨ i = 5 ∨ i = 6 ∨ i = 7 ∨ i = 8 ∨ i = 9 ∨ i = 10) with rfl | rfl | rfl | rfl | rfl | rfl | rfl | rfl | rfl | rfl | rfl <;> exact zT_up (by decide) rfl
theorem o_X2a3 (s : zs) (R : zr) : zT s R (86) = .inl (0, 55, .inl (s.1 (86))) := by
  rfl
theorem p_X2a3 {s : zs} {R : zr} {k : Nat} {x9 : Int32} : zu (zT s R) (86) (.inl (0, 55, .inl (upd (s.1 (86)) k x9))) = zT (zc s (86) k x9) R := by
  exact zT_up (row := upd (s.1 _) k x9) (by decide) rfl
theorem r_X2a3 {s : zs} {R : zr} {row : Nat → Int32} : zu (zT s R) (86) (.inl (0, 55, .inl row)) = zT (zcr s (86) row) R := by
  exact zT_up (by decide) rfl
theorem o_X3a1 (s : zs) (R : zr) : zT s R (62) = .inl (1, 100, .inl (s.1 (62))) := by
  rfl
theorem p_X3a1 {s : zs} {R : zr} {k : Nat} {x9 : Int32} : zu (zT s R) (62) (.inl (1, 100, .inl (upd (s.1 (62)) k x9))) = zT (zc s (62) k x9) R := by
  exact zT_up (row := upd (s.1 _) k x9) (by decide) rfl
theorem r_X3a1 {s : zs} {R : zr} {row : Nat → Int32} : zu (zT s R) (62) (.inl (1, 100, .inl row)) = zT (zcr s (62) row) R := by
  exact zT_up (by decide) rfl
theorem o_X3a2 (s : zs) (R : zr) : zT s R (63) = .inl (0, 8, .inl (s.1 (63))) := by
  rfl
theorem p_X3a2 {s : zs} {R : zr} {k : Nat} {x9 : Int32} : zu (zT s R) (63) (.inl (0, 8, .inl (upd (s.1 (63)) k x9))) = zT (zc s (63) k x9) R := by
  exact zT_up (row := upd (s.1 _) k x9) (by decide) rfl
theorem r_X3a2 {s : zs} {R : zr} {row : Nat → Int32} : zu (zT s R) (63) (.inl (0, 8, .inl row)) = zT (zcr s (63) row) R := by
  exact zT_up (by decide) rfl
theorem o_row {d9 : Nat} (hd9 : d9 < 7) (s : zs) (R : zr) : zT s R (79 + d9) = .inl (0, 11, .inl (s.1 (79 + d9))) := by
  rcases (by omega : d9 = 0 ∨ d9 = 1 ∨ d9 = 2 ∨ d9 = 3 ∨ d9 = 4 ∨ d9 = 5 ∨ d9 = 6) with rfl | rfl | rfl | rfl | rfl | rfl | rfl <;> rfl
theorem p_row {d9 : Nat} (hd9 : d9 < 7) {s : zs} {R : zr} {k : Nat} {x9 : Int32} : zu (zT s R) (79 + d9) (.inl (0, 11, .inl (upd (s.1 (79 + d9)) k x9))) = zT (zc s (79 + d9) k x9) R := by
  rcases (by omega : d9 = 0 ∨ d9 = 1 ∨ d9 = 2 ∨ d9 = 3 ∨ d9 = 4 ∨ d9 = 5 ∨ d9 = 6) with rfl | rfl | rfl | rfl | rfl | rfl | rfl <;> exact zT_up (row := upd (s.1 _) k x9) (by decide) rfl
theorem r_row {d9 : Nat} (hd9 : d9 < 7) {s : zs} {R : zr} {row : Nat → Int32} : zu (zT s R) (79 + d9) (.inl (0, 11, .inl row)) = zT (zcr s (79 + d9) row) R := by
  rcases (by omega : d9 = 0 ∨ d9 = 1 ∨ d9 = 2 ∨ d9 = 3 ∨ d9 = 4 ∨ d9 = 5 ∨ d9 = 6) with rfl | rfl | rfl | rfl | rfl | rfl | rfl <;> exact zT_up (by decide) rfl
theorem o_X1a0 (s : zs) (R : zr) : zT s R 2 = .inl (2, 4, .inr (.inr (.inr (.inr (fun j => some (s.2 j)))))) := rfl
theorem o_X2a1 (s : zs) (R : zr) : zT s R 77 = .inl (3, 11, .inr (.inr (.inr (.inr (fun j => some (87 + 3 * j)))))) := rfl
theorem o_X2a2 (s : zs) (R : zr) : zT s R 78 = .inl (4, 7, .inr (.inr (.inr (.inr (fun j => some (79 + j)))))) := rfl
abbrev AV (G : zG) (M : zM) (d sl : Nat) (P : Option Value → zH → Prop) (pc : Nat) (L : List (Option Value)) (st : List Value) (h : zH) : Prop := AW G M d 120 sl 120 sl P pc L st 120 sl h
abbrev zMv (G : zG) (d : Nat) (M : zM) (as : List Value) (sl : Nat) (h : zH) (P : Option Value → zH → Prop) : Prop := zMt G d M as 120 sl h 120 sl P
theorem zMv_of {G : zG} {M : zM} {d sl : Nat} {P : Option Value → zH → Prop} {as : List Value} {L : List (Option Value)} {h : zH} (hy : plainName M.1.cls = true) (hc1 : as.all (fun v => v.category == 1) = true) (hlen : as.length ≤ M.2.2.1) (hL : as.map some ++ List.replicate (M.2.2.1 - as.length) none = L) (K : AV G M d sl P 0 L [] h) : zMv G d M as sl h P :=
  zMt_of hy (fun v hv => by simpa using List.all_eq_true.mp hc1 v hv) hlen (Nat.le_refl _) (Nat.le_refl _) hL K
theorem zne {x y : Int32} (h : ¬ x = y) : ¬ x.toInt = y.toInt := fun q => h (Int32.toInt_inj.mp q)
