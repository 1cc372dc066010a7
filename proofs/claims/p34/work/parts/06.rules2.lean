section ZW
variable {p : Program} {l : Launch} {e : Env} {R : Room} {s : State} {m : MethodId} {args : Array Value} {below : List Frame} {meth : Method} {c : Code} {H : Heap} {locs : List Loc} {cells slots : Nat} {Q : State → Prop}
theorem w_size {g : JFrame} (k : H.size ≤ s.heap.size + cells → W p l e R s m args below meth c H locs cells slots Q g) : W p l e R s m args below meth c H locs cells slots Q g := by
  intro T hT X
  exact k (by rw [← hT]; exact X.heapSize) T hT X
theorem zI_of {G : zG} {n n0 a : Nat} {h : zH} (hs : s.heap.size = G.1 + n0) (hn0 : n0 ≤ n) (hn : n ≤ 1000000) (ha : a < n) (hP : va_P G.2.2.1 vwCl (zWl G n h) H) (hz : H.size ≤ s.heap.size + (n - n0)) : zI G n h H := by
  refine ⟨?_, hn, hP⟩
  have := (hP (n - 1) _ (zWl_get (show n - 1 < n by omega))).lt
  have h2 : G.1 + (n - 1) < H.size := this
  omega
/-- behind a call: the callee's answer and cells -/
theorem zrun {G : zG} {N' : Nat} {P' : Option Value → zH → Prop} {pc : Nat} {ls : Array Slot} {rest st0 : List Value} {a : Array Value} {mc ms : Nat}
    (hr : va_Run p l e R s m args below meth c H locs cells slots mc ms (F0 m pc ls st0) rest (zQ G N' P' a) (fun q => G.1 ≤ q)) (hS : va_S (fun q => G.1 ≤ q) s.heap H locs)
    (kk : ∀ (r : Option Value) (h' : zH) (H1 : Heap) (locs1 : List Loc), P' r h' → zI G N' h' H1 → va_S (fun q => G.1 ≤ q) s.heap H1 locs1 → W p l e R s m args below meth c H1 locs1 (cells + mc) (slots + ms) Q (F0 m (pc + 3) ls ((r.map (zV G)).toList ++ rest))) : W p l e R s m args below meth c H locs cells slots Q (F0 m pc ls st0) := by
  intro T hT X
  obtain ⟨v, st₀, t, T', L, h0, X', hL, e1, e2, ⟨⟨r, h', hv, hp, hI⟩, hz, hk⟩, st⟩ := hr T hT X
  cases hv
  rw [h0] at hz hk
  obtain ⟨t2, a1, b1⟩ := kk r h' T'.heap (locs ++ L) hp (by rw [e1]; exact hI) ⟨Nat.le_trans hS.1 (by rw [e1]; exact hz), fun q h1 h2 => by rw [e1, hk q (Nat.lt_of_lt_of_le h1 hS.1) h2]; exact hS.2.1 q h1 h2, fun q hq => by
      rcases List.mem_append.mp hq with h | h
      · exact hS.2.2 q h
      · exact hL q h⟩ T' rfl X'
  exact ⟨t2, st t2 a1, b1⟩
end ZW
section ZR2
variable {G : zG} {M : zM} {d N S n0 s0 : Nat} {P : Option Value → zH → Prop} {pc q : Nat} {L L' : List (Option Value)} {st stk : List Value} {n sl : Nat} {h h' : zH}
theorem aw_put {idx ci k a : Nat} {ft : FieldType} {fs : List Value} {v : Value} (hd : decode M.2.1 pc = .ok (.putfield idx, 3)) (hq : pc + 3 = q) (hf : zF M.1.cls idx ci k false ft) (ha : a < n) (hh : h a = .inr (ci, fs)) (hn9 : narrow ft (zV G v) = zV G v) (hfit : fits ft (zV G v) = true) (hk9 : k < fs.length) (hH : zu h a (.inr (ci, fs.set k v)) = h') (K : AW G M d N S n0 s0 P q L st n sl h') : AW G M d N S n0 s0 P pc L (v :: .ref a :: st) n sl h := by
  subst hq
  subst hH
  intro p l e s m args below meth c H locs ls C hs hI hS hl hn hsl
  obtain ⟨Cn, T, N9, ty, hc, hk, hlink, hin, hty, hnm, hfin, hdsc, -⟩ := hf
  refine va_put (v := zV G v) C.1 C.2.1 C.2.2.2.2.1 hin ty hty hnm C.2.2.2.1 C.2.2.2.2.2.2.2.2.1 hI.2.2 zWl_D hS a (zWl_at hI.2.1 ha hh) hc k hk (C.2.2.2.2.1 _ hlink) (fun _ h9 => h9) hfin hdsc hn9 hfit (by rw [List.length_map]; exact hk9) hd (fun H1 locs1 hP hD hS1 => w_size fun hz => ?_)
  have e1 : (fs.map (zV G)).set k (zV G v) = (fs.set k v).map (zV G) := List.map_set.symm
  have hP : va_P G.2.2.1 vwCl (zWl G n (zu h a (.inr (ci, fs.set k v)))) H1 := by
    rw [← zWl_set hI.2.1 ha]
    rw [e1] at hP
    exact hP
  exact K p l e s m args below meth c H1 locs1 ls C hs (zI_of hs hn.1 hI.2.1 ha hP hz) hS1 hl hn hsl
theorem aw_putF {idx ci k a : Nat} {ft : FieldType} {fs : List Value} {v : Value} (hd : decode M.2.1 pc = .ok (.putfield idx, 3)) (hq : pc + 3 = q) (hf : zF M.1.cls idx ci k true ft) (hini : M.1.name = "<init>") (ha : a < n) (hh : h a = .inr (ci, fs)) (hn9 : narrow ft (zV G v) = zV G v) (hfit : fits ft (zV G v) = true) (hk9 : k < fs.length) (hH : zu h a (.inr (ci, fs.set k v)) = h') (K : AW G M d N S n0 s0 P q L st n sl h') : AW G M d N S n0 s0 P pc L (v :: .ref a :: st) n sl h := by
  subst hq
  subst hH
  intro p l e s m args below meth c H locs ls C hs hI hS hl hn hsl
  obtain ⟨Cn, T, N9, ty, hc, hk, hlink, hin, hty, hnm, hfin, hdsc, hown⟩ := hf
  refine va_putF (v := zV G v) C.1 C.2.1 C.2.2.2.2.1 hin ty hty hnm C.2.2.2.1 C.2.2.2.2.2.2.2.2.1 hI.2.2 zWl_D hS a (zWl_at hI.2.1 ha hh) hc k hk (C.2.2.2.2.1 _ hlink) (fun _ h9 => h9) hfin (C.2.2.2.2.2.2.2.1 hini) (hown rfl) hdsc hn9 hfit (by rw [List.length_map]; exact hk9) hd (fun H1 locs1 hP hD hS1 => w_size fun hz => ?_)
  have e1 : (fs.map (zV G)).set k (zV G v) = (fs.set k v).map (zV G) := List.map_set.symm
  have hP : va_P G.2.2.1 vwCl (zWl G n (zu h a (.inr (ci, fs.set k v)))) H1 := by
    rw [← zWl_set hI.2.1 ha]
    rw [e1] at hP
    exact hP
  exact K p l e s m args below meth c H1 locs1 ls C hs (zI_of hs hn.1 hI.2.1 ha hP hz) hS1 hl hn hsl
theorem aw_iald {a len : Nat} {f : Nat → Int32} {i : Int32} (hd : decode M.2.1 pc = .ok (.iaload, 1)) (hq : pc + 1 = q) (ha : a < n) (hh : h a = .inl (0, len, .inl f)) (hin : vp_in i len) (K : AW G M d N S n0 s0 P q L (.int (f i.toNatClampNeg) :: st) n sl h) : AW G M d N S n0 s0 P pc L (.int i :: .ref a :: st) n sl h := by
  subst hq
  intro p l e s m args below meth c H locs ls C hs hI hS hl hn hsl
  exact va_iald C.1 C.2.1 C.2.2.2.2.2.2.2.2.1 hI.2.2 a 0 (zWl_at hI.2.1 ha hh) rfl hin hd (K p l e s m args below meth c H locs ls C hs hI hS hl hn hsl)
theorem aw_cald {a len : Nat} {f : Nat → Int32} {i : Int32} (hd : decode M.2.1 pc = .ok (.caload, 1)) (hq : pc + 1 = q) (ha : a < n) (hh : h a = .inl (1, len, .inl f)) (hin : vp_in i len) (K : AW G M d N S n0 s0 P q L (.int (f i.toNatClampNeg) :: st) n sl h) : AW G M d N S n0 s0 P pc L (.int i :: .ref a :: st) n sl h := by
  subst hq
  intro p l e s m args below meth c H locs ls C hs hI hS hl hn hsl
  exact va_cald C.1 C.2.1 C.2.2.2.2.2.2.2.2.1 hI.2.2 a 1 (zWl_at hI.2.1 ha hh) rfl hin hd (K p l e s m args below meth c H locs ls C hs hI hS hl hn hsl)
theorem aw_iast {a len : Nat} {f : Nat → Int32} {i x : Int32} (hd : decode M.2.1 pc = .ok (.iastore, 1)) (hq : pc + 1 = q) (ha : a < n) (hh : h a = .inl (0, len, .inl f)) (hin : vp_in i len) (hH : zu h a (.inl (0, len, .inl (upd f i.toNatClampNeg x))) = h') (K : AW G M d N S n0 s0 P q L st n sl h') : AW G M d N S n0 s0 P pc L (.int x :: .int i :: .ref a :: st) n sl h := by
  subst hq
  subst hH
  intro p l e s m args below meth c H locs ls C hs hI hS hl hn hsl
  refine va_iast C.1 C.2.1 C.2.2.2.2.2.2.2.2.1 hI.2.2 zWl_D hS a 0 (zWl_at hI.2.1 ha hh) rfl hin hd (fun H1 locs1 hP hD hS1 => w_size fun hz => ?_)
  have hP : va_P G.2.2.1 vwCl (zWl G n (zu h a (.inl (0, len, .inl (upd f i.toNatClampNeg x))))) H1 := by
    rw [← zWl_set hI.2.1 ha]
    exact hP
  exact K p l e s m args below meth c H1 locs1 ls C hs (zI_of hs hn.1 hI.2.1 ha hP hz) hS1 hl hn hsl
theorem aw_cast {a len : Nat} {f : Nat → Int32} {i x : Int32} (hd : decode M.2.1 pc = .ok (.castore, 1)) (hq : pc + 1 = q) (ha : a < n) (hh : h a = .inl (1, len, .inl f)) (hin : vp_in i len) (hH : zu h a (.inl (1, len, .inl (upd f i.toNatClampNeg (vp_nar .char x)))) = h') (K : AW G M d N S n0 s0 P q L st n sl h') : AW G M d N S n0 s0 P pc L (.int x :: .int i :: .ref a :: st) n sl h := by
  subst hq
  subst hH
  intro p l e s m args below meth c H locs ls C hs hI hS hl hn hsl
  refine va_cast C.1 C.2.1 C.2.2.2.2.2.2.2.2.1 hI.2.2 zWl_D hS a 1 (zWl_at hI.2.1 ha hh) rfl hin hd (fun H1 locs1 hP hD hS1 => w_size fun hz => ?_)
  have hP : va_P G.2.2.1 vwCl (zWl G n (zu h a (.inl (1, len, .inl (upd f i.toNatClampNeg (vp_nar .char x)))))) H1 := by
    rw [← zWl_set hI.2.1 ha]
    exact hP
  exact K p l e s m args below meth c H1 locs1 ls C hs (zI_of hs hn.1 hI.2.1 ha hP hz) hS1 hl hn hsl
/-- an entry of a row of references -/
theorem aw_aald {a len t b : Nat} {f : Nat → Option Nat} {i : Int32} (hd : decode M.2.1 pc = .ok (.aaload, 1)) (hq : pc + 1 = q) (ha : a < n) (ht : t = 2 ∨ t = 3 ∨ t = 4) (hh : h a = .inl (t, len, .inr (.inr (.inr (.inr f))))) (hin : vp_in i len) (hf : f i.toNatClampNeg = some b) (K : AW G M d N S n0 s0 P q L (.ref b :: st) n sl h) : AW G M d N S n0 s0 P pc L (.int i :: .ref a :: st) n sl h := by
  subst hq
  intro p l e s m args below meth c H locs ls C hs hI hS hl hn hsl
  have hlt : i.toNatClampNeg < len := Nat.not_le.mp fun q => hin (Or.inr q)
  have ha9 := zWl_at (G := G) hI.2.1 ha hh
  have hty : ∃ ty : FieldType, (zTy G)[t]? = some (G.2.2.2 t, ty) ∧ ty.isReference = true := by
    rcases ht with rfl | rfl | rfl <;> exact ⟨_, rfl, rfl⟩
  obtain ⟨ty, ht9, hr9⟩ := hty
  have hc9 := hI.2.2 a _ ha9
  refine W.aald (v := .ref (zA G b)) (ty := ty) C.1 C.2.1 hc9 ((C.2.2.2.2.2.2.2.2.1.2 t _ ht9).1 len (fun j => va_rf ((f j).map (zA G)))) hr9 (fun q => by cases q) ?_ ?_ rfl rfl hd (K p l e s m args below meth c H locs ls C hs hI hS hl hn hsl)
  · show ¬ (i < 0 ∨ (arrV _ _ _).slots.size ≤ _)
    rw [arrV_size]
    exact hin
  · show (arrV (G.2.2.2 t) len (fun j => va_rf ((f j).map (zA G)))).slots[i.toNatClampNeg]? = _
    rw [arrV_read _ _ hlt]
    show some (va_rf ((f i.toNatClampNeg).map (zA G))) = _
    rw [hf]
    rfl
theorem aw_alen {a t : Nat} {x : vp_A} {v : Int32} (hd : decode M.2.1 pc = .ok (.arraylength, 1)) (hq : pc + 1 = q) (ha : a < n) (ht : t < 5) (hh : h a = .inl (t, x)) (hv : Int32.ofNat x.1 = v) (K : AW G M d N S n0 s0 P q L (.int v :: st) n sl h) : AW G M d N S n0 s0 P pc L (.ref a :: st) n sl h := by
  subst hq
  intro p l e s m args below meth c H locs ls C hs hI hS hl hn hsl
  have hty : ∃ ty : FieldType, (zTy G)[t]? = some (G.2.2.2 t, ty) := by
    rcases (by omega : t = 0 ∨ t = 1 ∨ t = 2 ∨ t = 3 ∨ t = 4) with rfl | rfl | rfl | rfl | rfl <;> exact ⟨_, rfl⟩
  obtain ⟨ty, ht9⟩ := hty
  have e1 : (zX G x).1 = x.1 := by
    obtain ⟨n9, f | f | f | f | f⟩ := x <;> rfl
  exact va_alen C.1 C.2.1 C.2.2.2.2.2.2.2.2.1 hI.2.2 a t (zWl_at hI.2.1 ha hh) ht9 (by rw [e1]; exact hv) hd (K p l e s m args below meth c H locs ls C hs hI hS hl hn hsl)
/-- the end -/
theorem aw_ret {ty : FieldType} {x : Int32} (hd : decode M.2.1 pc = .ok (.ireturn, 1)) (hr : M.2.2.2 = some ty) (hna : narrow ty (.int x) = .int x) (hN : n = N) (hSl : sl = S) (hP : P (some (.int x)) h) : AW G M d N S n0 s0 P pc L [.int x] n sl h := by
  subst hN
  subst hSl
  intro p l e s m args below meth c H locs ls C hs hI hS hl hn hsl
  exact W.zret (v := x) C.1 C.2.1 (C.2.2.2.2.2.1.trans hr) hna (fun t ht hW => ⟨⟨some (.int x), h, rfl, hP, by rw [ht]; exact hI⟩, hS.F ht⟩) hS.2.2 hd C.2.2.2.2.2.2.1
theorem aw_retB {b : Bool} (hd : decode M.2.1 pc = .ok (.ireturn, 1)) (hr : M.2.2.2 = some .boolean) (hN : n = N) (hSl : sl = S) (hP : P (some (.int (zb b))) h) : AW G M d N S n0 s0 P pc L [.int (zb b)] n sl h :=
  aw_ret hd hr (by cases b <;> rfl) hN hSl hP
theorem aw_vret (hd : decode M.2.1 pc = .ok (.return_, 1)) (hr : M.2.2.2 = none) (hN : n = N) (hSl : sl = S) (hP : P none h) : AW G M d N S n0 s0 P pc L [] n sl h := by
  subst hN
  subst hSl
  intro p l e s m args below meth c H locs ls C hs hI hS hl hn hsl
  exact W.vret C.1 C.2.1 (C.2.2.2.2.2.1.trans hr) (fun t ht hW => ⟨⟨none, h, rfl, hP, by rw [ht]; exact hI⟩, hS.F ht⟩) hS.2.2 hd C.2.2.2.2.2.2.1
theorem aw_aret {Cn : String} {a : Nat} (hd : decode M.2.1 pc = .ok (.areturn, 1)) (hr : M.2.2.2 = some (.object Cn)) (hN : n = N) (hSl : sl = S) (hP : P (some (.ref a)) h) : AW G M d N S n0 s0 P pc L [.ref a] n sl h := by
  subst hN
  subst hSl
  intro p l e s m args below meth c H locs ls C hs hI hS hl hn hsl
  exact W.aret (v := .ref (zA G a)) C.1 C.2.1 (C.2.2.2.2.2.1.trans hr) (Or.inl ⟨_, rfl⟩) (Or.inr ⟨_, rfl⟩) (fun t ht hW => ⟨⟨some (.ref a), h, rfl, hP, by rw [ht]; exact hI⟩, hS.F ht⟩) hS.2.2 hd C.2.2.2.2.2.2.1
end ZR2
