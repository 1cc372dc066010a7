/-! programs -/
def zQc (s s' : zs) : Prop := s'.2 = s.2 ∧ (∀ a, (a < 51 ∨ 63 < a ∨ a = 62) → s'.1 a = s.1 a) ∧ ∀ k, k < 4 → s'.1 51 k = s.1 51 k
def zQf (R R' : zr) : Prop := (∀ a, a ≠ 0 → a ≠ 1 → a ≠ 7 → R' a = R a) ∧ ∀ k, k < 8 → R' 0 k = R 0 k
theorem zQc.rfl' (s : zs) : zQc s s := ⟨rfl, fun _ _ => rfl, fun _ _ => rfl⟩
theorem zQf.rfl' (R : zr) : zQf R R := ⟨fun _ _ _ _ => rfl, fun _ _ => rfl⟩
theorem zPc.q {s s' : zs} (h : zPc s s') : zQc s s' := ⟨h.1, h.2.1, fun k hk => h.2.2 k (by omega) (by omega)⟩
theorem zPf.q {R R' : zr} (h : zPf R R') : zQf R R' := ⟨h.1, fun k hk => h.2 k (by omega) (by omega) (by omega)⟩
theorem zQc.tr {s t u : zs} (h : zQc s t) (h2 : zQc t u) : zQc s u := ⟨h2.1.trans h.1, fun a ha => (h2.2.1 a ha).trans (h.2.1 a ha), fun k hk => (h2.2.2 k hk).trans (h.2.2 k hk)⟩
theorem zQf.tr {R S T : zr} (h : zQf R S) (h2 : zQf S T) : zQf R T := ⟨fun a h0 h1 h7 => (h2.1 a h0 h1 h7).trans (h.1 a h0 h1 h7), fun k hk => (h2.2 k hk).trans (h.2 k hk)⟩
theorem zQc.f (s : zs) (k : Nat) (v : Int32) (hk : 4 ≤ k) : zQc s (zc s 51 k v) := ⟨rfl, fun a ha => zc_ne (by omega), fun j hj => zc_nk (by omega)⟩
theorem zQf.f (R : zr) (k : Nat) (v : Int32) (hk : 8 ≤ k) : zQf R (zm R 0 k v) := ⟨fun a h0 _ _ => zm_ne h0, fun j hj => zm_nk (by omega)⟩
theorem zAt.q {R R' : zr} (h : zAt R R') : zQf R R' := ⟨fun a h0 _ _ => h.1 a h0, fun k hk => h.2 k (by omega)⟩
theorem zCl.goq {s s' : zs} {c : Nat → Nat} {n : Nat} (h : zCl s c n) (k : zQc s s') : zCl s' c n := ⟨(k.2.2 3 (by decide)).trans h.1, fun j hj => by rw [k.2.1 62 (by omega)]; exact h.2 j hj⟩
theorem zRl.goq {R R' : zr} {c : Nat → Nat} {n : Nat} (h : zRl R c n) (k : zQf R R') : zRl R' c n := ⟨(k.2 7 (by decide)).trans h.1, fun j hj => by rw [k.1 6 (by decide) (by decide) (by decide)]; exact h.2 j hj⟩
/-- the end of the reference's loop -/
theorem r_gtEnd {R : zr} (h : ¬ R 0 14 = 0) (K : Nat) : f_X7_goesThrough_24 (K + 1) R = some R := by
  simp only [f_X7_goesThrough_24, h, if_false]
  split <;> rfl
/-- a command that is not possible ends the reference's loop -/
theorem r_gtBad {R S : zr} {c : Nat → Nat} {n p v k : Nat} (hc : zTc c n) (hp : p < n) (hT : zRl R c n) (h8 : R 0 8 = nI p) (h14 : R 0 14 = 0) (hr : f_X7_reasonOf R = some (nI v, S)) (hv : v < 4) (hv0 : v ≠ 0) (hS : zQf R S) (hat : ∃ i', i' ≤ n ∧ S 0 8 = nI i') (h12 : S 0 12 = nI k) (K : Nat) : ∃ R', f_X7_goesThrough_24 (K + 2) R = some R' ∧ zQf R R' ∧ R' 0 12 = nI k ∧ R' 0 13 = nI p ∧ R' 0 14 = nI v ∧ R' 1 = S 1 := by
  have hn := hc.1
  have e1 : ¬ nI n ≤ nI p := nI_ge hp (by omega)
  have nv : ¬ nI v = 0 := nI_ne0 (by omega) (by omega)
  have q1 : (zm S 0 14 (nI v)) 0 14 = nI v := zm_at
  have q2 : (zm (zm S 0 14 (nI v)) 0 13 (nI p)) 0 14 = nI v := by rw [zm_nk (by decide)]; exact q1
  have q3 : (zm (zm S 0 14 (nI v)) 0 13 (nI p)) 0 12 = nI k := by rw [zm_nk (by decide), zm_nk (by decide)]; exact h12
  have ek : nI k + 0 = nI k := nI_add k 0
  have f1 : zQf R (zm (zm (zm S 0 14 (nI v)) 0 13 (nI p)) 0 12 (nI k)) := ((hS.tr (zQf.f S 14 _ (by decide))).tr (zQf.f _ 13 _ (by decide))).tr (zQf.f _ 12 _ (by decide))
  obtain ⟨i', i1, i2⟩ := hat
  obtain ⟨T, j, t1, t2, t3, t4⟩ := r_passes (hT.goq f1) hc (show (zm (zm (zm S 0 14 (nI v)) 0 13 (nI p)) 0 12 (nI k)) 0 8 = nI i' by rw [zm_nk (by decide), zm_nk (by decide), zm_nk (by decide)]; exact i2) i1
  have eT : T 0 14 = nI v := by rw [t2.2 14 (by decide), zm_nk (by decide)]; exact q2
  refine ⟨T, ?_, f1.tr t2.q, ?_, ?_, eT, ?_⟩
  · show f_X7_goesThrough_24 (K + 1 + 1) R = _
    have step : f_X7_goesThrough_24 (K + 1 + 1) R = f_X7_goesThrough_24 (K + 1) T := by
      generalize K + 1 = K2
      simp only [f_X7_goesThrough_24, hT.1, h8, e1, if_false, h14, if_true, zlt, hr, Option.bind_some, q1, nv, q2, q3, ek, t1]
    rw [step]
    exact r_gtEnd (by rw [eT]; exact nv) K
  · rw [t2.2 12 (by decide)]
    exact zm_at
  · rw [t2.2 13 (by decide), zm_nk (by decide)]
    exact zm_at
  · rw [t2.1 1 (by decide), zm_ne (by decide), zm_ne (by decide), zm_ne (by decide)]
theorem p_loop {c : Nat → Nat} {n : Nat} (hc : zTc c n) : ∀ (d K K' : Nat) (s : zs) (R : zr) (r : zrow) (p k : Nat), n - p ≤ d → d < K → d + 1 < K' → zBr s 52 r → zRr R r → zVr r → zCl s c n → zRl R c n → p ≤ n → (p < n → c p ≠ 32) → k ≤ p → s.1 51 6 = nI k → s.1 51 7 = -1 → s.1 51 8 = 0 → R 0 8 = nI p → R 0 12 = nI k → R 0 13 = -1 → R 0 14 = 0 →
    ∃ o s' R' r', f_X3_tryOn_33 K s (nI p) = some o ∧ (o = Sum.inl s' ∨ o = Sum.inr s') ∧ f_X7_goesThrough_24 K' R = some R' ∧ zQc s s' ∧ zQf R R' ∧ (zBr s' 52 r' ∧ zRr R' r' ∧ zVr r') ∧ (∀ j, (3 ≤ j ∧ j < 9 ∨ 62 ≤ j ∧ j < 72) → r' j = r j) ∧ s'.1 51 6 = R' 0 12 ∧ s'.1 51 7 = R' 0 13 ∧ s'.1 51 8 = R' 0 14 := by
  have hn := hc.1
  intro d
  induction d with
  | zero =>
    intro K K' s R r p k hd hK hK' hB hR hV hTs hT hpn h32 hk h6 h7 h8 g8 g12 g13 g14
    obtain ⟨K, rfl⟩ : ∃ j, K = j + 1 := ⟨K - 1, by omega⟩
    obtain ⟨K', rfl⟩ : ∃ j, K' = j + 1 := ⟨K' - 1, by omega⟩
    have hle : nI n ≤ nI p := nI_le (by omega) (by omega)
    refine ⟨Sum.inl s, s, R, r, ?_, Or.inl rfl, ?_, zQc.rfl' s, zQf.rfl' R, ⟨hB, hR, hV⟩, fun _ _ => rfl, h6.trans g12.symm, h7.trans g13.symm, h8.trans g14.symm⟩
    · simp only [f_X3_tryOn_33, hTs.1, hle, if_true]
    · simp only [f_X7_goesThrough_24, hT.1, g8, hle, if_true]
  | succ d ih =>
    intro K K' s R r p k hd hK hK' hB hR hV hTs hT hpn h32 hk h6 h7 h8 g8 g12 g13 g14
    obtain ⟨K, rfl⟩ : ∃ j, K = j + 1 := ⟨K - 1, by omega⟩
    obtain ⟨K', rfl⟩ : ∃ j, K' = j + 2 := ⟨K' - 2, by omega⟩
    by_cases hp : p < n
    · have e1 : ¬ nI n ≤ nI p := nI_ge hp (by omega)
      have e2 : ¬ (100 : Int32) ≤ nI k := nI_ge (b := 100) (by omega) (by decide)
      obtain ⟨e, x1, x2⟩ := c_endCmd hTs hc hpn
      have hpe := x2.1
      by_cases hen : e < n
      · have e3 : ¬ nI n ≤ nI e := nI_ge hen (by omega)
        obtain ⟨v, s1, S, r1, a1, a2, a3, a4, a5, ⟨b1, b2, b3⟩, a6, a7, a8⟩ := p_perform hB hR hV hTs hT hc g8 hp (h32 hp) x2 hen
        have s13 : s1.1 51 3 = nI n := (a4.2.2 3 (by decide) (by decide)).trans hTs.1
        have s16 : s1.1 51 6 = nI k := (a4.2.2 6 (by decide) (by decide)).trans h6
        have s17 : s1.1 51 7 = -1 := (a4.2.2 7 (by decide) (by decide)).trans h7
        have S12 : S 0 12 = nI k := (a5.2 12 (by decide) (by decide) (by decide)).trans g12
        have S13 : S 0 13 = -1 := (a5.2 13 (by decide) (by decide) (by decide)).trans g13
        have p1 : (zc s1 51 8 (nI v)).1 51 8 = nI v := zc_at
        have bo : ∀ (t : zs), (∀ a, a ≠ 51 → t.1 a = s1.1 a) → zBr t 52 r1 := fun t ht => b1.cg (fun a h1 h2 => ht a (by omega))
        by_cases hv0 : v = 0
        · subst hv0
          have p1' : (zc s1 51 8 (nI 0)).1 51 8 = 0 := zc_at
          have p2 : (zc s1 51 8 (nI 0)).1 51 6 = nI k := by rw [zc_nk (by decide)]; exact s16
          have p3 : (zc (zc s1 51 8 (nI 0)) 51 6 (nI (k + 1))).1 51 3 = nI n := by rw [zc_nk (by decide), zc_nk (by decide)]; exact s13
          have fs : zQc s (zc (zc s1 51 8 (nI 0)) 51 6 (nI (k + 1))) := (a4.q.tr (zQc.f s1 8 _ (by decide))).tr (zQc.f _ 6 _ (by decide))
          obtain ⟨q, y1, y2⟩ := c_skip (hTs.goq fs) hc (i := e + 1) (e := n) (by omega) (Nat.le_refl n)
          have hq := y2.1
          have q1 : (zm S 0 14 (nI 0)) 0 14 = 0 := zm_at
          have q2 : (zm (zm S 0 14 (nI 0)) 0 13 (-1)) 0 14 = 0 := by rw [zm_nk (by decide)]; exact q1
          have q3 : (zm (zm S 0 14 (nI 0)) 0 13 (-1)) 0 12 = nI k := by rw [zm_nk (by decide), zm_nk (by decide)]; exact S12
          have fR : zQf R (zm (zm (zm S 0 14 (nI 0)) 0 13 (-1)) 0 12 (nI (k + 1))) := ((a5.q.tr (zQf.f S 14 _ (by decide))).tr (zQf.f _ 13 _ (by decide))).tr (zQf.f _ 12 _ (by decide))
          obtain ⟨T, j, t1, t2, t3, t4⟩ := r_passes (hT.goq fR) hc (show (zm (zm (zm S 0 14 (nI 0)) 0 13 (-1)) 0 12 (nI (k + 1))) 0 8 = nI (e + 1) by rw [zm_nk (by decide), zm_nk (by decide), zm_nk (by decide)]; exact a7 rfl) (by omega)
          have hjq : j = q := isNx_un t4 y2
          subst hjq
          have stepR : f_X7_goesThrough_24 (K' + 2) R = f_X7_goesThrough_24 (K' + 1) T := by
            show f_X7_goesThrough_24 (K' + 1 + 1) R = _
            generalize K' + 1 = K2
            simp only [f_X7_goesThrough_24, hT.1, g8, e1, if_false, g14, if_true, zlt, a2, Option.bind_some, q1, q2, q3, nI_1, t1]
          have stepC : f_X3_tryOn_33 (K + 1) s (nI p) = f_X3_tryOn_33 K (zc (zc s1 51 8 (nI 0)) 51 6 (nI (k + 1))) (nI j) := by
            simp only [f_X3_tryOn_33, hTs.1, e1, if_false, h6, e2, x1, Option.bind_some, e3, a1, zlt, p1', if_true, p2, nI_1, p3, y1]
          obtain ⟨o, s', R', r', z1, z2, z3, z4, z5, z6, z7, z8⟩ := ih K (K' + 1) (zc (zc s1 51 8 (nI 0)) 51 6 (nI (k + 1))) T r1 j (k + 1) (by omega) (by omega) (by omega) (bo _ (fun a ha => by rw [zc_ne ha, zc_ne ha])) (fun l hl => by rw [t2.1 1 (by decide), zm_ne (by decide), zm_ne (by decide), zm_ne (by decide)]; exact b2 l hl) b3 (hTs.goq fs) ((hT.goq fR).goq t2.q) hq.2 (fun h => by
            have := y2.2.2 h
            unfold qNs at this
            intro g
            rw [g] at this
            cases this) (by omega) zc_at (by rw [zc_nk (by decide), zc_nk (by decide)]; exact s17) (by rw [zc_nk (by decide)]; exact zc_at) t3 (by rw [t2.2 12 (by decide)]; exact zm_at) (by rw [t2.2 13 (by decide), zm_nk (by decide)]; exact zm_at) (by rw [t2.2 14 (by decide), zm_nk (by decide)]; exact q2)
          rw [stepC, stepR]
          exact ⟨o, s', R', r', z1, z2, z3, fs.tr z4, (fR.tr t2.q).tr z5, z6, fun l hl => (z7 l hl).trans (a6 l hl), z8⟩
        · have nv : ¬ nI v = 0 := nI_ne0 (by omega) (by omega)
          obtain ⟨R', w1, w2, w3, w4, w5, w6⟩ := r_gtBad hc hp hT g8 g14 a2 a3 hv0 a5.q a8 S12 K'
          have fs : zQc s (zc (zc s1 51 8 (nI v)) 51 7 (nI p)) := (a4.q.tr (zQc.f s1 8 _ (by decide))).tr (zQc.f _ 7 _ (by decide))
          refine ⟨Sum.inr (zc (zc s1 51 8 (nI v)) 51 7 (nI p)), zc (zc s1 51 8 (nI v)) 51 7 (nI p), R', r1, ?_, Or.inr rfl, w1, fs, w2, ⟨bo _ (fun a ha => by rw [zc_ne ha, zc_ne ha]), fun l hl => by rw [w6]; exact b2 l hl, b3⟩, a6, ?_, ?_, ?_⟩
          · simp only [f_X3_tryOn_33, hTs.1, e1, if_false, h6, e2, x1, Option.bind_some, e3, a1, zlt, p1, nv]
          · rw [w3, zc_nk (by decide), zc_nk (by decide)]
            exact s16
          · rw [w4]
            exact zc_at
          · rw [w5, zc_nk (by decide)]
            exact zc_at
      · have hen' : e = n := by omega
        subst hen'
        have e3 : nI e ≤ nI e := nI_le (Nat.le_refl e) (by omega)
        obtain ⟨S, d1, d2, d3⟩ := p_noend hT hc g8 hpn (fun j h1 h2 => of_decide_eq_false (x2.2.1 j h1 h2))
        have hr : f_X7_reasonOf R = some (nI 1, S) := by
          unfold f_X7_reasonOf
          rw [d1]
          rfl
        obtain ⟨R', w1, w2, w3, w4, w5, w6⟩ := r_gtBad hc hp hT g8 g14 hr (by decide) (by decide) d2.p.q d3 ((d2.2 12 (by decide) (by decide) (by decide)).trans g12) K'
        have p1 : (zc s 51 8 1).1 51 8 = 1 := zc_at
        have fs : zQc s (zc (zc s 51 8 1) 51 7 (nI p)) := (zQc.f s 8 _ (by decide)).tr (zQc.f _ 7 _ (by decide))
        refine ⟨Sum.inr (zc (zc s 51 8 1) 51 7 (nI p)), zc (zc s 51 8 1) 51 7 (nI p), R', r, ?_, Or.inr rfl, w1, fs, w2, ⟨hB.cg (fun a h1 h2 => by rw [zc_ne (by omega), zc_ne (by omega)]), fun l hl => ?_, hV⟩, fun _ _ => rfl, ?_, ?_, ?_⟩
        · simp only [f_X3_tryOn_33, hTs.1, e1, if_false, h6, e2, x1, Option.bind_some, e3, if_true, zlt, p1, show ¬ (1 : Int32) = 0 by decide]
        · rw [w6, d2.1 1 (by decide) (by decide)]
          exact hR l hl
        · rw [w3, zc_nk (by decide), zc_nk (by decide)]
          exact h6
        · rw [w4]
          exact zc_at
        · rw [w5, zc_nk (by decide)]
          exact zc_at
    · have hle : nI n ≤ nI p := nI_le (by omega) (by omega)
      refine ⟨Sum.inl s, s, R, r, ?_, Or.inl rfl, ?_, zQc.rfl' s, zQf.rfl' R, ⟨hB, hR, hV⟩, fun _ _ => rfl, h6.trans g12.symm, h7.trans g13.symm, h8.trans g14.symm⟩
      · simp only [f_X3_tryOn_33, hTs.1, hle, if_true]
      · simp only [f_X7_goesThrough_24, hT.1, g8, hle, if_true]
/-- a program is tried by the class, gone through by the reference -/
theorem p_try {s : zs} {R : zr} {c : Nat → Nat} {n : Nat} {r : zrow} (hc : zTc c n) (hB : zBr s 64 r) (hR : zRr R r) (hV : zVr r) (hTs : zCl s c n) (hT : zRl R c n) : ∃ s' R' r', f_X3_tryOn s 64 = some s' ∧ f_X7_goesThrough R = some R' ∧ zQc s s' ∧ zQf R R' ∧ (zBr s' 52 r' ∧ zRr R' r' ∧ zVr r') ∧ (∀ j, (3 ≤ j ∧ j < 9 ∨ 62 ≤ j ∧ j < 72) → r' j = r j) ∧ s'.1 51 6 = R' 0 12 ∧ s'.1 51 7 = R' 0 13 ∧ s'.1 51 8 = R' 0 14 := by
  have hn := hc.1
  obtain ⟨v, v1, v2, v3, v4⟩ := c_bcopy (s := s) (b := 52) (x := 64) (by omega)
  have fv : zQc s v := ⟨v2, fun a ha => v3 a (by omega), fun k hk => by rw [v3 51 (by omega)]⟩
  have fs : zQc s (zc (zc (zc v 51 6 0) 51 7 (-1)) 51 8 0) := ((fv.tr (zQc.f v 6 _ (by decide))).tr (zQc.f _ 7 _ (by decide))).tr (zQc.f _ 8 _ (by decide))
  have fR : zQf R (zm (zm (zm (zm R 0 12 0) 0 13 (-1)) 0 14 0) 0 8 0) := (((zQf.f R 12 _ (by decide)).tr (zQf.f _ 13 _ (by decide))).tr (zQf.f _ 14 _ (by decide))).tr (zQf.f _ 8 _ (by decide))
  have hTs2 := hTs.goq fs
  obtain ⟨p, y1, y2⟩ := c_skip hTs2 hc (i := 0) (e := n) (Nat.zero_le n) (Nat.le_refl n)
  obtain ⟨T, j, t1, t2, t3, t4⟩ := r_passes (hT.goq fR) hc (show (zm (zm (zm (zm R 0 12 0) 0 13 (-1)) 0 14 0) 0 8 0) 0 8 = nI 0 from zm_at) (Nat.zero_le n)
  have hjp : j = p := isNx_un t4 y2
  subst hjp
  have hj := y2.1
  obtain ⟨o, s', R', r', z1, z2, z3, z4, z5, z6, z7, z8⟩ := p_loop hc n zFu zFu (zc (zc (zc v 51 6 0) 51 7 (-1)) 51 8 0) T r j 0 (by omega) (zfu (by omega)) (zfu (by omega)) ((v4 r hB).cg (fun a h1 h2 => by rw [zc_ne (by omega), zc_ne (by omega), zc_ne (by omega)])) (fun l hl => by rw [t2.1 1 (by decide), zm_ne (by decide), zm_ne (by decide), zm_ne (by decide), zm_ne (by decide)]; exact hR l hl) hV hTs2 ((hT.goq fR).goq t2.q) hj.2 (fun h => by
    have := y2.2.2 h
    unfold qNs at this
    intro g
    rw [g] at this
    cases this) (Nat.zero_le j) (by rw [zc_nk (by decide), zc_nk (by decide)]; exact zc_at) (by rw [zc_nk (by decide)]; exact zc_at) zc_at t3 (by rw [t2.2 12 (by decide), zm_nk (by decide), zm_nk (by decide), zm_nk (by decide)]; exact zm_at) (by rw [t2.2 13 (by decide), zm_nk (by decide), zm_nk (by decide)]; exact zm_at) (by rw [t2.2 14 (by decide), zm_nk (by decide)]; exact zm_at)
  refine ⟨s', R', r', ?_, ?_, fs.tr z4, (fR.tr t2.q).tr z5, z6, z7, z8⟩
  · unfold f_X3_tryOn
    rw [v1, Option.bind_some]
    simp only [zlt, hTs2.1]
    rw [show f_X3_skipSpaces (zc (zc (zc v 51 6 0) 51 7 (-1)) 51 8 0) 0 (nI n) = _ from y1, Option.bind_some, z1]
    rcases z2 with rfl | rfl <;> rfl
  · unfold f_X7_goesThrough
    simp only [zlt, t1, Option.bind_some, z3]
/-- the row is put by, and put back -/
theorem r_tries2 (R : zr) : ∃ R', f_X7_triesAll_2 zFu R 0 = some R' ∧ (∀ a, a ≠ 3 → R' a = R a) ∧ ∀ k, k < 88 → R' 3 k = R 1 k := by
  have h := zli (fun k j x => f_X7_triesAll_2 k x (nI j)) (fun j x => (∀ a, a ≠ 3 → x a = R a) ∧ ∀ k, k < j → x 3 k = R 1 k) (fun o => ∃ R', o = some R' ∧ (∀ a, a ≠ 3 → R' a = R a) ∧ ∀ k, k < 88 → R' 3 k = R 1 k) 88 (fun k j x hj ⟨x1, x2⟩ => by
    have e1 : ¬ (88 : Int32) ≤ nI j := nI_ge hj (by decide)
    refine Or.inl ⟨zm x 3 j (R 1 j), ⟨fun a ha => ?_, fun k hk => ?_⟩, ?_⟩
    · rw [zm_ne ha]
      exact x1 a ha
    · by_cases h : k = j
      · rw [h, zm_at]
      · rw [zm_nk h]
        exact x2 k (by omega)
    · show f_X7_triesAll_2 (k + 1) x (nI j) = _
      simp only [f_X7_triesAll_2, e1, if_false, zin_n hj (by decide), if_true, cl_n (show j < 2 ^ 31 by omega), x1 1 (by decide), zlt, a1]) (fun k x ⟨x1, x2⟩ => by
    refine ⟨x, ?_, x1, x2⟩
    show f_X7_triesAll_2 (k + 1) x (nI 88) = _
    simp only [f_X7_triesAll_2, show (88 : Int32) ≤ nI 88 from nI_le (Nat.le_refl 88) (by decide), if_true]) 88 0 zFu R (by omega) (zfu (by omega)) ⟨fun _ _ => rfl, fun k hk => absurd hk (Nat.not_lt_zero k)⟩
  exact h
theorem r_tries32 (R : zr) : ∃ R', f_X7_triesAll_32 zFu R 0 = some R' ∧ (∀ a, a ≠ 1 → R' a = R a) ∧ ∀ k, k < 88 → R' 1 k = R 3 k := by
  have h := zli (fun k j x => f_X7_triesAll_32 k x (nI j)) (fun j x => (∀ a, a ≠ 1 → x a = R a) ∧ ∀ k, k < j → x 1 k = R 3 k) (fun o => ∃ R', o = some R' ∧ (∀ a, a ≠ 1 → R' a = R a) ∧ ∀ k, k < 88 → R' 1 k = R 3 k) 88 (fun k j x hj ⟨x1, x2⟩ => by
    have e1 : ¬ (88 : Int32) ≤ nI j := nI_ge hj (by decide)
    refine Or.inl ⟨zm x 1 j (R 3 j), ⟨fun a ha => ?_, fun k hk => ?_⟩, ?_⟩
    · rw [zm_ne ha]
      exact x1 a ha
    · by_cases h : k = j
      · rw [h, zm_at]
      · rw [zm_nk h]
        exact x2 k (by omega)
    · show f_X7_triesAll_32 (k + 1) x (nI j) = _
      simp only [f_X7_triesAll_32, e1, if_false, zin_n hj (by decide), if_true, cl_n (show j < 2 ^ 31 by omega), x1 3 (by decide), zlt, a1]) (fun k x ⟨x1, x2⟩ => by
    refine ⟨x, ?_, x1, x2⟩
    show f_X7_triesAll_32 (k + 1) x (nI 88) = _
    simp only [f_X7_triesAll_32, show (88 : Int32) ≤ nI 88 from nI_le (Nat.le_refl 88) (by decide), if_true]) 88 0 zFu R (by omega) (zfu (by omega)) ⟨fun _ _ => rfl, fun k hk => absurd hk (Nat.not_lt_zero k)⟩
  exact h
/-- the invariant holds behind a try -/
theorem zInv.q {s s' : zs} {R R' : zr} (h : zInv s R) (fs : zQc s s') (f : ∀ a, a ≠ 0 → a ≠ 1 → a ≠ 3 → a ≠ 7 → R' a = R a) (f0 : ∀ k, k < 8 → R' 0 k = R 0 k) (f1 : ∀ k, k < 88 → R' 1 k = R 1 k) : zInv s' R' := by
  obtain ⟨⟨r, hr⟩, hh, ht⟩ := h
  refine ⟨⟨r, ⟨hr.1, fun k hk => (f1 k hk).trans (hr.R k hk), hr.2.2.1.lw (Or.inl rfl) (fun a h1 h2 => fs.2.1 a ?_), fun i hi => ?_⟩⟩, hh.go fs.1 (fun a ha => fs.2.1 a (by omega)) (f0 3 (by decide)) (f 2 (by decide) (by decide) (by decide) (by decide)), ht.go (fs.2.2 3 (by decide)) (fs.2.1 62 (by omega)) (f0 7 (by decide)) (f 6 (by decide) (by decide) (by decide) (by decide))⟩
  · have : lo 74 = 64 := rfl
    omega
  · rw [fs.2.1 _ (by omega)]
    exact hr.2.2.2 i hi
/-- the text as numbers -/
theorem zTx.c {s : zs} {R : zr} (h : zTx s R) : ∃ c n, zTc c n ∧ zCl s c n ∧ zRl R c n := by
  obtain ⟨n, hn, t1, t2, t3⟩ := h
  refine ⟨fun j => (R 6 j).toNatClampNeg, n, ⟨hn, fun j hj => ?_⟩, ⟨t1, fun j hj => ?_⟩, ⟨t2, fun j hj => ?_⟩⟩
  · obtain ⟨c, c1, c2, c3, c4⟩ := t3 j hj
    show (R 6 j).toNatClampNeg ≤ 126
    rw [c4, cl_n (show c < 2 ^ 31 by omega)]
    exact c2
  · obtain ⟨c, c1, c2, c3, c4⟩ := t3 j hj
    show s.1 62 j = nI (R 6 j).toNatClampNeg
    rw [c4, c3, cl_n (show c < 2 ^ 31 by omega)]
  · obtain ⟨c, c1, c2, c3, c4⟩ := t3 j hj
    show R 6 j = nI (R 6 j).toNatClampNeg
    rw [c4, cl_n (show c < 2 ^ 31 by omega)]
/-- a try, on both sides -/
theorem p_tries {s : zs} {R : zr} (h : zInv s R) : ∃ s' R', f_X3_tryOn s 64 = some s' ∧ f_X7_triesAll R = some R' ∧ zInv s' R' ∧ zQc s s' ∧ (s'.1 51 7 = R' 0 13 ∧ s'.1 51 8 = R' 0 14) ∧ (∀ k, k < 88 → R' 1 k = R 1 k) ∧ R' 6 = R 6 ∧ R' 0 7 = R 0 7 := by
  have h0 := h
  obtain ⟨⟨r, hr⟩, -, ht⟩ := h
  obtain ⟨c, n, hc, hTs, hT⟩ := ht.c
  obtain ⟨A, A1, A2, A3⟩ := r_tries2 R
  have hRA : zRr A r := fun k hk => by rw [A2 1 (by decide)]; exact hr.R k hk
  have hTA : zRl A c n := ⟨by rw [A2 0 (by decide)]; exact hT.1, fun j hj => by rw [A2 6 (by decide)]; exact hT.2 j hj⟩
  obtain ⟨s', B, r', b1, b2, b3, b4, b5, b6, b7, b8, b9⟩ := p_try hc hr.B hRA hr.V hTs hTA
  obtain ⟨C, C1, C2, C3⟩ := r_tries32 B
  have f1 : ∀ k, k < 88 → C 1 k = R 1 k := fun k hk => by
    rw [C3 k hk, b4.1 3 (by decide) (by decide) (by decide)]
    exact A3 k hk
  have f0 : ∀ k, k < 8 → C 0 k = R 0 k := fun k hk => by rw [C2 0 (by decide), b4.2 k hk, A2 0 (by decide)]
  have ff : ∀ a, a ≠ 0 → a ≠ 1 → a ≠ 3 → a ≠ 7 → C a = R a := fun a g0 g1 g3 g7 => by rw [C2 a g1, b4.1 a g0 g1 g7, A2 a g3]
  refine ⟨s', C, b1, ?_, h0.q b3 ff f0 f1, b3, ⟨?_, ?_⟩, f1, ff 6 (by decide) (by decide) (by decide) (by decide), f0 7 (by decide)⟩
  · unfold f_X7_triesAll
    rw [A1, Option.bind_some, b2, Option.bind_some, C1]
    rfl
  · rw [C2 0 (by decide)]
    exact b8
  · rw [C2 0 (by decide)]
    exact b9
theorem q_place {s : zs} {R : zr} (h : zInv s R) (x1 : Int32) : zPr (f_X6_place s x1) (f_X7_place R x1) := by
  unfold f_X6_place f_X7_place
  rw [sB74]
  rcases g_zo x1 with ⟨w, rfl, g1, g2⟩ | ⟨g1, g2⟩
  · obtain ⟨s', R', a1, a2, a3, -, ⟨a4, a5⟩, -⟩ := p_tries h
    rw [g1, g2, if_pos rfl, if_pos rfl, a1, a2, Option.bind_some, Option.bind_some, a4, a5]
    by_cases g : R' 0 14 = 0
    · rw [if_pos g, if_pos g]
      exact ⟨_, _, _, rfl, rfl, a3⟩
    · rw [if_neg g, if_neg g]
      cases w
      · exact ⟨_, _, _, rfl, rfl, a3⟩
      · exact ⟨_, _, _, rfl, rfl, a3⟩
  · rw [g1, g2]
    exact ⟨_, _, _, rfl, rfl, h⟩
theorem q_run {s : zs} {R : zr} (h : zInv s R) : zPr (f_X6_run s) (f_X7_run R) := by
  have h0 := h
  obtain ⟨⟨r, hr⟩, -, ht⟩ := h
  obtain ⟨c, n, hc, hTs, hT⟩ := ht.c
  unfold f_X6_run f_X7_run
  rw [sB74]
  obtain ⟨s', R', a1, a2, a3, fs, ⟨a4, a5⟩, a6, a7, a8⟩ := p_tries h0
  rw [a1, a2, Option.bind_some, Option.bind_some, a5]
  by_cases g : R' 0 14 = 0
  · rw [if_pos g, if_pos g]
    obtain ⟨v, T, k1, k2, k3, k4, k5, hv⟩ := q_keep a3
    rw [k1, k2, Option.bind_some, Option.bind_some]
    -- the reference goes through once more, as the class did
    have hRT : zRr T r := fun k hk => by rw [k4 1 (by decide) (by decide), a6 k hk]; exact hr.R k hk
    have hTT : zRl T c n := ⟨by rw [k5 7 (by decide), a8]; exact hT.1, fun j hj => by rw [k4 6 (by decide) (by decide), a7]; exact hT.2 j hj⟩
    obtain ⟨s2, B, r', b1, b2, b3, b4, ⟨b5, b6, b7⟩, b8, b9, -⟩ := p_try hc hr.B hRT hr.V hTs hTT
    have hs2 : s2 = s' := Option.some.inj (b1.symm.trans a1)
    subst hs2
    obtain ⟨w, w1, w2, w3, w4⟩ := c_bcopy (s := v) (b := 64) (x := 52) (by omega)
    have hBw := w4 r' (b5.cg (fun a h1 h2 => k3 a (by omega)))
    rw [w1, b2, Option.bind_some, Option.bind_some]
    have ew : w.1 51 6 = B 0 12 := by rw [w3 51 (by omega), k3 51 (by omega)]; exact b9
    have hcv : zCu v (fun a => if a = 1 then T 1 else B a) r := by
      refine ⟨hr.V, hRT, hr.2.2.1.lw (Or.inl rfl) (fun a h1 h2 => ?_), fun i hi => ?_⟩
      · have : lo 74 = 64 := rfl
        rw [k3 a (by omega), fs.2.1 a (by omega)]
      · rw [k3 _ (by omega), fs.2.1 _ (by omega)]
        exact hr.2.2.2 i hi
    have hvB : zInv v (fun a => if a = 1 then T 1 else B a) := by
      refine hv.q (zQc.rfl' v) (fun a g0 g1 g3 g7 => ?_) (fun k hk => ?_) (fun k hk => rfl)
      · show (if a = 1 then T 1 else B a) = T a
        rw [if_neg g1]
        exact b4.1 a g0 g1 g7
      · exact b4.2 k hk
    refine ⟨w.1 51 6, w, B, rfl, by rw [ew], hvB.step (r' := r') hcv ⟨⟨w2, w3, fun a ha => (if_neg ha).symm⟩, ⟨hBw, b6, b7⟩, b8⟩⟩
  · rw [if_neg g, if_neg g]
    exact ⟨_, _, _, rfl, rfl, a3⟩
