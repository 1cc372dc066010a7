/-! THE LAW'S BODY, walked (this text is written by a program). -/
abbrev M_law : zM := (yL_law, cL_law, 14, some .boolean)
def zxs (G : zG) (j : Nat) : Int32 := nI (G.2.1 (1000 + j))
def zLen (G : zG) : Nat := G.2.1 31
def zPL : Option Value → zH → Prop := fun r _ => r = some (.int 1)
abbrev AL (G : zG) (pc : Nat) (L : List (Option Value)) (st : List Value) (s : zs) : Prop := AW G M_law 9 120 1395 0 0 zPL pc L st 120 1395 (zT s zR0)
abbrev zLH (pl : Int32) (T k : Nat) : List (Option Value) := [some (.ref 1000030), some (.ref 0), some (.int pl), some (.int (nI T)), some (.int (nI k)), none, none, none, none, none, none, none, none, none]
abbrev zLF (pl : Int32) (T k : Nat) (w a b : Int32) (bv : Int64) (c su v : Int32) : List (Option Value) := [some (.ref 1000030), some (.ref 0), some (.int pl), some (.int (nI T)), some (.int (nI k)), some (.int w), some (.int a), some (.int b), some (.long bv), none, some (.int c), some (.int su), some (.int v), none]
theorem zJr0 : zJr (zn7 10) := by
  refine ⟨fun p hp => ?_, ⟨3, by decide, rfl⟩, fun i hi h => ?_⟩
  · have : ∀ p, p < 16 → ¬ zn7 10 (72 + p) < 0 := by decide +kernel
    exact this p hp
  · have : ∀ i, i < 11 → f_X7_slotOf (zn7 10 6) = nI i → bt (zn7 10 7) i = true := by decide +kernel
    exact this i (by omega) h
section ZLAW
variable {G : zG}
theorem zscr_of {M : zM} {p : Program} {s : State} {m : MethodId} {args : Array Value} {meth : Method} {c : Code} (C : zC G M p s m args meth c) : zScr G s s.heap := C.2.2.2.2.2.2.2.2.2.2.2.2.2.2.2.2.2.2
theorem aw_slenL {M : zM} {d N S n0 s0 : Nat} {P : Option Value → zH → Prop} {pc q : Nat} {L : List (Option Value)} {st : List Value} {n sl : Nat} {h : zH} (hd : decode M.2.1 pc = .ok (.arraylength, 1)) (hq : pc + 1 = q) (K : AW G M d N S n0 s0 P q L (.int (nI (zLen G)) :: st) n sl h) : AW G M d N S n0 s0 P pc L (.ref 1000030 :: st) n sl h := by
  subst hq
  intro p l e s m args below meth c H locs ls C hs hI hS hl hn hsl
  obtain ⟨h1, h2, -⟩ := zscr_of C
  exact va_slen C.1 C.2.1 h1 (Nat.lt_of_lt_of_le h2 C.2.2.2.2.2.2.2.2.2.1) (Nat.not_le.mpr h2) hS hd (K p l e s m args below meth c H locs ls C hs hI hS hl hn hsl)
theorem aw_sld {M : zM} {d N S n0 s0 : Nat} {P : Option Value → zH → Prop} {pc q : Nat} {L : List (Option Value)} {st : List Value} {n sl : Nat} {h : zH} {x : Int32} {j : Nat} (hd : decode M.2.1 pc = .ok (.iaload, 1)) (hq : pc + 1 = q) (hx : x = nI j) (hj : j < zLen G) (hj2 : j < 2 ^ 31) (K : AW G M d N S n0 s0 P q L (.int (zxs G j) :: st) n sl h) : AW G M d N S n0 s0 P pc L (.int x :: .ref 1000030 :: st) n sl h := by
  subst hq
  subst hx
  intro p l e s m args below meth c H locs ls C hs hI hS hl hn hsl
  obtain ⟨h1, h2, -⟩ := zscr_of C
  have hin : vp_in (nI j) (G.2.1 31) := by
    intro h9
    rcases h9 with h9 | h9
    · exact nI_pos hj2 h9
    · rw [nI_clamp hj2] at h9
      exact absurd hj (Nat.not_lt.mpr h9)
  have key := K p l e s m args below meth c H locs ls C hs hI hS hl hn hsl
  refine va_sld C.1 C.2.1 h1 (Nat.lt_of_lt_of_le h2 C.2.2.2.2.2.2.2.2.2.1) (Nat.not_le.mpr h2) hS hin hd ?_
  rw [nI_clamp hj2]
  exact key
/-- the script's numbers -/
theorem k_cell {sl j : Nat} {h : zH} (hj : j < zLen G) (hL : zLen G < 2 ^ 31) : zMv G 0 M_L_cell [.ref 1000030, .int (nI j)] sl h (fun r h' => r = some (.int (zxs G j)) ∧ h' = h) := by
  refine zMv_of (L := [some (.ref 1000030), some (.int (nI j))]) (by decide) rfl (Nat.le_of_ble_eq_true rfl) rfl ?_
  refine aw_iload_n (q := 1) dL_cell_0 rfl rfl ?_
  refine aw_aload_n (q := 2) dL_cell_1 rfl rfl ?_
  refine aw_slenL (q := 3) dL_cell_2 rfl ?_
  refine aw_icmp_ge (q := 6) (t := 12) dL_cell_3 rfl (by decide) (fun hz => absurd hz (nI_ge hj hL)) (fun _ => ?_)
  refine aw_aload_n (q := 7) dL_cell_6 rfl rfl ?_
  refine aw_iload_n (q := 8) dL_cell_7 rfl rfl ?_
  refine aw_sld (q := 9) (j := j) dL_cell_8 rfl rfl hj (by omega) ?_
  refine aw_goto (q := 18) dL_cell_9 (by decide) ?_
  exact aw_ret dL_cell_18 rfl rfl rfl rfl ⟨rfl, rfl⟩
theorem dv3 : ∀ n, n < 261 → nI n / 3 = nI (n / 3) := by decide +kernel
theorem and15 (x : Int32) : ∃ m, m < 16 ∧ x &&& 15 = nI m := by
  refine ⟨(x &&& 15).toBitVec.toNat, ?_, ?_⟩
  · rw [Int32.toBitVec_and, BitVec.toNat_and]
    have : ((15 : Int32).toBitVec.toNat) = 15 := by decide
    rw [this]
    exact Nat.lt_of_le_of_lt Nat.and_le_right (by decide)
  · apply Int32.toBitVec_inj.mp
    show _ = BitVec.ofNat 32 _
    rw [BitVec.ofNat_toNat, BitVec.setWidth_eq]
theorem pin4 {R : zr} {r : zrow} (hR : zRr R r) (hV : zVr r) {p : Nat} (hp : p < 16) (hb : bt (tN' r) p = true) : f_X7_pinOf R (nI p) 4 = some 1 := by
  have g1 : f_X7_isIn (nI p) 0 15 = true := by
    have e : f_X7_isIn (nI p) 0 15 = _ := isIn_n (a := 0) (b := 15) (show p < 2 ^ 31 by omega) (by decide) (by decide)
    rw [e, decide_eq_true (Nat.zero_le p), decide_eq_true (show p ≤ 15 by omega)]
    rfl
  unfold f_X7_pinOf
  rw [if_pos g1, if_pos (by decide), r_chipOf hR hV (show p < 32 by omega), Option.bind_some, if_neg (by decide), if_neg (by decide), if_neg (by decide), if_neg (by decide), r_touchedNow hR hV, Option.bind_some, h7 _ (show p < 32 by omega), if_pos hb]
/-- what a turn begins with -/
def zJ (s : zs) (R : zr) (pl : Int32) : Prop := zInv s R ∧ zJr (R 1) ∧ R 1 6 = pl
theorem zJ.of {s : zs} {R : zr} {r : zrow} {pl : Int32} (hI : zInv s R) (hR : zRr R r) (hJ : zJr r) (hp : r 6 = pl) : zJ s R pl := ⟨hI, hJ.cg (fun p hp => hR _ (by omega)) (hR 4 (by decide)) (hR 6 (by decide)) (hR 7 (by decide)), (hR 6 (by decide)).trans hp⟩
theorem law_285 {pl : Int32} {T k : Nat} {s : zs} (K : AL G 32 (zLH pl T (k + 1)) [] s) : AL G 285 (zLH pl T k) [] s := by
  refine aw_iinc (q := 288) (v := nI (k + 1)) dL_law_285 rfl rfl (nI_1 k) (by decide) rfl rfl ?_
  exact aw_goto (q := 32) dL_law_288 (by decide) K
set_option maxRecDepth 100000 in
set_option maxHeartbeats 4000000 in
theorem law_252 {pl w a b c su v : Int32} {T k : Nat} {bv : Int64} {s : zs} {R : zr} {r' : zrow} (hI : zInv s R) (hR : zRr R r') (hJ : zJr r') (hp : r' 6 = pl) (hF : w = 10 → ∃ r i, zVr r ∧ sOk r i ∧ f_X7_slotOf (r 6) = nI i ∧ v = nI (ct 16 (bt (rT r i 7))) ∧ r' = rT r i) (K : ∀ s' R', zJ s' R' pl → AL G 32 (zLH pl T (k + 1)) [] s') : AL G 252 (zLF pl T k w a b bv c su v) [] s := by
  refine aw_aload_n (q := 253) dL_law_252 rfl rfl ?_
  refine aw_cv (q := 256) (d' := 0) (as := []) (b := 0) (ci := 6) (st := []) dL_law_253 rfl W_X6_suspects k_L_9 i_X6_suspects v_X6_suspects (by decide) (o_X6 s zR0) rfl rfl rfl (by decide) (Nat.le_of_ble_eq_true rfl) (c_X6_suspects s zR0) (Nat.le_refl _) (Nat.le_refl _) ?_
  rintro r9 h9 ⟨rfl, rfl⟩
  refine aw_st (st' := [.int (f_X6_suspects s)]) rfl ?_
  refine aw_istore (q := 258) (L' := [some (.ref 1000030), some (.ref 0), some (.int pl), some (.int (nI T)), some (.int (nI k)), some (.int w), some (.int a), some (.int b), some (.long bv), none, some (.int c), some (.int su), some (.int v), some (.int (f_X6_suspects s))]) dL_law_256 rfl (by decide) rfl rfl ?_
  refine aw_iload (q := 260) dL_law_258 rfl rfl ?_
  refine aw_bipush (q := 262) (v := 10) dL_law_260 rfl (by decide) ?_
  refine aw_icmp_neP (q := 265) (t := 285) dL_law_262 rfl (by decide) (fun hw => ?_) (fun _ => ?_)
  · obtain ⟨r, i, hV, hi, hs, hv, rfl⟩ := hF hw
    obtain ⟨j, hj, hs2, ht, hJ2⟩ := t_test (rT_V hV i) hJ
    obtain ⟨s2, R2, e1, hI2, hR2, -⟩ := st_ hI hR (q_test hI) ht
    have e7 : rT (rT r i) j 7 = rT r i 7 := rT_2 (hi.le hV) (hj.le (rT_V hV i)) hs hs2
    rw [e7, ← hv] at e1
    have es : f_X6_suspects s2 = f_X6_suspects s := by
      rw [q_suspects hI2, q_suspects hI]
      show R2 1 7 = R 1 7
      rw [hR2 7 (by decide), hR 7 (by decide), e7]
    refine aw_aload_n (q := 266) dL_law_265 rfl rfl ?_
    refine aw_cv (q := 269) (d' := 6) (as := []) (b := 0) (ci := 6) (st := []) dL_law_266 rfl W_X6_test k_L_64 i_X6_test v_X6_test (by decide) (o_X6 s zR0) rfl rfl rfl (by decide) (Nat.le_of_ble_eq_true rfl) (c_X6_test s zR0 e1) (Nat.le_refl _) (Nat.le_refl _) ?_
    rintro r9 h9 ⟨rfl, rfl⟩
    refine aw_st (st' := [.int v]) rfl ?_
    refine aw_iload (q := 271) dL_law_269 rfl rfl ?_
    refine aw_icmp_neP (q := 274) (t := 283) dL_law_271 rfl (by decide) (fun _ => ?_) (fun hz => absurd rfl hz)
    refine aw_aload_n (q := 275) dL_law_274 rfl rfl ?_
    refine aw_cv (q := 278) (d' := 0) (as := []) (b := 0) (ci := 6) (st := []) dL_law_275 rfl W_X6_suspects k_L_9 i_X6_suspects v_X6_suspects (by decide) (o_X6 s2 zR0) rfl rfl rfl (by decide) (Nat.le_of_ble_eq_true rfl) (c_X6_suspects s2 zR0) (Nat.le_refl _) (Nat.le_refl _) ?_
    rintro r9 h9 ⟨rfl, rfl⟩
    refine aw_st (st' := [.int (f_X6_suspects s2)]) rfl ?_
    refine aw_iload (q := 280) dL_law_278 rfl rfl ?_
    refine aw_icmp_eq (q := 283) (t := 285) dL_law_280 rfl (by decide) (fun _ => ?_) (fun hz => absurd es hz)
    refine aw_fewer (L' := zLH pl T k) ⟨rfl, ⟨rfl, ⟨rfl, ⟨rfl, ⟨rfl, trivial⟩⟩⟩⟩⟩ (law_285 (K s2 R2 (zJ.of hI2 hR2 hJ2 ?_)))
    rw [rT_E (rT r i) j 6 (by decide) (by decide)]
    exact hp
  · exact aw_fewer (L' := zLH pl T k) ⟨rfl, ⟨rfl, ⟨rfl, ⟨rfl, ⟨rfl, trivial⟩⟩⟩⟩⟩ (law_285 (K s R (zJ.of hI hR hJ hp)))
set_option maxRecDepth 100000 in
set_option maxHeartbeats 4000000 in
theorem law_215 {pl w a b c su v : Int32} {T k : Nat} {bv : Int64} {s : zs} {R : zr} {r r' : zrow} (hV : zVr r) (hI : zInv s R) (hR : zRr R r') (hJ : zJr r') (hp : r' 6 = pl) (hF : tFa w a r v r') (hg : ¬ v < 0) (hsu : su = r 7) (K : ∀ s' R', zJ s' R' pl → AL G 32 (zLH pl T (k + 1)) [] s') : AL G 215 (zLF pl T k w a b bv c su v) [] s := by
  subst hsu
  obtain ⟨s2, b1, hI2⟩ := ar_ hI hR hJ hp hF hg
  refine aw_aload_n (q := 216) dL_law_215 rfl rfl ?_
  refine aw_iload (q := 218) dL_law_216 rfl rfl ?_
  refine aw_iload (q := 220) dL_law_218 rfl rfl ?_
  refine aw_iload (q := 222) dL_law_220 rfl rfl ?_
  refine aw_iload_n (q := 223) dL_law_222 rfl rfl ?_
  refine aw_cs (M' := M_L_areRight) (q := 226) (d' := 7) (as := [.ref 0, .int w, .int v, .int (r 7), .int pl]) (st := []) dL_law_223 rfl W_L_areRight k_L_94 s_L_areRight rfl rfl (by decide) (Nat.le_of_ble_eq_true rfl) (c_L_areRight s zR0 w v (r 7) pl b1) (Nat.le_refl _) (Nat.le_refl _) ?_
  rintro r9 h9 ⟨rfl, rfl⟩
  refine aw_st (st' := [.int (zb true)]) rfl ?_
  refine aw_ifeqB (q := 229) (t := 250) dL_law_226 rfl (by decide) (fun _ => ?_) (fun hz => absurd rfl hz)
  refine aw_iload (q := 231) dL_law_229 rfl rfl ?_
  refine aw_bipush (q := 233) (v := 11) dL_law_231 rfl (by decide) ?_
  have K2 : AL G 252 (zLF pl T k w a b bv c (r 7) v) [] s2 := law_252 hI2 hR hJ hp (fun hw => by
    obtain ⟨i, h1, h2, h3, h4⟩ := (hF hg).2.1 (Or.inr hw)
    exact ⟨r, i, hV, h1, h2, h3, h4⟩) K
  refine aw_icmp_neP (q := 236) (t := 252) dL_law_233 rfl (by decide) (fun hw => ?_) (fun _ => K2)
  obtain ⟨hV', hb⟩ := (hF hg).2.2.2 hw
  obtain ⟨p, hp16, ep⟩ := and15 a
  obtain ⟨x, x1, x2⟩ := q_pinOf hI2 (a &&& 15) 4
  rw [ep, pin4 hR hV' hp16 (hb p hp16 ep)] at x2
  obtain rfl : 1 = x := Option.some.inj x2
  refine aw_aload_n (q := 237) dL_law_236 rfl rfl ?_
  refine aw_iload (q := 239) dL_law_237 rfl rfl ?_
  refine aw_bipush (q := 241) (v := 15) dL_law_239 rfl (by decide) ?_
  refine aw_iand (q := 242) dL_law_241 rfl ?_
  refine aw_iconst (q := 243) (v := 4) dL_law_242 rfl (by decide) ?_
  refine aw_cv (q := 246) (d' := 3) (as := [.int (a &&& 15), .int 4]) (b := 0) (ci := 6) (st := []) dL_law_243 rfl W_X6_pinOf k_L_21 i_X6_pinOf v_X6_pinOf (by decide) (o_X6 s2 zR0) rfl rfl rfl (by decide) (Nat.le_of_ble_eq_true rfl) (c_X6_pinOf s2 zR0 (a &&& 15) 4 x1) (Nat.le_refl _) (Nat.le_refl _) ?_
  rintro r9 h9 ⟨rfl, rfl⟩
  refine aw_st (st' := [.int 1]) rfl ?_
  refine aw_iconst (q := 247) (v := 1) dL_law_246 rfl (by decide) ?_
  refine aw_icmp_eq (q := 250) (t := 252) dL_law_247 rfl (by decide) (fun _ => ?_) (fun hz => absurd rfl hz)
  exact K2
set_option maxRecDepth 100000 in
set_option maxHeartbeats 4000000 in
theorem law_156 {pl w a b su v : Int32} {T k n : Nat} {bv : Int64} {s s0 u : zs} {R R0 : zr} {r r' : zrow} (hL : zLen G ≤ 260) (hk : 3 * k + 2 < zLen G) (hI0 : zInv s0 R0) (hR0 : zRr R0 r) (hn : n ≤ 4) (e0 : R0 0 3 = nI n) (hv : f_L_view s0 = some (bv, u)) (hV : zVr r) (hT : tTr w a b r v r') (hP : zPu R0 R) (hI : zInv s R) (hR : zRr R r') (hJ : zJr r') (hp : r' 6 = pl) (hF : tFa w a r v r') (hg : ¬ v < 0) (hsu : su = r 7) (K : ∀ s' R', zJ s' R' pl → AL G 32 (zLH pl T (k + 1)) [] s') : AL G 156 (zLF pl T k w a b bv (nI n) su v) [] s := by
  obtain ⟨c, t1, b1, b2, b3⟩ := q_count hI 9
  obtain ⟨p1, -⟩ := hP n hn e0
  obtain rfl : nI (nPr n + 1) = c := by
    have : some (R 0 3) = some c := b2
    rw [p1] at this
    exact Option.some.inj this
  refine aw_aload_n (q := 157) dL_law_156 rfl rfl ?_
  refine aw_bipush (q := 159) (v := 9) dL_law_157 rfl (by decide) ?_
  refine aw_cv (q := 162) (d' := 6) (as := [.int 9]) (b := 0) (ci := 6) (st := []) dL_law_159 rfl W_X6_count k_L_17 i_X6_count v_X6_count (by decide) (o_X6 s zR0) rfl rfl rfl (by decide) (Nat.le_of_ble_eq_true rfl) (c_X6_count s zR0 9 b1) (Nat.le_refl _) (Nat.le_refl _) ?_
  rintro r9 h9 ⟨rfl, rfl⟩
  refine aw_st (st' := [.int (nI (nPr n + 1))]) rfl ?_
  refine aw_iload (q := 164) dL_law_162 rfl rfl ?_
  refine aw_iconst (q := 165) (v := 4) dL_law_164 rfl (by decide) ?_
  have K2 : AL G 181 (zLF pl T k w a b bv (nI n) su v) [] t1 := by
    refine aw_aload_n (q := 182) dL_law_181 rfl rfl ?_
    refine aw_iconst (q := 183) (v := 3) dL_law_182 rfl (by decide) ?_
    refine aw_iload (q := 185) dL_law_183 rfl rfl ?_
    refine aw_imul (q := 186) dL_law_185 rfl ?_
    refine aw_nm (x := nI (3 * k)) (Eq.symm (pk_mul 3 k)) ?_
    refine aw_cs (M' := M_L_cell) (q := 189) (d' := 0) (as := [.ref 1000030, .int (nI (3 * k))]) (st := []) dL_law_186 rfl W_L_cell k_L_86 s_L_cell rfl rfl (by decide) (Nat.le_of_ble_eq_true rfl) (k_cell (j := 3 * k) (by omega) (by omega)) (Nat.le_refl _) (Nat.le_refl _) ?_
    rintro r9 h9 ⟨rfl, rfl⟩
    refine aw_st (st' := [.int (zxs G (3 * k))]) rfl ?_
    refine aw_iconst (q := 190) (v := 4) dL_law_189 rfl (by decide) ?_
    refine aw_ishr (q := 191) dL_law_190 rfl ?_
    refine aw_iconst (q := 192) (v := 1) dL_law_191 rfl (by decide) ?_
    refine aw_iand (q := 193) dL_law_192 rfl ?_
    refine aw_if_neP (q := 196) (t := 215) dL_law_193 rfl (by decide) (fun _ => ?_) (fun _ => law_215 hV b3 hR hJ hp hF hg hsu K)
    obtain ⟨s2, R2, f1, hI2, hR2⟩ := un_ hI0 hV hR0 hn e0 hv b3 hT hP
    refine aw_aload_n (q := 197) dL_law_196 rfl rfl ?_
    refine aw_iload (q := 199) dL_law_197 rfl rfl ?_
    refine aw_iload (q := 201) dL_law_199 rfl rfl ?_
    refine aw_iload (q := 203) dL_law_201 rfl rfl ?_
    refine aw_iload (q := 205) dL_law_203 rfl rfl ?_
    refine aw_lload (q := 207) dL_law_205 rfl rfl ?_
    refine aw_cs (M' := M_L_isUndone) (q := 210) (d' := 8) (as := [.ref 0, .int w, .int a, .int b, .int v, .long bv]) (st := []) dL_law_207 rfl W_L_isUndone k_L_90 s_L_isUndone rfl rfl (by decide) (Nat.le_of_ble_eq_true rfl) (c_L_isUndone t1 zR0 w a b v bv f1) (Nat.le_refl _) (Nat.le_refl _) ?_
    rintro r9 h9 ⟨rfl, rfl⟩
    refine aw_st (st' := [.int (zb true)]) rfl ?_
    refine aw_ifneB (q := 213) (t := 215) dL_law_210 rfl (by decide) (fun _ => ?_) (fun hz => absurd rfl hz)
    exact law_215 hV hI2 hR2 hJ hp hF hg hsu K
  refine aw_icmp_ge (q := 168) (t := 175) dL_law_165 rfl (by decide) (fun hz => ?_) (fun hz => ?_)
  · have h4 : n = 4 := by
      rcases Nat.lt_or_ge n 4 with h | h
      · exact absurd hz (nI_ge (b := 4) h (by decide))
      · omega
    have e4 : nPr n + 1 = 4 := by
      rw [h4]
      rfl
    refine aw_iconst (q := 176) (v := 4) dL_law_175 rfl (by decide) ?_
    refine aw_icmp_eq (q := 179) (t := 181) dL_law_176 rfl (by decide) (fun _ => ?_) (fun hz => absurd (by rw [e4]; rfl) hz)
    exact K2
  · have h4 : ¬ n = 4 := fun q => hz (by rw [q]; decide)
    have e4 : nPr n = n := if_neg h4
    refine aw_iload (q := 170) dL_law_168 rfl rfl ?_
    refine aw_iconst (q := 171) (v := 1) dL_law_170 rfl (by decide) ?_
    refine aw_iadd (q := 172) dL_law_171 rfl ?_
    refine aw_nm (x := nI (n + 1)) (Eq.symm (nI_1 n)) ?_
    refine aw_goto (q := 176) dL_law_172 (by decide) ?_
    refine aw_icmp_eq (q := 179) (t := 181) dL_law_176 rfl (by decide) (fun _ => ?_) (fun hz => absurd (by rw [e4]) hz)
    exact K2
set_option maxRecDepth 100000 in
set_option maxHeartbeats 4000000 in
theorem law_107 {pl w a b v : Int32} {T k n : Nat} {bv : Int64} {s s3 u : zs} {R R3 : zr} {r r' : zrow} (hL : zLen G ≤ 260) (hk : 3 * k + 2 < zLen G) (hI : zInv s R) (hR : zRr R r) (hJ0 : zJr r) (hp0 : r 6 = pl) (hn : n ≤ 4) (e0 : R 0 3 = nI n) (hv : f_L_view s = some (bv, u)) (hV : zVr r) (hT : tTr w a b r v r') (hI3 : zInv s3 R3) (hR3 : zRr R3 r') (hA : zAf v R R3) (hJ : zJr r') (hF : tFa w a r v r') (K : ∀ s' R' pl', zJ s' R' pl' → AL G 32 (zLH pl' T (k + 1)) [] s') : AL G 107 (zLF pl T k w a b bv (nI n) (r 7) v) [] s3 := by
  refine aw_iload (q := 109) dL_law_107 rfl rfl ?_
  refine aw_if_ge (q := 112) (t := 135) dL_law_109 rfl (by decide) (fun hz => ?_) (fun hz => ?_)
  · have hg : ¬ v < 0 := fun q => absurd hz (Int32.not_le.mpr q)
    have hP : zPu R R3 := by
      rcases hA with ⟨h, -⟩ | ⟨-, h⟩
      · exact absurd h hg
      · exact h
    refine aw_iload (q := 137) dL_law_135 rfl rfl ?_
    refine aw_bipush (q := 139) (v := 8) dL_law_137 rfl (by decide) ?_
    refine aw_icmp_neP (q := 142) (t := 154) dL_law_139 rfl (by decide) (fun hw => ?_) (fun hw => ?_)
    · refine aw_iload (q := 144) dL_law_142 rfl rfl ?_
      refine aw_bipush (q := 146) (v := 13) dL_law_144 rfl (by decide) ?_
      refine aw_cs (M' := M_L_up) (q := 149) (d' := 0) (as := [.int a, .int 13]) (st := []) dL_law_146 rfl W_L_up k_L_53 s_L_up rfl rfl (by decide) (Nat.le_of_ble_eq_true rfl) (c_L_up (zT s3 zR0) a 13 (up_ (by decide))) (Nat.le_refl _) (Nat.le_refl _) ?_
      rintro r9 h9 ⟨rfl, rfl⟩
      refine aw_st (st' := [.int (upv a 13)]) rfl ?_
      refine aw_iconst (q := 150) (v := 2) dL_law_149 rfl (by decide) ?_
      refine aw_isub (q := 151) dL_law_150 rfl ?_
      refine aw_goto (q := 155) dL_law_151 (by decide) ?_
      refine aw_istore_n (q := 156) (L' := [some (.ref 1000030), some (.ref 0), some (.int ((upv a 13) - 2)), some (.int (nI T)), some (.int (nI k)), some (.int w), some (.int a), some (.int b), some (.long bv), none, some (.int (nI n)), some (.int (r 7)), some (.int v), none]) dL_law_155 rfl (by decide) rfl rfl ?_
      exact law_156 (pl := upv a 13 - 2) hL hk hI hR hn e0 hv hV hT hP hI3 hR3 hJ ((hF hg).1 hw).1 hF hg rfl (fun s' R' h => K s' R' _ h)
    · have hp : r' 6 = pl := by
        by_cases g : w = 9 ∨ w = 10
        · obtain ⟨i, -, -, -, rfl⟩ := (hF hg).2.1 g
          rw [rT_E r i 6 (by decide) (by decide)]
          exact hp0
        · rw [((hF hg).2.2.1 hw (fun q => g (Or.inl q)) (fun q => g (Or.inr q))).1]
          exact hp0
      refine aw_iload_n (q := 155) dL_law_154 rfl rfl ?_
      refine aw_istore_n (q := 156) (L' := [some (.ref 1000030), some (.ref 0), some (.int pl), some (.int (nI T)), some (.int (nI k)), some (.int w), some (.int a), some (.int b), some (.long bv), none, some (.int (nI n)), some (.int (r 7)), some (.int v), none]) dL_law_155 rfl (by decide) rfl rfl ?_
      exact law_156 hL hk hI hR hn e0 hv hV hT hP hI3 hR3 hJ hp hF hg rfl (fun s' R' h => K s' R' _ h)
  · have hg : v < 0 := Int32.not_le.mp hz
    obtain rfl : R3 = R := by
      rcases hA with ⟨-, h⟩ | ⟨h, -⟩
      · exact h
      · exact absurd hg h
    obtain ⟨bv2, u2, s4, v1, v2, -, hI4⟩ := vw_ hI hI3 hR hR hV
    obtain rfl : bv = bv2 := congrArg Prod.fst (Option.some.inj (hv.symm.trans v1))
    obtain ⟨c, s5, b1, b2, hI5⟩ := q_count hI4 9
    obtain rfl : nI n = c := by
      have : some (R3 0 3) = some c := b2
      rw [e0] at this
      exact Option.some.inj this
    refine aw_aload_n (q := 113) dL_law_112 rfl rfl ?_
    refine aw_cs (M' := M_L_view) (q := 116) (d' := 7) (as := [.ref 0]) (st := []) dL_law_113 rfl W_L_view k_L_74 s_L_view rfl rfl (by decide) (Nat.le_of_ble_eq_true rfl) (c_L_view s3 zR0 v2) (Nat.le_refl _) (Nat.le_refl _) ?_
    rintro r9 h9 ⟨rfl, rfl⟩
    refine aw_st (st' := [.long bv]) rfl ?_
    refine aw_lload (q := 118) dL_law_116 rfl rfl ?_
    refine aw_lcmp (q := 119) dL_law_118 rfl ?_
    refine aw_if_neP (q := 122) (t := 133) dL_law_119 rfl (by decide) (fun _ => ?_) (fun hz => absurd (lg_0 bv) hz)
    refine aw_aload_n (q := 123) dL_law_122 rfl rfl ?_
    refine aw_bipush (q := 125) (v := 9) dL_law_123 rfl (by decide) ?_
    refine aw_cv (q := 128) (d' := 6) (as := [.int 9]) (b := 0) (ci := 6) (st := []) dL_law_125 rfl W_X6_count k_L_17 i_X6_count v_X6_count (by decide) (o_X6 s4 zR0) rfl rfl rfl (by decide) (Nat.le_of_ble_eq_true rfl) (c_X6_count s4 zR0 9 b1) (Nat.le_refl _) (Nat.le_refl _) ?_
    rintro r9 h9 ⟨rfl, rfl⟩
    refine aw_st (st' := [.int (nI n)]) rfl ?_
    refine aw_iload (q := 130) dL_law_128 rfl rfl ?_
    refine aw_icmp_eq (q := 133) (t := 285) dL_law_130 rfl (by decide) (fun _ => ?_) (fun hz => absurd rfl hz)
    exact aw_fewer (L' := zLH pl T k) ⟨rfl, ⟨rfl, ⟨rfl, ⟨rfl, ⟨rfl, trivial⟩⟩⟩⟩⟩ (law_285 (K s5 R3 pl (zJ.of hI5 hR hJ0 hp0)))
set_option maxRecDepth 100000 in
set_option maxHeartbeats 4000000 in
theorem law_loop (hL : zLen G ≤ 260) {T : Nat} (hT3 : 3 * T ≤ zLen G) : ∀ (m k : Nat) (s : zs) (R : zr) (pl : Int32), zJ s R pl → k + m = T → AL G 32 (zLH pl T k) [] s
  | 0, k, s, R, pl, hJ, h => by
    refine aw_iload (q := 34) dL_law_32 rfl rfl ?_
    refine aw_iload_n (q := 35) dL_law_34 rfl rfl ?_
    refine aw_icmp_ge (q := 38) (t := 291) dL_law_35 rfl (by decide) (fun _ => ?_) (fun hz => absurd (nI_le (by omega) (by omega)) hz)
    refine aw_iconst (q := 292) (v := 1) dL_law_291 rfl (by decide) ?_
    exact aw_ret (ty := .boolean) dL_law_292 rfl rfl rfl rfl rfl
  | m + 1, k, s, R, pl, hJ, h => by
    have hk : 3 * k + 2 < zLen G := by omega
    obtain ⟨hI, hJr, hpl⟩ := hJ
    obtain ⟨⟨r, hc⟩, ⟨-, n, hn, -, e0, -⟩, -⟩ := id hI
    have hV := hc.V
    have hJ0 : zJr r := hJr.cg (fun p hp => (hc.R _ (by omega)).symm) (hc.R 4 (by decide)).symm (hc.R 6 (by decide)).symm (hc.R 7 (by decide)).symm
    have hp0 : r 6 = pl := (hc.R 6 (by decide)).symm.trans hpl
    obtain ⟨bv, s1, u1, v1, -, hI1, -⟩ := vw_ hI hI hc.R hc.R hV
    obtain ⟨c, s2, b1, b2, hI2⟩ := q_count hI1 9
    obtain rfl : nI n = c := by
      have : some (R 0 3) = some c := b2
      rw [e0] at this
      exact Option.some.inj this
    have es : f_X6_suspects s2 = r 7 := (q_suspects hI2).trans (hc.R 7 (by decide))
    generalize hw : zxs G (3 * k) &&& 15 = w
    generalize ha : zxs G (3 * k + 1) = a
    generalize hb : zxs G (3 * k + 2) = b
    obtain ⟨v, r', hT, hJ', hF⟩ := t_turn hc hJ0 w a b
    obtain ⟨s3, R3, f1, hI3, hR3, hA⟩ := hT s2 R hI2 hc.R
    refine aw_iload (q := 34) dL_law_32 rfl rfl ?_
    refine aw_iload_n (q := 35) dL_law_34 rfl rfl ?_
    refine aw_icmp_ge (q := 38) (t := 291) dL_law_35 rfl (by decide) (fun hz => absurd hz (nI_ge (by omega) (by omega))) (fun _ => ?_)
    refine aw_aload_n (q := 39) dL_law_38 rfl rfl ?_
    refine aw_iconst (q := 40) (v := 3) dL_law_39 rfl (by decide) ?_
    refine aw_iload (q := 42) dL_law_40 rfl rfl ?_
    refine aw_imul (q := 43) dL_law_42 rfl ?_
    refine aw_nm (x := nI (3 * k)) (Eq.symm (pk_mul 3 k)) ?_
    refine aw_cs (M' := M_L_cell) (q := 46) (d' := 0) (as := [.ref 1000030, .int (nI (3 * k))]) (st := []) dL_law_43 rfl W_L_cell k_L_86 s_L_cell rfl rfl (by decide) (Nat.le_of_ble_eq_true rfl) (k_cell (j := 3 * k) (by omega) (by omega)) (Nat.le_refl _) (Nat.le_refl _) ?_
    rintro r9 h9 ⟨rfl, rfl⟩
    refine aw_st (st' := [.int (zxs G (3 * k))]) rfl ?_
    refine aw_bipush (q := 48) (v := 15) dL_law_46 rfl (by decide) ?_
    refine aw_iand (q := 49) dL_law_48 rfl ?_
    refine aw_nm hw.symm ?_
    refine aw_istore (q := 51) (L' := [some (.ref 1000030), some (.ref 0), some (.int pl), some (.int (nI T)), some (.int (nI k)), some (.int w), none, none, none, none, none, none, none, none]) dL_law_49 rfl (by decide) rfl rfl ?_
    refine aw_aload_n (q := 52) dL_law_51 rfl rfl ?_
    refine aw_iconst (q := 53) (v := 3) dL_law_52 rfl (by decide) ?_
    refine aw_iload (q := 55) dL_law_53 rfl rfl ?_
    refine aw_imul (q := 56) dL_law_55 rfl ?_
    refine aw_nm (x := nI (3 * k)) (Eq.symm (pk_mul 3 k)) ?_
    refine aw_iconst (q := 57) (v := 1) dL_law_56 rfl (by decide) ?_
    refine aw_iadd (q := 58) dL_law_57 rfl ?_
    refine aw_nm (x := nI (3 * k + 1)) (Eq.symm (nI_1 (3 * k))) ?_
    refine aw_cs (M' := M_L_cell) (q := 61) (d' := 0) (as := [.ref 1000030, .int (nI (3 * k + 1))]) (st := []) dL_law_58 rfl W_L_cell k_L_86 s_L_cell rfl rfl (by decide) (Nat.le_of_ble_eq_true rfl) (k_cell (j := 3 * k + 1) (by omega) (by omega)) (Nat.le_refl _) (Nat.le_refl _) ?_
    rintro r9 h9 ⟨rfl, rfl⟩
    refine aw_st (st' := [.int (zxs G (3 * k + 1))]) rfl ?_
    refine aw_nm ha.symm ?_
    refine aw_istore (q := 63) (L' := [some (.ref 1000030), some (.ref 0), some (.int pl), some (.int (nI T)), some (.int (nI k)), some (.int w), some (.int a), none, none, none, none, none, none, none]) dL_law_61 rfl (by decide) rfl rfl ?_
    refine aw_aload_n (q := 64) dL_law_63 rfl rfl ?_
    refine aw_iconst (q := 65) (v := 3) dL_law_64 rfl (by decide) ?_
    refine aw_iload (q := 67) dL_law_65 rfl rfl ?_
    refine aw_imul (q := 68) dL_law_67 rfl ?_
    refine aw_nm (x := nI (3 * k)) (Eq.symm (pk_mul 3 k)) ?_
    refine aw_iconst (q := 69) (v := 2) dL_law_68 rfl (by decide) ?_
    refine aw_iadd (q := 70) dL_law_69 rfl ?_
    refine aw_nm (x := nI (3 * k + 2)) (Eq.symm (nI_add (3 * k) 2)) ?_
    refine aw_cs (M' := M_L_cell) (q := 73) (d' := 0) (as := [.ref 1000030, .int (nI (3 * k + 2))]) (st := []) dL_law_70 rfl W_L_cell k_L_86 s_L_cell rfl rfl (by decide) (Nat.le_of_ble_eq_true rfl) (k_cell (j := 3 * k + 2) (by omega) (by omega)) (Nat.le_refl _) (Nat.le_refl _) ?_
    rintro r9 h9 ⟨rfl, rfl⟩
    refine aw_st (st' := [.int (zxs G (3 * k + 2))]) rfl ?_
    refine aw_nm hb.symm ?_
    refine aw_istore (q := 75) (L' := [some (.ref 1000030), some (.ref 0), some (.int pl), some (.int (nI T)), some (.int (nI k)), some (.int w), some (.int a), some (.int b), none, none, none, none, none, none]) dL_law_73 rfl (by decide) rfl rfl ?_
    refine aw_aload_n (q := 76) dL_law_75 rfl rfl ?_
    refine aw_cs (M' := M_L_view) (q := 79) (d' := 7) (as := [.ref 0]) (st := []) dL_law_76 rfl W_L_view k_L_74 s_L_view rfl rfl (by decide) (Nat.le_of_ble_eq_true rfl) (c_L_view s zR0 v1) (Nat.le_refl _) (Nat.le_refl _) ?_
    rintro r9 h9 ⟨rfl, rfl⟩
    refine aw_st (st' := [.long bv]) rfl ?_
    refine aw_lstore (q := 81) (L' := [some (.ref 1000030), some (.ref 0), some (.int pl), some (.int (nI T)), some (.int (nI k)), some (.int w), some (.int a), some (.int b), some (.long bv), none, none, none, none, none]) dL_law_79 rfl (by decide) rfl rfl ?_
    refine aw_aload_n (q := 82) dL_law_81 rfl rfl ?_
    refine aw_bipush (q := 84) (v := 9) dL_law_82 rfl (by decide) ?_
    refine aw_cv (q := 87) (d' := 6) (as := [.int 9]) (b := 0) (ci := 6) (st := []) dL_law_84 rfl W_X6_count k_L_17 i_X6_count v_X6_count (by decide) (o_X6 s1 zR0) rfl rfl rfl (by decide) (Nat.le_of_ble_eq_true rfl) (c_X6_count s1 zR0 9 b1) (Nat.le_refl _) (Nat.le_refl _) ?_
    rintro r9 h9 ⟨rfl, rfl⟩
    refine aw_st (st' := [.int (nI n)]) rfl ?_
    refine aw_istore (q := 89) (L' := [some (.ref 1000030), some (.ref 0), some (.int pl), some (.int (nI T)), some (.int (nI k)), some (.int w), some (.int a), some (.int b), some (.long bv), none, some (.int (nI n)), none, none, none]) dL_law_87 rfl (by decide) rfl rfl ?_
    refine aw_aload_n (q := 90) dL_law_89 rfl rfl ?_
    refine aw_cv (q := 93) (d' := 0) (as := []) (b := 0) (ci := 6) (st := []) dL_law_90 rfl W_X6_suspects k_L_9 i_X6_suspects v_X6_suspects (by decide) (o_X6 s2 zR0) rfl rfl rfl (by decide) (Nat.le_of_ble_eq_true rfl) (c_X6_suspects s2 zR0) (Nat.le_refl _) (Nat.le_refl _) ?_
    rintro r9 h9 ⟨rfl, rfl⟩
    refine aw_st (st' := [.int (f_X6_suspects s2)]) rfl ?_
    refine aw_nm es.symm ?_
    refine aw_istore (q := 95) (L' := [some (.ref 1000030), some (.ref 0), some (.int pl), some (.int (nI T)), some (.int (nI k)), some (.int w), some (.int a), some (.int b), some (.long bv), none, some (.int (nI n)), some (.int (r 7)), none, none]) dL_law_93 rfl (by decide) rfl rfl ?_
    refine aw_aload_n (q := 96) dL_law_95 rfl rfl ?_
    refine aw_iload (q := 98) dL_law_96 rfl rfl ?_
    refine aw_iload (q := 100) dL_law_98 rfl rfl ?_
    refine aw_iload (q := 102) dL_law_100 rfl rfl ?_
    refine aw_cs (M' := M_L_turn) (q := 105) (d' := 7) (as := [.ref 0, .int w, .int a, .int b]) (st := []) dL_law_102 rfl W_L_turn k_L_78 s_L_turn rfl rfl (by decide) (Nat.le_of_ble_eq_true rfl) (c_L_turn s2 zR0 w a b f1) (Nat.le_refl _) (Nat.le_refl _) ?_
    rintro r9 h9 ⟨rfl, rfl⟩
    refine aw_st (st' := [.int v]) rfl ?_
    refine aw_istore (q := 107) (L' := [some (.ref 1000030), some (.ref 0), some (.int pl), some (.int (nI T)), some (.int (nI k)), some (.int w), some (.int a), some (.int b), some (.long bv), none, some (.int (nI n)), some (.int (r 7)), some (.int v), none]) dL_law_105 rfl (by decide) rfl rfl ?_
    exact law_107 hL hk hI hc.R hJ0 hp0 hn e0 v1 hV hT hI3 hR3 hA hJ' hF (fun s' R' pl' hJ9 => law_loop hL hT3 m (k + 1) s' R' pl' hJ9 (by omega))
set_option maxRecDepth 100000 in
set_option maxHeartbeats 4000000 in
theorem law_all (h9 : zH) (hL : zLen G ≤ 260) : AW G M_law 9 120 1395 0 0 zPL 0 [some (.ref 1000030), none, none, none, none, none, none, none, none, none, none, none, none, none] [] 0 0 h9 := by
  refine aw_new (q := 3) dL_law_0 rfl nw_L_10 (by decide) (by decide) (by decide) rfl ?_
  refine aw_dup (q := 4) dL_law_3 rfl rfl ?_
  refine aw_ci (q := 7) (d' := 3) (as := []) (b := 0) (st := [.ref 0]) dL_law_4 rfl W_X6_init k_L_85 i_X6_init rfl rfl rfl rfl (by decide) (Nat.le_of_ble_eq_true rfl) (k_X6_init (d := 3) (by decide)) (by decide) (by decide) ?_
  rintro r h8 ⟨rfl, rfl⟩
  refine aw_st (st' := [.ref 0]) rfl ?_
  refine aw_astore_n (q := 8) dL_law_7 rfl (by decide) rfl rfl ?_
  refine aw_like (zw_like h9) ?_
  have hJ : zJ zs0 zR0 (-1) := zJ.of zinv0 (fun _ _ => rfl) zJr0 rfl
  have K : ∀ T, 3 * T ≤ zLen G → AL G 28 [some (.ref 1000030), some (.ref 0), some (.int (-1)), none, none, none, none, none, none, none, none, none, none, none] [.int (nI T)] zs0 := fun T hT => by
    refine aw_istore_n (q := 29) (L' := [some (.ref 1000030), some (.ref 0), some (.int (-1)), some (.int (nI T)), none, none, none, none, none, none, none, none, none, none]) dL_law_28 rfl (by decide) rfl rfl ?_
    refine aw_iconst (q := 30) (v := 0) dL_law_29 rfl (by decide) ?_
    refine aw_istore (q := 32) (L' := zLH (-1) T 0) dL_law_30 rfl (by decide) rfl rfl ?_
    exact law_loop hL hT T 0 zs0 zR0 (-1) hJ (by omega)
  refine aw_iconst (q := 9) (v := (-1)) dL_law_8 rfl (by decide) ?_
  refine aw_istore_n (q := 10) (L' := [some (.ref 1000030), some (.ref 0), some (.int (-1)), none, none, none, none, none, none, none, none, none, none, none]) dL_law_9 rfl (by decide) rfl rfl ?_
  refine aw_aload_n (q := 11) dL_law_10 rfl rfl ?_
  refine aw_slenL (q := 12) dL_law_11 rfl ?_
  refine aw_iconst (q := 13) (v := 3) dL_law_12 rfl (by decide) ?_
  refine aw_idiv (q := 14) dL_law_13 rfl (by decide) ?_
  refine aw_nm (x := nI (zLen G / 3)) (Eq.symm (dv3 _ (by omega))) ?_
  refine aw_bipush (q := 16) (v := 40) dL_law_14 rfl (by decide) ?_
  refine aw_icmp_ge (q := 19) (t := 26) dL_law_16 rfl (by decide) (fun hz => ?_) (fun _ => ?_)
  · have h40 : 40 ≤ zLen G / 3 := by
      rcases Nat.lt_or_ge (zLen G / 3) 40 with h | h
      · exact absurd hz (nI_ge (b := 40) h (by decide))
      · exact h
    refine aw_bipush (q := 28) (v := 40) dL_law_26 rfl (by decide) ?_
    exact K 40 (by omega)
  · refine aw_aload_n (q := 20) dL_law_19 rfl rfl ?_
    refine aw_slenL (q := 21) dL_law_20 rfl ?_
    refine aw_iconst (q := 22) (v := 3) dL_law_21 rfl (by decide) ?_
    refine aw_idiv (q := 23) dL_law_22 rfl (by decide) ?_
    refine aw_nm (x := nI (zLen G / 3)) (Eq.symm (dv3 _ (by omega))) ?_
    refine aw_goto (q := 28) dL_law_23 (by decide) ?_
    exact K (zLen G / 3) (by omega)
end ZLAW
