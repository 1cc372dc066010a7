/-! THE LAW'S BODY: every command is answered alike by both sides (this text is written by a program). -/
abbrev M_law : zM := (yL_law, cL_law, 4, some .boolean)
def zxs (G : zG) (j : Nat) : Int32 := nI (G.2.1 (1000 + j))
def zLen (G : zG) : Nat := G.2.1 31
def zPL : Option Value → zH → Prop := fun r _ => r = some (.int 1)
def zLL (i : Nat) : List (Option Value) := [some (.ref 1000030), some (.ref 0), some (.ref 120), some (.int (nI i))]
abbrev AL (G : zG) (pc i : Nat) (st : List Value) (s : zs) (R : zr) : Prop := AW G M_law 13 128 2487 0 0 zPL pc (zLL i) st 128 2487 (zT s R)
section ZLAW
variable {G : zG}
theorem zscr_of {M : zM} {p : Program} {s : State} {m : MethodId} {args : Array Value} {meth : Method} {c : Code} (C : zC G M p s m args meth c) : zScr G s s.heap := C.2.2.2.2.2.2.2.2.2.2.2.2.2.2.2.2.2.2
theorem aw_slenL {M : zM} {d N S n0 s0 : Nat} {P : Option Value → zH → Prop} {pc q : Nat} {L : List (Option Value)} {st : List Value} {n sl : Nat} {h : zH} (hd : decode M.2.1 pc = .ok (.arraylength, 1)) (hq : pc + 1 = q) (K : AW G M d N S n0 s0 P q L (.int (nI (zLen G)) :: st) n sl h) : AW G M d N S n0 s0 P pc L (.ref 1000030 :: st) n sl h := by
  subst hq
  intro p l e s m args below meth c H locs ls C hs hI hS hl hn hsl
  obtain ⟨h1, h2, -⟩ := zscr_of C
  exact va_slen C.1 C.2.1 h1 (Nat.lt_of_lt_of_le h2 C.2.2.2.2.2.2.2.2.2.1) (Nat.not_le.mpr h2) hS hd (K p l e s m args below meth c H locs ls C hs hI hS hl hn hsl)
theorem aw_sld {M : zM} {d N S n0 s0 : Nat} {P : Option Value → zH → Prop} {pc q : Nat} {L : List (Option Value)} {st : List Value} {n sl : Nat} {h : zH} {x : Int32} {j : Nat} (hd : decode M.2.1 pc = .ok (.iaload, 1)) (hq : pc + 1 = q) (hx : x = nI j) (hj : j < zLen G) (hj2 : j < 2 ^ 31) (K : AW G M d N S n0 s0 P q L (.int (zxs G j) :: st) n sl h) : AW G M d N S n0 s0 P pc L (.int x :: .ref 1000030 :: st) n sl h := by
  subst hq
  subst hx
  intro p l e s m args below meth c H locs ls C hs hI hS hl hn hsl
  obtain ⟨h1, h2, -⟩ := zscr_of C
  have hin : vp_in (nI j) (G.2.1 31) := by
    intro h9
    rcases h9 with h9 | h9
    · exact nI_pos hj2 h9
    · rw [nI_clamp hj2] at h9
      exact absurd hj (Nat.not_lt.mpr h9)
  have key := K p l e s m args below meth c H locs ls C hs hI hS hl hn hsl
  refine va_sld C.1 C.2.1 h1 (Nat.lt_of_lt_of_le h2 C.2.2.2.2.2.2.2.2.2.1) (Nat.not_le.mpr h2) hS hin hd ?_
  rw [nI_clamp hj2]
  exact key
theorem law_gt {L i : Nat} (hL : L ≤ 2560) (hi : i ≤ 3000) : (nI L - 5 < nI i) ↔ L < i + 5 := by
  rw [Int32.lt_iff_toInt_lt, Int32.toInt_sub, nI_toInt (show L < 2 ^ 31 by omega), nI_toInt (show i < 2 ^ 31 by omega)]
  have e5 : (5 : Int32).toInt = 5 := by decide
  rw [e5]
  simp only [Int.bmod]
  split <;> omega
theorem law_op (x : Int32) : ∃ m, m < 32 ∧ x &&& 31 = nI m := by
  refine ⟨(x &&& 31).toBitVec.toNat, ?_, ?_⟩
  · rw [Int32.toBitVec_and, BitVec.toNat_and]
    have : ((31 : Int32).toBitVec.toNat) = 31 := by decide
    rw [this]
    exact Nat.lt_of_le_of_lt Nat.and_le_right (by decide)
  · apply Int32.toBitVec_inj.mp
    show _ = BitVec.ofNat 32 _
    rw [BitVec.ofNat_toNat, BitVec.setWidth_eq]
set_option maxRecDepth 100000 in
set_option maxHeartbeats 4000000 in
theorem law_0 {i : Nat} {s : zs} {R : zr} (hI : zInv s R) (hi : i + 5 ≤ zLen G) (hL : zLen G ≤ 2560) (K : ∀ s1 R1, zInv s1 R1 → AL G 1015 i [] s1 R1) : AL G 172 i [] s R := by
  obtain ⟨v, s1, R1, e1, e2, hI1⟩ := q_net hI (zxs G (i + 1))
  refine aw_aload_n (q := 173) dL_law_172 rfl rfl ?_
  refine aw_aload_n (q := 174) dL_law_173 rfl rfl ?_
  refine aw_iload_n (q := 175) dL_law_174 rfl rfl ?_
  refine aw_iconst (q := 176) (v := 1) dL_law_175 rfl (by decide) ?_
  refine aw_iadd (q := 177) dL_law_176 rfl ?_
  refine aw_sld (q := 178) (j := i + 1) dL_law_177 rfl (nI_add i 1) (by omega) (by omega) ?_
  refine aw_cv (q := 181) (d' := 5) (as := [.int (zxs G (i + 1))]) (b := 0) (ci := 6) (st := []) dL_law_178 rfl W_X6_net k_L_13 i_X6_net v_X6_net (by decide) (o_X6 s R) rfl rfl rfl (by decide) (Nat.le_of_ble_eq_true rfl) (c_X6_net s R (zxs G (i + 1)) e1) (Nat.le_refl _) (Nat.le_refl _) ?_
  rintro r h8 ⟨rfl, rfl⟩
  refine aw_st (st' := [.int v]) rfl ?_
  refine aw_aload_n (q := 182) dL_law_181 rfl rfl ?_
  refine aw_aload_n (q := 183) dL_law_182 rfl rfl ?_
  refine aw_iload_n (q := 184) dL_law_183 rfl rfl ?_
  refine aw_iconst (q := 185) (v := 1) dL_law_184 rfl (by decide) ?_
  refine aw_iadd (q := 186) dL_law_185 rfl ?_
  refine aw_sld (q := 187) (j := i + 1) dL_law_186 rfl (nI_add i 1) (by omega) (by omega) ?_
  refine aw_cv (q := 190) (d' := 3) (as := [.int (zxs G (i + 1))]) (b := 120) (ci := 7) (st := [.int v]) dL_law_187 rfl W_X7_net k_L_17 i_X7_net v_X7_net (by decide) (o_X7 s1 R) rfl rfl rfl (by decide) (Nat.le_of_ble_eq_true rfl) (c_X7_net s1 R (zxs G (i + 1)) e2) (Nat.le_refl _) (Nat.le_refl _) ?_
  rintro r h8 ⟨rfl, rfl⟩
  refine aw_st (st' := [.int v, .int v]) rfl ?_
  exact aw_icmp_eq (q := 193) (t := 1015) dL_law_190 rfl (by decide) (fun _ => K s1 R1 hI1) (fun hz => absurd rfl hz)
set_option maxRecDepth 100000 in
set_option maxHeartbeats 4000000 in
theorem law_1 {i : Nat} {s : zs} {R : zr} (hI : zInv s R) (hi : i + 5 ≤ zLen G) (hL : zLen G ≤ 2560) (K : ∀ s1 R1, zInv s1 R1 → AL G 1015 i [] s1 R1) : AL G 195 i [] s R := by
  obtain ⟨v, s1, R1, e1, e2, hI1⟩ := q_chip hI (zxs G (i + 1)) (zxs G (i + 2)) (zxs G (i + 3))
  refine aw_aload_n (q := 196) dL_law_195 rfl rfl ?_
  refine aw_aload_n (q := 197) dL_law_196 rfl rfl ?_
  refine aw_iload_n (q := 198) dL_law_197 rfl rfl ?_
  refine aw_iconst (q := 199) (v := 1) dL_law_198 rfl (by decide) ?_
  refine aw_iadd (q := 200) dL_law_199 rfl ?_
  refine aw_sld (q := 201) (j := i + 1) dL_law_200 rfl (nI_add i 1) (by omega) (by omega) ?_
  refine aw_aload_n (q := 202) dL_law_201 rfl rfl ?_
  refine aw_iload_n (q := 203) dL_law_202 rfl rfl ?_
  refine aw_iconst (q := 204) (v := 2) dL_law_203 rfl (by decide) ?_
  refine aw_iadd (q := 205) dL_law_204 rfl ?_
  refine aw_sld (q := 206) (j := i + 2) dL_law_205 rfl (nI_add i 2) (by omega) (by omega) ?_
  refine aw_aload_n (q := 207) dL_law_206 rfl rfl ?_
  refine aw_iload_n (q := 208) dL_law_207 rfl rfl ?_
  refine aw_iconst (q := 209) (v := 3) dL_law_208 rfl (by decide) ?_
  refine aw_iadd (q := 210) dL_law_209 rfl ?_
  refine aw_sld (q := 211) (j := i + 3) dL_law_210 rfl (nI_add i 3) (by omega) (by omega) ?_
  refine aw_cv (q := 214) (d' := 5) (as := [.int (zxs G (i + 1)), .int (zxs G (i + 2)), .int (zxs G (i + 3))]) (b := 0) (ci := 6) (st := []) dL_law_211 rfl W_X6_chip k_L_18 i_X6_chip v_X6_chip (by decide) (o_X6 s R) rfl rfl rfl (by decide) (Nat.le_of_ble_eq_true rfl) (c_X6_chip s R (zxs G (i + 1)) (zxs G (i + 2)) (zxs G (i + 3)) e1) (Nat.le_refl _) (Nat.le_refl _) ?_
  rintro r h8 ⟨rfl, rfl⟩
  refine aw_st (st' := [.int v]) rfl ?_
  refine aw_aload_n (q := 215) dL_law_214 rfl rfl ?_
  refine aw_aload_n (q := 216) dL_law_215 rfl rfl ?_
  refine aw_iload_n (q := 217) dL_law_216 rfl rfl ?_
  refine aw_iconst (q := 218) (v := 1) dL_law_217 rfl (by decide) ?_
  refine aw_iadd (q := 219) dL_law_218 rfl ?_
  refine aw_sld (q := 220) (j := i + 1) dL_law_219 rfl (nI_add i 1) (by omega) (by omega) ?_
  refine aw_aload_n (q := 221) dL_law_220 rfl rfl ?_
  refine aw_iload_n (q := 222) dL_law_221 rfl rfl ?_
  refine aw_iconst (q := 223) (v := 2) dL_law_222 rfl (by decide) ?_
  refine aw_iadd (q := 224) dL_law_223 rfl ?_
  refine aw_sld (q := 225) (j := i + 2) dL_law_224 rfl (nI_add i 2) (by omega) (by omega) ?_
  refine aw_aload_n (q := 226) dL_law_225 rfl rfl ?_
  refine aw_iload_n (q := 227) dL_law_226 rfl rfl ?_
  refine aw_iconst (q := 228) (v := 3) dL_law_227 rfl (by decide) ?_
  refine aw_iadd (q := 229) dL_law_228 rfl ?_
  refine aw_sld (q := 230) (j := i + 3) dL_law_229 rfl (nI_add i 3) (by omega) (by omega) ?_
  refine aw_cv (q := 233) (d' := 4) (as := [.int (zxs G (i + 1)), .int (zxs G (i + 2)), .int (zxs G (i + 3))]) (b := 120) (ci := 7) (st := [.int v]) dL_law_230 rfl W_X7_chip k_L_22 i_X7_chip v_X7_chip (by decide) (o_X7 s1 R) rfl rfl rfl (by decide) (Nat.le_of_ble_eq_true rfl) (c_X7_chip s1 R (zxs G (i + 1)) (zxs G (i + 2)) (zxs G (i + 3)) e2) (Nat.le_refl _) (Nat.le_refl _) ?_
  rintro r h8 ⟨rfl, rfl⟩
  refine aw_st (st' := [.int v, .int v]) rfl ?_
  exact aw_icmp_eq (q := 236) (t := 1015) dL_law_233 rfl (by decide) (fun _ => K s1 R1 hI1) (fun hz => absurd rfl hz)
set_option maxRecDepth 100000 in
set_option maxHeartbeats 4000000 in
theorem law_2 {i : Nat} {s : zs} {R : zr} (hI : zInv s R) (hi : i + 5 ≤ zLen G) (hL : zLen G ≤ 2560) (K : ∀ s1 R1, zInv s1 R1 → AL G 1015 i [] s1 R1) : AL G 238 i [] s R := by
  obtain ⟨v, s1, R1, e1, e2, hI1⟩ := q_fault hI (zxs G (i + 1)) (zxs G (i + 2)) (zxs G (i + 3))
  refine aw_aload_n (q := 239) dL_law_238 rfl rfl ?_
  refine aw_aload_n (q := 240) dL_law_239 rfl rfl ?_
  refine aw_iload_n (q := 241) dL_law_240 rfl rfl ?_
  refine aw_iconst (q := 242) (v := 1) dL_law_241 rfl (by decide) ?_
  refine aw_iadd (q := 243) dL_law_242 rfl ?_
  refine aw_sld (q := 244) (j := i + 1) dL_law_243 rfl (nI_add i 1) (by omega) (by omega) ?_
  refine aw_aload_n (q := 245) dL_law_244 rfl rfl ?_
  refine aw_iload_n (q := 246) dL_law_245 rfl rfl ?_
  refine aw_iconst (q := 247) (v := 2) dL_law_246 rfl (by decide) ?_
  refine aw_iadd (q := 248) dL_law_247 rfl ?_
  refine aw_sld (q := 249) (j := i + 2) dL_law_248 rfl (nI_add i 2) (by omega) (by omega) ?_
  refine aw_aload_n (q := 250) dL_law_249 rfl rfl ?_
  refine aw_iload_n (q := 251) dL_law_250 rfl rfl ?_
  refine aw_iconst (q := 252) (v := 3) dL_law_251 rfl (by decide) ?_
  refine aw_iadd (q := 253) dL_law_252 rfl ?_
  refine aw_sld (q := 254) (j := i + 3) dL_law_253 rfl (nI_add i 3) (by omega) (by omega) ?_
  refine aw_cv (q := 257) (d' := 5) (as := [.int (zxs G (i + 1)), .int (zxs G (i + 2)), .int (zxs G (i + 3))]) (b := 0) (ci := 6) (st := []) dL_law_254 rfl W_X6_fault k_L_23 i_X6_fault v_X6_fault (by decide) (o_X6 s R) rfl rfl rfl (by decide) (Nat.le_of_ble_eq_true rfl) (c_X6_fault s R (zxs G (i + 1)) (zxs G (i + 2)) (zxs G (i + 3)) e1) (Nat.le_refl _) (Nat.le_refl _) ?_
  rintro r h8 ⟨rfl, rfl⟩
  refine aw_st (st' := [.int v]) rfl ?_
  refine aw_aload_n (q := 258) dL_law_257 rfl rfl ?_
  refine aw_aload_n (q := 259) dL_law_258 rfl rfl ?_
  refine aw_iload_n (q := 260) dL_law_259 rfl rfl ?_
  refine aw_iconst (q := 261) (v := 1) dL_law_260 rfl (by decide) ?_
  refine aw_iadd (q := 262) dL_law_261 rfl ?_
  refine aw_sld (q := 263) (j := i + 1) dL_law_262 rfl (nI_add i 1) (by omega) (by omega) ?_
  refine aw_aload_n (q := 264) dL_law_263 rfl rfl ?_
  refine aw_iload_n (q := 265) dL_law_264 rfl rfl ?_
  refine aw_iconst (q := 266) (v := 2) dL_law_265 rfl (by decide) ?_
  refine aw_iadd (q := 267) dL_law_266 rfl ?_
  refine aw_sld (q := 268) (j := i + 2) dL_law_267 rfl (nI_add i 2) (by omega) (by omega) ?_
  refine aw_aload_n (q := 269) dL_law_268 rfl rfl ?_
  refine aw_iload_n (q := 270) dL_law_269 rfl rfl ?_
  refine aw_iconst (q := 271) (v := 3) dL_law_270 rfl (by decide) ?_
  refine aw_iadd (q := 272) dL_law_271 rfl ?_
  refine aw_sld (q := 273) (j := i + 3) dL_law_272 rfl (nI_add i 3) (by omega) (by omega) ?_
  refine aw_cv (q := 276) (d' := 2) (as := [.int (zxs G (i + 1)), .int (zxs G (i + 2)), .int (zxs G (i + 3))]) (b := 120) (ci := 7) (st := [.int v]) dL_law_273 rfl W_X7_fault k_L_26 i_X7_fault v_X7_fault (by decide) (o_X7 s1 R) rfl rfl rfl (by decide) (Nat.le_of_ble_eq_true rfl) (c_X7_fault s1 R (zxs G (i + 1)) (zxs G (i + 2)) (zxs G (i + 3)) e2) (Nat.le_refl _) (Nat.le_refl _) ?_
  rintro r h8 ⟨rfl, rfl⟩
  refine aw_st (st' := [.int v, .int v]) rfl ?_
  exact aw_icmp_eq (q := 279) (t := 1015) dL_law_276 rfl (by decide) (fun _ => K s1 R1 hI1) (fun hz => absurd rfl hz)
set_option maxRecDepth 100000 in
set_option maxHeartbeats 4000000 in
theorem law_3 {i : Nat} {s : zs} {R : zr} (hI : zInv s R) (hi : i + 5 ≤ zLen G) (hL : zLen G ≤ 2560) (K : ∀ s1 R1, zInv s1 R1 → AL G 1015 i [] s1 R1) : AL G 281 i [] s R := by
  obtain ⟨v, s1, R1, e1, e2, hI1⟩ := q_bless hI (zxs G (i + 1)) (zxs G (i + 2))
  refine aw_aload_n (q := 282) dL_law_281 rfl rfl ?_
  refine aw_aload_n (q := 283) dL_law_282 rfl rfl ?_
  refine aw_iload_n (q := 284) dL_law_283 rfl rfl ?_
  refine aw_iconst (q := 285) (v := 1) dL_law_284 rfl (by decide) ?_
  refine aw_iadd (q := 286) dL_law_285 rfl ?_
  refine aw_sld (q := 287) (j := i + 1) dL_law_286 rfl (nI_add i 1) (by omega) (by omega) ?_
  refine aw_aload_n (q := 288) dL_law_287 rfl rfl ?_
  refine aw_iload_n (q := 289) dL_law_288 rfl rfl ?_
  refine aw_iconst (q := 290) (v := 2) dL_law_289 rfl (by decide) ?_
  refine aw_iadd (q := 291) dL_law_290 rfl ?_
  refine aw_sld (q := 292) (j := i + 2) dL_law_291 rfl (nI_add i 2) (by omega) (by omega) ?_
  refine aw_cv (q := 295) (d' := 5) (as := [.int (zxs G (i + 1)), .int (zxs G (i + 2))]) (b := 0) (ci := 6) (st := []) dL_law_292 rfl W_X6_bless k_L_27 i_X6_bless v_X6_bless (by decide) (o_X6 s R) rfl rfl rfl (by decide) (Nat.le_of_ble_eq_true rfl) (c_X6_bless s R (zxs G (i + 1)) (zxs G (i + 2)) e1) (Nat.le_refl _) (Nat.le_refl _) ?_
  rintro r h8 ⟨rfl, rfl⟩
  refine aw_st (st' := [.int v]) rfl ?_
  refine aw_aload_n (q := 296) dL_law_295 rfl rfl ?_
  refine aw_aload_n (q := 297) dL_law_296 rfl rfl ?_
  refine aw_iload_n (q := 298) dL_law_297 rfl rfl ?_
  refine aw_iconst (q := 299) (v := 1) dL_law_298 rfl (by decide) ?_
  refine aw_iadd (q := 300) dL_law_299 rfl ?_
  refine aw_sld (q := 301) (j := i + 1) dL_law_300 rfl (nI_add i 1) (by omega) (by omega) ?_
  refine aw_aload_n (q := 302) dL_law_301 rfl rfl ?_
  refine aw_iload_n (q := 303) dL_law_302 rfl rfl ?_
  refine aw_iconst (q := 304) (v := 2) dL_law_303 rfl (by decide) ?_
  refine aw_iadd (q := 305) dL_law_304 rfl ?_
  refine aw_sld (q := 306) (j := i + 2) dL_law_305 rfl (nI_add i 2) (by omega) (by omega) ?_
  refine aw_cv (q := 309) (d' := 1) (as := [.int (zxs G (i + 1)), .int (zxs G (i + 2))]) (b := 120) (ci := 7) (st := [.int v]) dL_law_306 rfl W_X7_bless k_L_31 i_X7_bless v_X7_bless (by decide) (o_X7 s1 R) rfl rfl rfl (by decide) (Nat.le_of_ble_eq_true rfl) (c_X7_bless s1 R (zxs G (i + 1)) (zxs G (i + 2)) e2) (Nat.le_refl _) (Nat.le_refl _) ?_
  rintro r h8 ⟨rfl, rfl⟩
  refine aw_st (st' := [.int v, .int v]) rfl ?_
  exact aw_icmp_eq (q := 312) (t := 1015) dL_law_309 rfl (by decide) (fun _ => K s1 R1 hI1) (fun hz => absurd rfl hz)
set_option maxRecDepth 100000 in
set_option maxHeartbeats 4000000 in
theorem law_4 {i : Nat} {s : zs} {R : zr} (hI : zInv s R) (hi : i + 5 ≤ zLen G) (hL : zLen G ≤ 2560) (K : ∀ s1 R1, zInv s1 R1 → AL G 1015 i [] s1 R1) : AL G 314 i [] s R := by
  obtain ⟨v, e1, e2⟩ := q_pinOf hI (zxs G (i + 1)) (zxs G (i + 2))
  refine aw_aload_n (q := 315) dL_law_314 rfl rfl ?_
  refine aw_aload_n (q := 316) dL_law_315 rfl rfl ?_
  refine aw_iload_n (q := 317) dL_law_316 rfl rfl ?_
  refine aw_iconst (q := 318) (v := 1) dL_law_317 rfl (by decide) ?_
  refine aw_iadd (q := 319) dL_law_318 rfl ?_
  refine aw_sld (q := 320) (j := i + 1) dL_law_319 rfl (nI_add i 1) (by omega) (by omega) ?_
  refine aw_aload_n (q := 321) dL_law_320 rfl rfl ?_
  refine aw_iload_n (q := 322) dL_law_321 rfl rfl ?_
  refine aw_iconst (q := 323) (v := 2) dL_law_322 rfl (by decide) ?_
  refine aw_iadd (q := 324) dL_law_323 rfl ?_
  refine aw_sld (q := 325) (j := i + 2) dL_law_324 rfl (nI_add i 2) (by omega) (by omega) ?_
  refine aw_cv (q := 328) (d' := 3) (as := [.int (zxs G (i + 1)), .int (zxs G (i + 2))]) (b := 0) (ci := 6) (st := []) dL_law_325 rfl W_X6_pinOf k_L_32 i_X6_pinOf v_X6_pinOf (by decide) (o_X6 s R) rfl rfl rfl (by decide) (Nat.le_of_ble_eq_true rfl) (c_X6_pinOf s R (zxs G (i + 1)) (zxs G (i + 2)) e1) (Nat.le_refl _) (Nat.le_refl _) ?_
  rintro r h8 ⟨rfl, rfl⟩
  refine aw_st (st' := [.int v]) rfl ?_
  refine aw_aload_n (q := 329) dL_law_328 rfl rfl ?_
  refine aw_aload_n (q := 330) dL_law_329 rfl rfl ?_
  refine aw_iload_n (q := 331) dL_law_330 rfl rfl ?_
  refine aw_iconst (q := 332) (v := 1) dL_law_331 rfl (by decide) ?_
  refine aw_iadd (q := 333) dL_law_332 rfl ?_
  refine aw_sld (q := 334) (j := i + 1) dL_law_333 rfl (nI_add i 1) (by omega) (by omega) ?_
  refine aw_aload_n (q := 335) dL_law_334 rfl rfl ?_
  refine aw_iload_n (q := 336) dL_law_335 rfl rfl ?_
  refine aw_iconst (q := 337) (v := 2) dL_law_336 rfl (by decide) ?_
  refine aw_iadd (q := 338) dL_law_337 rfl ?_
  refine aw_sld (q := 339) (j := i + 2) dL_law_338 rfl (nI_add i 2) (by omega) (by omega) ?_
  refine aw_cv (q := 342) (d' := 3) (as := [.int (zxs G (i + 1)), .int (zxs G (i + 2))]) (b := 120) (ci := 7) (st := [.int v]) dL_law_339 rfl W_X7_pinOf k_L_35 i_X7_pinOf v_X7_pinOf (by decide) (o_X7 s R) rfl rfl rfl (by decide) (Nat.le_of_ble_eq_true rfl) (c_X7_pinOf s R (zxs G (i + 1)) (zxs G (i + 2)) e2) (Nat.le_refl _) (Nat.le_refl _) ?_
  rintro r h8 ⟨rfl, rfl⟩
  refine aw_st (st' := [.int v, .int v]) rfl ?_
  exact aw_icmp_eq (q := 345) (t := 1015) dL_law_342 rfl (by decide) (fun _ => K s R hI) (fun hz => absurd rfl hz)
set_option maxRecDepth 100000 in
set_option maxHeartbeats 4000000 in
theorem law_5 {i : Nat} {s : zs} {R : zr} (hI : zInv s R) (hi : i + 5 ≤ zLen G) (hL : zLen G ≤ 2560) (K : ∀ s1 R1, zInv s1 R1 → AL G 1015 i [] s1 R1) : AL G 347 i [] s R := by
  obtain ⟨v, e1, e2⟩ := q_faultOf hI (zxs G (i + 1)) (zxs G (i + 2))
  refine aw_aload_n (q := 348) dL_law_347 rfl rfl ?_
  refine aw_aload_n (q := 349) dL_law_348 rfl rfl ?_
  refine aw_iload_n (q := 350) dL_law_349 rfl rfl ?_
  refine aw_iconst (q := 351) (v := 1) dL_law_350 rfl (by decide) ?_
  refine aw_iadd (q := 352) dL_law_351 rfl ?_
  refine aw_sld (q := 353) (j := i + 1) dL_law_352 rfl (nI_add i 1) (by omega) (by omega) ?_
  refine aw_aload_n (q := 354) dL_law_353 rfl rfl ?_
  refine aw_iload_n (q := 355) dL_law_354 rfl rfl ?_
  refine aw_iconst (q := 356) (v := 2) dL_law_355 rfl (by decide) ?_
  refine aw_iadd (q := 357) dL_law_356 rfl ?_
  refine aw_sld (q := 358) (j := i + 2) dL_law_357 rfl (nI_add i 2) (by omega) (by omega) ?_
  refine aw_cv (q := 361) (d' := 1) (as := [.int (zxs G (i + 1)), .int (zxs G (i + 2))]) (b := 0) (ci := 6) (st := []) dL_law_358 rfl W_X6_faultOf k_L_36 i_X6_faultOf v_X6_faultOf (by decide) (o_X6 s R) rfl rfl rfl (by decide) (Nat.le_of_ble_eq_true rfl) (c_X6_faultOf s R (zxs G (i + 1)) (zxs G (i + 2)) e1) (Nat.le_refl _) (Nat.le_refl _) ?_
  rintro r h8 ⟨rfl, rfl⟩
  refine aw_st (st' := [.int v]) rfl ?_
  refine aw_aload_n (q := 362) dL_law_361 rfl rfl ?_
  refine aw_aload_n (q := 363) dL_law_362 rfl rfl ?_
  refine aw_iload_n (q := 364) dL_law_363 rfl rfl ?_
  refine aw_iconst (q := 365) (v := 1) dL_law_364 rfl (by decide) ?_
  refine aw_iadd (q := 366) dL_law_365 rfl ?_
  refine aw_sld (q := 367) (j := i + 1) dL_law_366 rfl (nI_add i 1) (by omega) (by omega) ?_
  refine aw_aload_n (q := 368) dL_law_367 rfl rfl ?_
  refine aw_iload_n (q := 369) dL_law_368 rfl rfl ?_
  refine aw_iconst (q := 370) (v := 2) dL_law_369 rfl (by decide) ?_
  refine aw_iadd (q := 371) dL_law_370 rfl ?_
  refine aw_sld (q := 372) (j := i + 2) dL_law_371 rfl (nI_add i 2) (by omega) (by omega) ?_
  refine aw_cv (q := 375) (d' := 2) (as := [.int (zxs G (i + 1)), .int (zxs G (i + 2))]) (b := 120) (ci := 7) (st := [.int v]) dL_law_372 rfl W_X7_faultOf k_L_39 i_X7_faultOf v_X7_faultOf (by decide) (o_X7 s R) rfl rfl rfl (by decide) (Nat.le_of_ble_eq_true rfl) (c_X7_faultOf s R (zxs G (i + 1)) (zxs G (i + 2)) e2) (Nat.le_refl _) (Nat.le_refl _) ?_
  rintro r h8 ⟨rfl, rfl⟩
  refine aw_st (st' := [.int v, .int v]) rfl ?_
  exact aw_icmp_eq (q := 378) (t := 1015) dL_law_375 rfl (by decide) (fun _ => K s R hI) (fun hz => absurd rfl hz)
set_option maxRecDepth 100000 in
set_option maxHeartbeats 4000000 in
theorem law_6 {i : Nat} {s : zs} {R : zr} (hI : zInv s R) (hi : i + 5 ≤ zLen G) (hL : zLen G ≤ 2560) (K : ∀ s1 R1, zInv s1 R1 → AL G 1015 i [] s1 R1) : AL G 380 i [] s R := by
  obtain ⟨v, s1, e1, e2, hI1⟩ := q_reached hI (zxs G (i + 1)) (zxs G (i + 2))
  refine aw_aload_n (q := 381) dL_law_380 rfl rfl ?_
  refine aw_aload_n (q := 382) dL_law_381 rfl rfl ?_
  refine aw_iload_n (q := 383) dL_law_382 rfl rfl ?_
  refine aw_iconst (q := 384) (v := 1) dL_law_383 rfl (by decide) ?_
  refine aw_iadd (q := 385) dL_law_384 rfl ?_
  refine aw_sld (q := 386) (j := i + 1) dL_law_385 rfl (nI_add i 1) (by omega) (by omega) ?_
  refine aw_aload_n (q := 387) dL_law_386 rfl rfl ?_
  refine aw_iload_n (q := 388) dL_law_387 rfl rfl ?_
  refine aw_iconst (q := 389) (v := 2) dL_law_388 rfl (by decide) ?_
  refine aw_iadd (q := 390) dL_law_389 rfl ?_
  refine aw_sld (q := 391) (j := i + 2) dL_law_390 rfl (nI_add i 2) (by omega) (by omega) ?_
  refine aw_cv (q := 394) (d' := 5) (as := [.int (zxs G (i + 1)), .int (zxs G (i + 2))]) (b := 0) (ci := 6) (st := []) dL_law_391 rfl W_X6_reached k_L_40 i_X6_reached v_X6_reached (by decide) (o_X6 s R) rfl rfl rfl (by decide) (Nat.le_of_ble_eq_true rfl) (c_X6_reached s R (zxs G (i + 1)) (zxs G (i + 2)) e1) (Nat.le_refl _) (Nat.le_refl _) ?_
  rintro r h8 ⟨rfl, rfl⟩
  refine aw_st (st' := [.int v]) rfl ?_
  refine aw_aload_n (q := 395) dL_law_394 rfl rfl ?_
  refine aw_aload_n (q := 396) dL_law_395 rfl rfl ?_
  refine aw_iload_n (q := 397) dL_law_396 rfl rfl ?_
  refine aw_iconst (q := 398) (v := 1) dL_law_397 rfl (by decide) ?_
  refine aw_iadd (q := 399) dL_law_398 rfl ?_
  refine aw_sld (q := 400) (j := i + 1) dL_law_399 rfl (nI_add i 1) (by omega) (by omega) ?_
  refine aw_aload_n (q := 401) dL_law_400 rfl rfl ?_
  refine aw_iload_n (q := 402) dL_law_401 rfl rfl ?_
  refine aw_iconst (q := 403) (v := 2) dL_law_402 rfl (by decide) ?_
  refine aw_iadd (q := 404) dL_law_403 rfl ?_
  refine aw_sld (q := 405) (j := i + 2) dL_law_404 rfl (nI_add i 2) (by omega) (by omega) ?_
  refine aw_cv (q := 408) (d' := 7) (as := [.int (zxs G (i + 1)), .int (zxs G (i + 2))]) (b := 120) (ci := 7) (st := [.int v]) dL_law_405 rfl W_X7_reached k_L_43 i_X7_reached v_X7_reached (by decide) (o_X7 s1 R) rfl rfl rfl (by decide) (Nat.le_of_ble_eq_true rfl) (c_X7_reached s1 R (zxs G (i + 1)) (zxs G (i + 2)) e2) (Nat.le_refl _) (Nat.le_refl _) ?_
  rintro r h8 ⟨rfl, rfl⟩
  refine aw_st (st' := [.int v, .int v]) rfl ?_
  exact aw_icmp_eq (q := 411) (t := 1015) dL_law_408 rfl (by decide) (fun _ => K s1 R hI1) (fun hz => absurd rfl hz)
set_option maxRecDepth 100000 in
set_option maxHeartbeats 4000000 in
theorem law_7 {i : Nat} {s : zs} {R : zr} (hI : zInv s R) (hi : i + 5 ≤ zLen G) (hL : zLen G ≤ 2560) (K : ∀ s1 R1, zInv s1 R1 → AL G 1015 i [] s1 R1) : AL G 413 i [] s R := by
  obtain ⟨v, s1, e1, e2, hI1⟩ := q_scanned hI (zxs G (i + 1)) (zxs G (i + 2))
  refine aw_aload_n (q := 414) dL_law_413 rfl rfl ?_
  refine aw_aload_n (q := 415) dL_law_414 rfl rfl ?_
  refine aw_iload_n (q := 416) dL_law_415 rfl rfl ?_
  refine aw_iconst (q := 417) (v := 1) dL_law_416 rfl (by decide) ?_
  refine aw_iadd (q := 418) dL_law_417 rfl ?_
  refine aw_sld (q := 419) (j := i + 1) dL_law_418 rfl (nI_add i 1) (by omega) (by omega) ?_
  refine aw_aload_n (q := 420) dL_law_419 rfl rfl ?_
  refine aw_iload_n (q := 421) dL_law_420 rfl rfl ?_
  refine aw_iconst (q := 422) (v := 2) dL_law_421 rfl (by decide) ?_
  refine aw_iadd (q := 423) dL_law_422 rfl ?_
  refine aw_sld (q := 424) (j := i + 2) dL_law_423 rfl (nI_add i 2) (by omega) (by omega) ?_
  refine aw_cv (q := 427) (d' := 5) (as := [.int (zxs G (i + 1)), .int (zxs G (i + 2))]) (b := 0) (ci := 6) (st := []) dL_law_424 rfl W_X6_scanned k_L_44 i_X6_scanned v_X6_scanned (by decide) (o_X6 s R) rfl rfl rfl (by decide) (Nat.le_of_ble_eq_true rfl) (c_X6_scanned s R (zxs G (i + 1)) (zxs G (i + 2)) e1) (Nat.le_refl _) (Nat.le_refl _) ?_
  rintro r h8 ⟨rfl, rfl⟩
  refine aw_st (st' := [.int v]) rfl ?_
  refine aw_aload_n (q := 428) dL_law_427 rfl rfl ?_
  refine aw_aload_n (q := 429) dL_law_428 rfl rfl ?_
  refine aw_iload_n (q := 430) dL_law_429 rfl rfl ?_
  refine aw_iconst (q := 431) (v := 1) dL_law_430 rfl (by decide) ?_
  refine aw_iadd (q := 432) dL_law_431 rfl ?_
  refine aw_sld (q := 433) (j := i + 1) dL_law_432 rfl (nI_add i 1) (by omega) (by omega) ?_
  refine aw_aload_n (q := 434) dL_law_433 rfl rfl ?_
  refine aw_iload_n (q := 435) dL_law_434 rfl rfl ?_
  refine aw_iconst (q := 436) (v := 2) dL_law_435 rfl (by decide) ?_
  refine aw_iadd (q := 437) dL_law_436 rfl ?_
  refine aw_sld (q := 438) (j := i + 2) dL_law_437 rfl (nI_add i 2) (by omega) (by omega) ?_
  refine aw_cv (q := 441) (d' := 6) (as := [.int (zxs G (i + 1)), .int (zxs G (i + 2))]) (b := 120) (ci := 7) (st := [.int v]) dL_law_438 rfl W_X7_scanned k_L_47 i_X7_scanned v_X7_scanned (by decide) (o_X7 s1 R) rfl rfl rfl (by decide) (Nat.le_of_ble_eq_true rfl) (c_X7_scanned s1 R (zxs G (i + 1)) (zxs G (i + 2)) e2) (Nat.le_refl _) (Nat.le_refl _) ?_
  rintro r h8 ⟨rfl, rfl⟩
  refine aw_st (st' := [.int v, .int v]) rfl ?_
  exact aw_icmp_eq (q := 444) (t := 1015) dL_law_441 rfl (by decide) (fun _ => K s1 R hI1) (fun hz => absurd rfl hz)
set_option maxRecDepth 100000 in
set_option maxHeartbeats 4000000 in
theorem law_8 {i : Nat} {s : zs} {R : zr} (hI : zInv s R) (hi : i + 5 ≤ zLen G) (hL : zLen G ≤ 2560) (K : ∀ s1 R1, zInv s1 R1 → AL G 1015 i [] s1 R1) : AL G 446 i [] s R := by
  obtain ⟨v, s1, e1, e2, hI1⟩ := q_reads hI (zxs G (i + 1)) (zxs G (i + 2)) (zxs G (i + 3)) (zxs G (i + 4))
  refine aw_aload_n (q := 447) dL_law_446 rfl rfl ?_
  refine aw_aload_n (q := 448) dL_law_447 rfl rfl ?_
  refine aw_iload_n (q := 449) dL_law_448 rfl rfl ?_
  refine aw_iconst (q := 450) (v := 1) dL_law_449 rfl (by decide) ?_
  refine aw_iadd (q := 451) dL_law_450 rfl ?_
  refine aw_sld (q := 452) (j := i + 1) dL_law_451 rfl (nI_add i 1) (by omega) (by omega) ?_
  refine aw_aload_n (q := 453) dL_law_452 rfl rfl ?_
  refine aw_iload_n (q := 454) dL_law_453 rfl rfl ?_
  refine aw_iconst (q := 455) (v := 2) dL_law_454 rfl (by decide) ?_
  refine aw_iadd (q := 456) dL_law_455 rfl ?_
  refine aw_sld (q := 457) (j := i + 2) dL_law_456 rfl (nI_add i 2) (by omega) (by omega) ?_
  refine aw_aload_n (q := 458) dL_law_457 rfl rfl ?_
  refine aw_iload_n (q := 459) dL_law_458 rfl rfl ?_
  refine aw_iconst (q := 460) (v := 3) dL_law_459 rfl (by decide) ?_
  refine aw_iadd (q := 461) dL_law_460 rfl ?_
  refine aw_sld (q := 462) (j := i + 3) dL_law_461 rfl (nI_add i 3) (by omega) (by omega) ?_
  refine aw_aload_n (q := 463) dL_law_462 rfl rfl ?_
  refine aw_iload_n (q := 464) dL_law_463 rfl rfl ?_
  refine aw_iconst (q := 465) (v := 4) dL_law_464 rfl (by decide) ?_
  refine aw_iadd (q := 466) dL_law_465 rfl ?_
  refine aw_sld (q := 467) (j := i + 4) dL_law_466 rfl (nI_add i 4) (by omega) (by omega) ?_
  refine aw_cv (q := 470) (d' := 5) (as := [.int (zxs G (i + 1)), .int (zxs G (i + 2)), .int (zxs G (i + 3)), .int (zxs G (i + 4))]) (b := 0) (ci := 6) (st := []) dL_law_467 rfl W_X6_reads k_L_48 i_X6_reads v_X6_reads (by decide) (o_X6 s R) rfl rfl rfl (by decide) (Nat.le_of_ble_eq_true rfl) (c_X6_reads s R (zxs G (i + 1)) (zxs G (i + 2)) (zxs G (i + 3)) (zxs G (i + 4)) e1) (Nat.le_refl _) (Nat.le_refl _) ?_
  rintro r h8 ⟨rfl, rfl⟩
  refine aw_st (st' := [.int v]) rfl ?_
  refine aw_aload_n (q := 471) dL_law_470 rfl rfl ?_
  refine aw_aload_n (q := 472) dL_law_471 rfl rfl ?_
  refine aw_iload_n (q := 473) dL_law_472 rfl rfl ?_
  refine aw_iconst (q := 474) (v := 1) dL_law_473 rfl (by decide) ?_
  refine aw_iadd (q := 475) dL_law_474 rfl ?_
  refine aw_sld (q := 476) (j := i + 1) dL_law_475 rfl (nI_add i 1) (by omega) (by omega) ?_
  refine aw_aload_n (q := 477) dL_law_476 rfl rfl ?_
  refine aw_iload_n (q := 478) dL_law_477 rfl rfl ?_
  refine aw_iconst (q := 479) (v := 2) dL_law_478 rfl (by decide) ?_
  refine aw_iadd (q := 480) dL_law_479 rfl ?_
  refine aw_sld (q := 481) (j := i + 2) dL_law_480 rfl (nI_add i 2) (by omega) (by omega) ?_
  refine aw_aload_n (q := 482) dL_law_481 rfl rfl ?_
  refine aw_iload_n (q := 483) dL_law_482 rfl rfl ?_
  refine aw_iconst (q := 484) (v := 3) dL_law_483 rfl (by decide) ?_
  refine aw_iadd (q := 485) dL_law_484 rfl ?_
  refine aw_sld (q := 486) (j := i + 3) dL_law_485 rfl (nI_add i 3) (by omega) (by omega) ?_
  refine aw_aload_n (q := 487) dL_law_486 rfl rfl ?_
  refine aw_iload_n (q := 488) dL_law_487 rfl rfl ?_
  refine aw_iconst (q := 489) (v := 4) dL_law_488 rfl (by decide) ?_
  refine aw_iadd (q := 490) dL_law_489 rfl ?_
  refine aw_sld (q := 491) (j := i + 4) dL_law_490 rfl (nI_add i 4) (by omega) (by omega) ?_
  refine aw_cv (q := 494) (d' := 7) (as := [.int (zxs G (i + 1)), .int (zxs G (i + 2)), .int (zxs G (i + 3)), .int (zxs G (i + 4))]) (b := 120) (ci := 7) (st := [.int v]) dL_law_491 rfl W_X7_reads k_L_52 i_X7_reads v_X7_reads (by decide) (o_X7 s1 R) rfl rfl rfl (by decide) (Nat.le_of_ble_eq_true rfl) (c_X7_reads s1 R (zxs G (i + 1)) (zxs G (i + 2)) (zxs G (i + 3)) (zxs G (i + 4)) e2) (Nat.le_refl _) (Nat.le_refl _) ?_
  rintro r h8 ⟨rfl, rfl⟩
  refine aw_st (st' := [.int v, .int v]) rfl ?_
  exact aw_icmp_eq (q := 497) (t := 1015) dL_law_494 rfl (by decide) (fun _ => K s1 R hI1) (fun hz => absurd rfl hz)
set_option maxRecDepth 100000 in
set_option maxHeartbeats 4000000 in
theorem law_9 {i : Nat} {s : zs} {R : zr} (hI : zInv s R) (hi : i + 5 ≤ zLen G) (hL : zLen G ≤ 2560) (K : ∀ s1 R1, zInv s1 R1 → AL G 1015 i [] s1 R1) : AL G 499 i [] s R := by
  obtain ⟨v, s1, R1, e1, e2, hI1⟩ := q_daysOf hI (zxs G (i + 1))
  refine aw_aload_n (q := 500) dL_law_499 rfl rfl ?_
  refine aw_aload_n (q := 501) dL_law_500 rfl rfl ?_
  refine aw_iload_n (q := 502) dL_law_501 rfl rfl ?_
  refine aw_iconst (q := 503) (v := 1) dL_law_502 rfl (by decide) ?_
  refine aw_iadd (q := 504) dL_law_503 rfl ?_
  refine aw_sld (q := 505) (j := i + 1) dL_law_504 rfl (nI_add i 1) (by omega) (by omega) ?_
  refine aw_cv (q := 508) (d' := 6) (as := [.int (zxs G (i + 1))]) (b := 0) (ci := 6) (st := []) dL_law_505 rfl W_X6_daysOf k_L_53 i_X6_daysOf v_X6_daysOf (by decide) (o_X6 s R) rfl rfl rfl (by decide) (Nat.le_of_ble_eq_true rfl) (c_X6_daysOf s R (zxs G (i + 1)) e1) (Nat.le_refl _) (Nat.le_refl _) ?_
  rintro r h8 ⟨rfl, rfl⟩
  refine aw_st (st' := [.int v]) rfl ?_
  refine aw_aload_n (q := 509) dL_law_508 rfl rfl ?_
  refine aw_aload_n (q := 510) dL_law_509 rfl rfl ?_
  refine aw_iload_n (q := 511) dL_law_510 rfl rfl ?_
  refine aw_iconst (q := 512) (v := 1) dL_law_511 rfl (by decide) ?_
  refine aw_iadd (q := 513) dL_law_512 rfl ?_
  refine aw_sld (q := 514) (j := i + 1) dL_law_513 rfl (nI_add i 1) (by omega) (by omega) ?_
  refine aw_cv (q := 517) (d' := 9) (as := [.int (zxs G (i + 1))]) (b := 120) (ci := 7) (st := [.int v]) dL_law_514 rfl W_X7_daysOf k_L_56 i_X7_daysOf v_X7_daysOf (by decide) (o_X7 s1 R) rfl rfl rfl (by decide) (Nat.le_of_ble_eq_true rfl) (c_X7_daysOf s1 R (zxs G (i + 1)) e2) (Nat.le_refl _) (Nat.le_refl _) ?_
  rintro r h8 ⟨rfl, rfl⟩
  refine aw_st (st' := [.int v, .int v]) rfl ?_
  exact aw_icmp_eq (q := 520) (t := 1015) dL_law_517 rfl (by decide) (fun _ => K s1 R1 hI1) (fun hz => absurd rfl hz)
set_option maxRecDepth 100000 in
set_option maxHeartbeats 4000000 in
theorem law_10 {i : Nat} {s : zs} {R : zr} (hI : zInv s R) (hi : i + 5 ≤ zLen G) (hL : zLen G ≤ 2560) (K : ∀ s1 R1, zInv s1 R1 → AL G 1015 i [] s1 R1) : AL G 522 i [] s R := by
  obtain ⟨v, s1, R1, e1, e2, hI1⟩ := q_alike hI (zxs G (i + 1)) (zxs G (i + 2))
  refine aw_aload_n (q := 523) dL_law_522 rfl rfl ?_
  refine aw_aload_n (q := 524) dL_law_523 rfl rfl ?_
  refine aw_iload_n (q := 525) dL_law_524 rfl rfl ?_
  refine aw_iconst (q := 526) (v := 1) dL_law_525 rfl (by decide) ?_
  refine aw_iadd (q := 527) dL_law_526 rfl ?_
  refine aw_sld (q := 528) (j := i + 1) dL_law_527 rfl (nI_add i 1) (by omega) (by omega) ?_
  refine aw_aload_n (q := 529) dL_law_528 rfl rfl ?_
  refine aw_iload_n (q := 530) dL_law_529 rfl rfl ?_
  refine aw_iconst (q := 531) (v := 2) dL_law_530 rfl (by decide) ?_
  refine aw_iadd (q := 532) dL_law_531 rfl ?_
  refine aw_sld (q := 533) (j := i + 2) dL_law_532 rfl (nI_add i 2) (by omega) (by omega) ?_
  refine aw_cv (q := 536) (d' := 6) (as := [.int (zxs G (i + 1)), .int (zxs G (i + 2))]) (b := 0) (ci := 6) (st := []) dL_law_533 rfl W_X6_alike k_L_57 i_X6_alike v_X6_alike (by decide) (o_X6 s R) rfl rfl rfl (by decide) (Nat.le_of_ble_eq_true rfl) (c_X6_alike s R (zxs G (i + 1)) (zxs G (i + 2)) e1) (Nat.le_refl _) (Nat.le_refl _) ?_
  rintro r h8 ⟨rfl, rfl⟩
  refine aw_st (st' := [.int v]) rfl ?_
  refine aw_aload_n (q := 537) dL_law_536 rfl rfl ?_
  refine aw_aload_n (q := 538) dL_law_537 rfl rfl ?_
  refine aw_iload_n (q := 539) dL_law_538 rfl rfl ?_
  refine aw_iconst (q := 540) (v := 1) dL_law_539 rfl (by decide) ?_
  refine aw_iadd (q := 541) dL_law_540 rfl ?_
  refine aw_sld (q := 542) (j := i + 1) dL_law_541 rfl (nI_add i 1) (by omega) (by omega) ?_
  refine aw_aload_n (q := 543) dL_law_542 rfl rfl ?_
  refine aw_iload_n (q := 544) dL_law_543 rfl rfl ?_
  refine aw_iconst (q := 545) (v := 2) dL_law_544 rfl (by decide) ?_
  refine aw_iadd (q := 546) dL_law_545 rfl ?_
  refine aw_sld (q := 547) (j := i + 2) dL_law_546 rfl (nI_add i 2) (by omega) (by omega) ?_
  refine aw_cv (q := 550) (d' := 9) (as := [.int (zxs G (i + 1)), .int (zxs G (i + 2))]) (b := 120) (ci := 7) (st := [.int v]) dL_law_547 rfl W_X7_alike k_L_60 i_X7_alike v_X7_alike (by decide) (o_X7 s1 R) rfl rfl rfl (by decide) (Nat.le_of_ble_eq_true rfl) (c_X7_alike s1 R (zxs G (i + 1)) (zxs G (i + 2)) e2) (Nat.le_refl _) (Nat.le_refl _) ?_
  rintro r h8 ⟨rfl, rfl⟩
  refine aw_st (st' := [.int v, .int v]) rfl ?_
  exact aw_icmp_eq (q := 553) (t := 1015) dL_law_550 rfl (by decide) (fun _ => K s1 R1 hI1) (fun hz => absurd rfl hz)
set_option maxRecDepth 100000 in
set_option maxHeartbeats 4000000 in
theorem law_11 {i : Nat} {s : zs} {R : zr} (hI : zInv s R) (hi : i + 5 ≤ zLen G) (hL : zLen G ≤ 2560) (K : ∀ s1 R1, zInv s1 R1 → AL G 1015 i [] s1 R1) : AL G 555 i [] s R := by
  obtain ⟨v, s1, R1, e1, e2, hI1⟩ := q_twin hI (zxs G (i + 1))
  refine aw_aload_n (q := 556) dL_law_555 rfl rfl ?_
  refine aw_aload_n (q := 557) dL_law_556 rfl rfl ?_
  refine aw_iload_n (q := 558) dL_law_557 rfl rfl ?_
  refine aw_iconst (q := 559) (v := 1) dL_law_558 rfl (by decide) ?_
  refine aw_iadd (q := 560) dL_law_559 rfl ?_
  refine aw_sld (q := 561) (j := i + 1) dL_law_560 rfl (nI_add i 1) (by omega) (by omega) ?_
  refine aw_cv (q := 564) (d' := 6) (as := [.int (zxs G (i + 1))]) (b := 0) (ci := 6) (st := []) dL_law_561 rfl W_X6_twin k_L_61 i_X6_twin v_X6_twin (by decide) (o_X6 s R) rfl rfl rfl (by decide) (Nat.le_of_ble_eq_true rfl) (c_X6_twin s R (zxs G (i + 1)) e1) (Nat.le_refl _) (Nat.le_refl _) ?_
  rintro r h8 ⟨rfl, rfl⟩
  refine aw_st (st' := [.int v]) rfl ?_
  refine aw_aload_n (q := 565) dL_law_564 rfl rfl ?_
  refine aw_aload_n (q := 566) dL_law_565 rfl rfl ?_
  refine aw_iload_n (q := 567) dL_law_566 rfl rfl ?_
  refine aw_iconst (q := 568) (v := 1) dL_law_567 rfl (by decide) ?_
  refine aw_iadd (q := 569) dL_law_568 rfl ?_
  refine aw_sld (q := 570) (j := i + 1) dL_law_569 rfl (nI_add i 1) (by omega) (by omega) ?_
  refine aw_cv (q := 573) (d' := 9) (as := [.int (zxs G (i + 1))]) (b := 120) (ci := 7) (st := [.int v]) dL_law_570 rfl W_X7_twin k_L_64 i_X7_twin v_X7_twin (by decide) (o_X7 s1 R) rfl rfl rfl (by decide) (Nat.le_of_ble_eq_true rfl) (c_X7_twin s1 R (zxs G (i + 1)) e2) (Nat.le_refl _) (Nat.le_refl _) ?_
  rintro r h8 ⟨rfl, rfl⟩
  refine aw_st (st' := [.int v, .int v]) rfl ?_
  exact aw_icmp_eq (q := 576) (t := 1015) dL_law_573 rfl (by decide) (fun _ => K s1 R1 hI1) (fun hz => absurd rfl hz)
set_option maxRecDepth 100000 in
set_option maxHeartbeats 4000000 in
theorem law_12 {i : Nat} {s : zs} {R : zr} (hI : zInv s R) (hi : i + 5 ≤ zLen G) (hL : zLen G ≤ 2560) (K : ∀ s1 R1, zInv s1 R1 → AL G 1015 i [] s1 R1) : AL G 578 i [] s R := by
  obtain ⟨v, s1, R1, e1, e2, hI1⟩ := q_outcomes hI (zxs G (i + 1))
  refine aw_aload_n (q := 579) dL_law_578 rfl rfl ?_
  refine aw_aload_n (q := 580) dL_law_579 rfl rfl ?_
  refine aw_iload_n (q := 581) dL_law_580 rfl rfl ?_
  refine aw_iconst (q := 582) (v := 1) dL_law_581 rfl (by decide) ?_
  refine aw_iadd (q := 583) dL_law_582 rfl ?_
  refine aw_sld (q := 584) (j := i + 1) dL_law_583 rfl (nI_add i 1) (by omega) (by omega) ?_
  refine aw_cv (q := 587) (d' := 6) (as := [.int (zxs G (i + 1))]) (b := 0) (ci := 6) (st := []) dL_law_584 rfl W_X6_outcomes k_L_65 i_X6_outcomes v_X6_outcomes (by decide) (o_X6 s R) rfl rfl rfl (by decide) (Nat.le_of_ble_eq_true rfl) (c_X6_outcomes s R (zxs G (i + 1)) e1) (Nat.le_refl _) (Nat.le_refl _) ?_
  rintro r h8 ⟨rfl, rfl⟩
  refine aw_st (st' := [.int v]) rfl ?_
  refine aw_aload_n (q := 588) dL_law_587 rfl rfl ?_
  refine aw_aload_n (q := 589) dL_law_588 rfl rfl ?_
  refine aw_iload_n (q := 590) dL_law_589 rfl rfl ?_
  refine aw_iconst (q := 591) (v := 1) dL_law_590 rfl (by decide) ?_
  refine aw_iadd (q := 592) dL_law_591 rfl ?_
  refine aw_sld (q := 593) (j := i + 1) dL_law_592 rfl (nI_add i 1) (by omega) (by omega) ?_
  refine aw_cv (q := 596) (d' := 9) (as := [.int (zxs G (i + 1))]) (b := 120) (ci := 7) (st := [.int v]) dL_law_593 rfl W_X7_outcomes k_L_68 i_X7_outcomes v_X7_outcomes (by decide) (o_X7 s1 R) rfl rfl rfl (by decide) (Nat.le_of_ble_eq_true rfl) (c_X7_outcomes s1 R (zxs G (i + 1)) e2) (Nat.le_refl _) (Nat.le_refl _) ?_
  rintro r h8 ⟨rfl, rfl⟩
  refine aw_st (st' := [.int v, .int v]) rfl ?_
  exact aw_icmp_eq (q := 599) (t := 1015) dL_law_596 rfl (by decide) (fun _ => K s1 R1 hI1) (fun hz => absurd rfl hz)
set_option maxRecDepth 100000 in
set_option maxHeartbeats 4000000 in
theorem law_13 {i : Nat} {s : zs} {R : zr} (hI : zInv s R) (hi : i + 5 ≤ zLen G) (hL : zLen G ≤ 2560) (K : ∀ s1 R1, zInv s1 R1 → AL G 1015 i [] s1 R1) : AL G 601 i [] s R := by
  obtain ⟨v, s1, R1, e1, e2, hI1⟩ := q_likes hI (zxs G (i + 1)) (zxs G (i + 2))
  refine aw_aload_n (q := 602) dL_law_601 rfl rfl ?_
  refine aw_aload_n (q := 603) dL_law_602 rfl rfl ?_
  refine aw_iload_n (q := 604) dL_law_603 rfl rfl ?_
  refine aw_iconst (q := 605) (v := 1) dL_law_604 rfl (by decide) ?_
  refine aw_iadd (q := 606) dL_law_605 rfl ?_
  refine aw_sld (q := 607) (j := i + 1) dL_law_606 rfl (nI_add i 1) (by omega) (by omega) ?_
  refine aw_aload_n (q := 608) dL_law_607 rfl rfl ?_
  refine aw_iload_n (q := 609) dL_law_608 rfl rfl ?_
  refine aw_iconst (q := 610) (v := 2) dL_law_609 rfl (by decide) ?_
  refine aw_iadd (q := 611) dL_law_610 rfl ?_
  refine aw_sld (q := 612) (j := i + 2) dL_law_611 rfl (nI_add i 2) (by omega) (by omega) ?_
  refine aw_cv (q := 615) (d' := 6) (as := [.int (zxs G (i + 1)), .int (zxs G (i + 2))]) (b := 0) (ci := 6) (st := []) dL_law_612 rfl W_X6_likes k_L_69 i_X6_likes v_X6_likes (by decide) (o_X6 s R) rfl rfl rfl (by decide) (Nat.le_of_ble_eq_true rfl) (c_X6_likes s R (zxs G (i + 1)) (zxs G (i + 2)) e1) (Nat.le_refl _) (Nat.le_refl _) ?_
  rintro r h8 ⟨rfl, rfl⟩
  refine aw_st (st' := [.int v]) rfl ?_
  refine aw_aload_n (q := 616) dL_law_615 rfl rfl ?_
  refine aw_aload_n (q := 617) dL_law_616 rfl rfl ?_
  refine aw_iload_n (q := 618) dL_law_617 rfl rfl ?_
  refine aw_iconst (q := 619) (v := 1) dL_law_618 rfl (by decide) ?_
  refine aw_iadd (q := 620) dL_law_619 rfl ?_
  refine aw_sld (q := 621) (j := i + 1) dL_law_620 rfl (nI_add i 1) (by omega) (by omega) ?_
  refine aw_aload_n (q := 622) dL_law_621 rfl rfl ?_
  refine aw_iload_n (q := 623) dL_law_622 rfl rfl ?_
  refine aw_iconst (q := 624) (v := 2) dL_law_623 rfl (by decide) ?_
  refine aw_iadd (q := 625) dL_law_624 rfl ?_
  refine aw_sld (q := 626) (j := i + 2) dL_law_625 rfl (nI_add i 2) (by omega) (by omega) ?_
  refine aw_cv (q := 629) (d' := 9) (as := [.int (zxs G (i + 1)), .int (zxs G (i + 2))]) (b := 120) (ci := 7) (st := [.int v]) dL_law_626 rfl W_X7_likes k_L_72 i_X7_likes v_X7_likes (by decide) (o_X7 s1 R) rfl rfl rfl (by decide) (Nat.le_of_ble_eq_true rfl) (c_X7_likes s1 R (zxs G (i + 1)) (zxs G (i + 2)) e2) (Nat.le_refl _) (Nat.le_refl _) ?_
  rintro r h8 ⟨rfl, rfl⟩
  refine aw_st (st' := [.int v, .int v]) rfl ?_
  exact aw_icmp_eq (q := 632) (t := 1015) dL_law_629 rfl (by decide) (fun _ => K s1 R1 hI1) (fun hz => absurd rfl hz)
set_option maxRecDepth 100000 in
set_option maxHeartbeats 4000000 in
theorem law_14 {i : Nat} {s : zs} {R : zr} (hI : zInv s R) (hi : i + 5 ≤ zLen G) (hL : zLen G ≤ 2560) (K : ∀ s1 R1, zInv s1 R1 → AL G 1015 i [] s1 R1) : AL G 634 i [] s R := by
  obtain ⟨v, s1, R1, e1, e2, hI1⟩ := q_fewestDays hI (zxs G (i + 1)) (zxs G (i + 2))
  refine aw_aload_n (q := 635) dL_law_634 rfl rfl ?_
  refine aw_aload_n (q := 636) dL_law_635 rfl rfl ?_
  refine aw_iload_n (q := 637) dL_law_636 rfl rfl ?_
  refine aw_iconst (q := 638) (v := 1) dL_law_637 rfl (by decide) ?_
  refine aw_iadd (q := 639) dL_law_638 rfl ?_
  refine aw_sld (q := 640) (j := i + 1) dL_law_639 rfl (nI_add i 1) (by omega) (by omega) ?_
  refine aw_aload_n (q := 641) dL_law_640 rfl rfl ?_
  refine aw_iload_n (q := 642) dL_law_641 rfl rfl ?_
  refine aw_iconst (q := 643) (v := 2) dL_law_642 rfl (by decide) ?_
  refine aw_iadd (q := 644) dL_law_643 rfl ?_
  refine aw_sld (q := 645) (j := i + 2) dL_law_644 rfl (nI_add i 2) (by omega) (by omega) ?_
  refine aw_cv (q := 648) (d' := 6) (as := [.int (zxs G (i + 1)), .int (zxs G (i + 2))]) (b := 0) (ci := 6) (st := []) dL_law_645 rfl W_X6_fewestDays k_L_73 i_X6_fewestDays v_X6_fewestDays (by decide) (o_X6 s R) rfl rfl rfl (by decide) (Nat.le_of_ble_eq_true rfl) (c_X6_fewestDays s R (zxs G (i + 1)) (zxs G (i + 2)) e1) (Nat.le_refl _) (Nat.le_refl _) ?_
  rintro r h8 ⟨rfl, rfl⟩
  refine aw_st (st' := [.int v]) rfl ?_
  refine aw_aload_n (q := 649) dL_law_648 rfl rfl ?_
  refine aw_aload_n (q := 650) dL_law_649 rfl rfl ?_
  refine aw_iload_n (q := 651) dL_law_650 rfl rfl ?_
  refine aw_iconst (q := 652) (v := 1) dL_law_651 rfl (by decide) ?_
  refine aw_iadd (q := 653) dL_law_652 rfl ?_
  refine aw_sld (q := 654) (j := i + 1) dL_law_653 rfl (nI_add i 1) (by omega) (by omega) ?_
  refine aw_aload_n (q := 655) dL_law_654 rfl rfl ?_
  refine aw_iload_n (q := 656) dL_law_655 rfl rfl ?_
  refine aw_iconst (q := 657) (v := 2) dL_law_656 rfl (by decide) ?_
  refine aw_iadd (q := 658) dL_law_657 rfl ?_
  refine aw_sld (q := 659) (j := i + 2) dL_law_658 rfl (nI_add i 2) (by omega) (by omega) ?_
  refine aw_cv (q := 662) (d' := 10) (as := [.int (zxs G (i + 1)), .int (zxs G (i + 2))]) (b := 120) (ci := 7) (st := [.int v]) dL_law_659 rfl W_X7_fewestDays k_L_76 i_X7_fewestDays v_X7_fewestDays (by decide) (o_X7 s1 R) rfl rfl rfl (by decide) (Nat.le_of_ble_eq_true rfl) (c_X7_fewestDays s1 R (zxs G (i + 1)) (zxs G (i + 2)) e2) (Nat.le_refl _) (Nat.le_refl _) ?_
  rintro r h8 ⟨rfl, rfl⟩
  refine aw_st (st' := [.int v, .int v]) rfl ?_
  exact aw_icmp_eq (q := 665) (t := 1015) dL_law_662 rfl (by decide) (fun _ => K s1 R1 hI1) (fun hz => absurd rfl hz)
set_option maxRecDepth 100000 in
set_option maxHeartbeats 4000000 in
theorem law_15 {i : Nat} {s : zs} {R : zr} (hI : zInv s R) (hi : i + 5 ≤ zLen G) (hL : zLen G ≤ 2560) (K : ∀ s1 R1, zInv s1 R1 → AL G 1015 i [] s1 R1) : AL G 667 i [] s R := by
  obtain ⟨v, s1, R1, e1, e2, hI1⟩ := q_wanted hI (zxs G (i + 1)) (zxs G (i + 2)) (zxs G (i + 3))
  refine aw_aload_n (q := 668) dL_law_667 rfl rfl ?_
  refine aw_aload_n (q := 669) dL_law_668 rfl rfl ?_
  refine aw_iload_n (q := 670) dL_law_669 rfl rfl ?_
  refine aw_iconst (q := 671) (v := 1) dL_law_670 rfl (by decide) ?_
  refine aw_iadd (q := 672) dL_law_671 rfl ?_
  refine aw_sld (q := 673) (j := i + 1) dL_law_672 rfl (nI_add i 1) (by omega) (by omega) ?_
  refine aw_aload_n (q := 674) dL_law_673 rfl rfl ?_
  refine aw_iload_n (q := 675) dL_law_674 rfl rfl ?_
  refine aw_iconst (q := 676) (v := 2) dL_law_675 rfl (by decide) ?_
  refine aw_iadd (q := 677) dL_law_676 rfl ?_
  refine aw_sld (q := 678) (j := i + 2) dL_law_677 rfl (nI_add i 2) (by omega) (by omega) ?_
  refine aw_aload_n (q := 679) dL_law_678 rfl rfl ?_
  refine aw_iload_n (q := 680) dL_law_679 rfl rfl ?_
  refine aw_iconst (q := 681) (v := 3) dL_law_680 rfl (by decide) ?_
  refine aw_iadd (q := 682) dL_law_681 rfl ?_
  refine aw_sld (q := 683) (j := i + 3) dL_law_682 rfl (nI_add i 3) (by omega) (by omega) ?_
  refine aw_cv (q := 686) (d' := 6) (as := [.int (zxs G (i + 1)), .int (zxs G (i + 2)), .int (zxs G (i + 3))]) (b := 0) (ci := 6) (st := []) dL_law_683 rfl W_X6_wanted k_L_77 i_X6_wanted v_X6_wanted (by decide) (o_X6 s R) rfl rfl rfl (by decide) (Nat.le_of_ble_eq_true rfl) (c_X6_wanted s R (zxs G (i + 1)) (zxs G (i + 2)) (zxs G (i + 3)) e1) (Nat.le_refl _) (Nat.le_refl _) ?_
  rintro r h8 ⟨rfl, rfl⟩
  refine aw_st (st' := [.int v]) rfl ?_
  refine aw_aload_n (q := 687) dL_law_686 rfl rfl ?_
  refine aw_aload_n (q := 688) dL_law_687 rfl rfl ?_
  refine aw_iload_n (q := 689) dL_law_688 rfl rfl ?_
  refine aw_iconst (q := 690) (v := 1) dL_law_689 rfl (by decide) ?_
  refine aw_iadd (q := 691) dL_law_690 rfl ?_
  refine aw_sld (q := 692) (j := i + 1) dL_law_691 rfl (nI_add i 1) (by omega) (by omega) ?_
  refine aw_aload_n (q := 693) dL_law_692 rfl rfl ?_
  refine aw_iload_n (q := 694) dL_law_693 rfl rfl ?_
  refine aw_iconst (q := 695) (v := 2) dL_law_694 rfl (by decide) ?_
  refine aw_iadd (q := 696) dL_law_695 rfl ?_
  refine aw_sld (q := 697) (j := i + 2) dL_law_696 rfl (nI_add i 2) (by omega) (by omega) ?_
  refine aw_aload_n (q := 698) dL_law_697 rfl rfl ?_
  refine aw_iload_n (q := 699) dL_law_698 rfl rfl ?_
  refine aw_iconst (q := 700) (v := 3) dL_law_699 rfl (by decide) ?_
  refine aw_iadd (q := 701) dL_law_700 rfl ?_
  refine aw_sld (q := 702) (j := i + 3) dL_law_701 rfl (nI_add i 3) (by omega) (by omega) ?_
  refine aw_cv (q := 705) (d' := 10) (as := [.int (zxs G (i + 1)), .int (zxs G (i + 2)), .int (zxs G (i + 3))]) (b := 120) (ci := 7) (st := [.int v]) dL_law_702 rfl W_X7_wanted k_L_80 i_X7_wanted v_X7_wanted (by decide) (o_X7 s1 R) rfl rfl rfl (by decide) (Nat.le_of_ble_eq_true rfl) (c_X7_wanted s1 R (zxs G (i + 1)) (zxs G (i + 2)) (zxs G (i + 3)) e2) (Nat.le_refl _) (Nat.le_refl _) ?_
  rintro r h8 ⟨rfl, rfl⟩
  refine aw_st (st' := [.int v, .int v]) rfl ?_
  exact aw_icmp_eq (q := 708) (t := 1015) dL_law_705 rfl (by decide) (fun _ => K s1 R1 hI1) (fun hz => absurd rfl hz)
set_option maxRecDepth 100000 in
set_option maxHeartbeats 4000000 in
theorem law_16 {i : Nat} {s : zs} {R : zr} (hI : zInv s R) (hi : i + 5 ≤ zLen G) (hL : zLen G ≤ 2560) (K : ∀ s1 R1, zInv s1 R1 → AL G 1015 i [] s1 R1) : AL G 710 i [] s R := by
  obtain ⟨v, s1, R1, e1, e2, hI1⟩ := q_share hI (zxs G (i + 1))
  refine aw_aload_n (q := 711) dL_law_710 rfl rfl ?_
  refine aw_aload_n (q := 712) dL_law_711 rfl rfl ?_
  refine aw_iload_n (q := 713) dL_law_712 rfl rfl ?_
  refine aw_iconst (q := 714) (v := 1) dL_law_713 rfl (by decide) ?_
  refine aw_iadd (q := 715) dL_law_714 rfl ?_
  refine aw_sld (q := 716) (j := i + 1) dL_law_715 rfl (nI_add i 1) (by omega) (by omega) ?_
  refine aw_cv (q := 719) (d' := 6) (as := [.int (zxs G (i + 1))]) (b := 0) (ci := 6) (st := []) dL_law_716 rfl W_X6_share k_L_81 i_X6_share v_X6_share (by decide) (o_X6 s R) rfl rfl rfl (by decide) (Nat.le_of_ble_eq_true rfl) (c_X6_share s R (zxs G (i + 1)) e1) (Nat.le_refl _) (Nat.le_refl _) ?_
  rintro r h8 ⟨rfl, rfl⟩
  refine aw_st (st' := [.int v]) rfl ?_
  refine aw_aload_n (q := 720) dL_law_719 rfl rfl ?_
  refine aw_aload_n (q := 721) dL_law_720 rfl rfl ?_
  refine aw_iload_n (q := 722) dL_law_721 rfl rfl ?_
  refine aw_iconst (q := 723) (v := 1) dL_law_722 rfl (by decide) ?_
  refine aw_iadd (q := 724) dL_law_723 rfl ?_
  refine aw_sld (q := 725) (j := i + 1) dL_law_724 rfl (nI_add i 1) (by omega) (by omega) ?_
  refine aw_cv (q := 728) (d' := 9) (as := [.int (zxs G (i + 1))]) (b := 120) (ci := 7) (st := [.int v]) dL_law_725 rfl W_X7_share k_L_84 i_X7_share v_X7_share (by decide) (o_X7 s1 R) rfl rfl rfl (by decide) (Nat.le_of_ble_eq_true rfl) (c_X7_share s1 R (zxs G (i + 1)) e2) (Nat.le_refl _) (Nat.le_refl _) ?_
  rintro r h8 ⟨rfl, rfl⟩
  refine aw_st (st' := [.int v, .int v]) rfl ?_
  exact aw_icmp_eq (q := 731) (t := 1015) dL_law_728 rfl (by decide) (fun _ => K s1 R1 hI1) (fun hz => absurd rfl hz)
set_option maxRecDepth 100000 in
set_option maxHeartbeats 4000000 in
theorem law_17 {i : Nat} {s : zs} {R : zr} (hI : zInv s R) (hi : i + 5 ≤ zLen G) (hL : zLen G ≤ 2560) (K : ∀ s1 R1, zInv s1 R1 → AL G 1015 i [] s1 R1) : AL G 733 i [] s R := by
  obtain ⟨v, s1, R1, e1, e2, hI1⟩ := q_plant hI (zxs G (i + 1))
  refine aw_aload_n (q := 734) dL_law_733 rfl rfl ?_
  refine aw_aload_n (q := 735) dL_law_734 rfl rfl ?_
  refine aw_iload_n (q := 736) dL_law_735 rfl rfl ?_
  refine aw_iconst (q := 737) (v := 1) dL_law_736 rfl (by decide) ?_
  refine aw_iadd (q := 738) dL_law_737 rfl ?_
  refine aw_sld (q := 739) (j := i + 1) dL_law_738 rfl (nI_add i 1) (by omega) (by omega) ?_
  refine aw_cv (q := 742) (d' := 5) (as := [.int (zxs G (i + 1))]) (b := 0) (ci := 6) (st := []) dL_law_739 rfl W_X6_plant k_L_85 i_X6_plant v_X6_plant (by decide) (o_X6 s R) rfl rfl rfl (by decide) (Nat.le_of_ble_eq_true rfl) (c_X6_plant s R (zxs G (i + 1)) e1) (Nat.le_refl _) (Nat.le_refl _) ?_
  rintro r h8 ⟨rfl, rfl⟩
  refine aw_st (st' := [.int v]) rfl ?_
  refine aw_aload_n (q := 743) dL_law_742 rfl rfl ?_
  refine aw_aload_n (q := 744) dL_law_743 rfl rfl ?_
  refine aw_iload_n (q := 745) dL_law_744 rfl rfl ?_
  refine aw_iconst (q := 746) (v := 1) dL_law_745 rfl (by decide) ?_
  refine aw_iadd (q := 747) dL_law_746 rfl ?_
  refine aw_sld (q := 748) (j := i + 1) dL_law_747 rfl (nI_add i 1) (by omega) (by omega) ?_
  refine aw_cv (q := 751) (d' := 2) (as := [.int (zxs G (i + 1))]) (b := 120) (ci := 7) (st := [.int v]) dL_law_748 rfl W_X7_plant k_L_88 i_X7_plant v_X7_plant (by decide) (o_X7 s1 R) rfl rfl rfl (by decide) (Nat.le_of_ble_eq_true rfl) (c_X7_plant s1 R (zxs G (i + 1)) e2) (Nat.le_refl _) (Nat.le_refl _) ?_
  rintro r h8 ⟨rfl, rfl⟩
  refine aw_st (st' := [.int v, .int v]) rfl ?_
  exact aw_icmp_eq (q := 754) (t := 1015) dL_law_751 rfl (by decide) (fun _ => K s1 R1 hI1) (fun hz => absurd rfl hz)
set_option maxRecDepth 100000 in
set_option maxHeartbeats 4000000 in
theorem law_18 {i : Nat} {s : zs} {R : zr} (hI : zInv s R) (hi : i + 5 ≤ zLen G) (hL : zLen G ≤ 2560) (K : ∀ s1 R1, zInv s1 R1 → AL G 1015 i [] s1 R1) : AL G 756 i [] s R := by
  obtain ⟨v, s1, R1, e1, e2, hI1⟩ := q_test hI 
  refine aw_aload_n (q := 757) dL_law_756 rfl rfl ?_
  refine aw_cv (q := 760) (d' := 6) (as := []) (b := 0) (ci := 6) (st := []) dL_law_757 rfl W_X6_test k_L_89 i_X6_test v_X6_test (by decide) (o_X6 s R) rfl rfl rfl (by decide) (Nat.le_of_ble_eq_true rfl) (c_X6_test s R  e1) (Nat.le_refl _) (Nat.le_refl _) ?_
  rintro r h8 ⟨rfl, rfl⟩
  refine aw_st (st' := [.int v]) rfl ?_
  refine aw_aload_n (q := 761) dL_law_760 rfl rfl ?_
  refine aw_cv (q := 764) (d' := 9) (as := []) (b := 120) (ci := 7) (st := [.int v]) dL_law_761 rfl W_X7_test k_L_93 i_X7_test v_X7_test (by decide) (o_X7 s1 R) rfl rfl rfl (by decide) (Nat.le_of_ble_eq_true rfl) (c_X7_test s1 R  e2) (Nat.le_refl _) (Nat.le_refl _) ?_
  rintro r h8 ⟨rfl, rfl⟩
  refine aw_st (st' := [.int v, .int v]) rfl ?_
  exact aw_icmp_eq (q := 767) (t := 1015) dL_law_764 rfl (by decide) (fun _ => K s1 R1 hI1) (fun hz => absurd rfl hz)
set_option maxRecDepth 100000 in
set_option maxHeartbeats 4000000 in
theorem law_19 {i : Nat} {s : zs} {R : zr} (hI : zInv s R) (hi : i + 5 ≤ zLen G) (hL : zLen G ≤ 2560) (K : ∀ s1 R1, zInv s1 R1 → AL G 1015 i [] s1 R1) : AL G 769 i [] s R := by
  obtain ⟨v, s1, R1, e1, e2, hI1⟩ := q_vouch hI (zxs G (i + 1))
  refine aw_aload_n (q := 770) dL_law_769 rfl rfl ?_
  refine aw_aload_n (q := 771) dL_law_770 rfl rfl ?_
  refine aw_iload_n (q := 772) dL_law_771 rfl rfl ?_
  refine aw_iconst (q := 773) (v := 1) dL_law_772 rfl (by decide) ?_
  refine aw_iadd (q := 774) dL_law_773 rfl ?_
  refine aw_sld (q := 775) (j := i + 1) dL_law_774 rfl (nI_add i 1) (by omega) (by omega) ?_
  refine aw_cv (q := 778) (d' := 5) (as := [.int (zxs G (i + 1))]) (b := 0) (ci := 6) (st := []) dL_law_775 rfl W_X6_vouch k_L_94 i_X6_vouch v_X6_vouch (by decide) (o_X6 s R) rfl rfl rfl (by decide) (Nat.le_of_ble_eq_true rfl) (c_X6_vouch s R (zxs G (i + 1)) e1) (Nat.le_refl _) (Nat.le_refl _) ?_
  rintro r h8 ⟨rfl, rfl⟩
  refine aw_st (st' := [.int v]) rfl ?_
  refine aw_aload_n (q := 779) dL_law_778 rfl rfl ?_
  refine aw_aload_n (q := 780) dL_law_779 rfl rfl ?_
  refine aw_iload_n (q := 781) dL_law_780 rfl rfl ?_
  refine aw_iconst (q := 782) (v := 1) dL_law_781 rfl (by decide) ?_
  refine aw_iadd (q := 783) dL_law_782 rfl ?_
  refine aw_sld (q := 784) (j := i + 1) dL_law_783 rfl (nI_add i 1) (by omega) (by omega) ?_
  refine aw_cv (q := 787) (d' := 3) (as := [.int (zxs G (i + 1))]) (b := 120) (ci := 7) (st := [.int v]) dL_law_784 rfl W_X7_vouch k_L_97 i_X7_vouch v_X7_vouch (by decide) (o_X7 s1 R) rfl rfl rfl (by decide) (Nat.le_of_ble_eq_true rfl) (c_X7_vouch s1 R (zxs G (i + 1)) e2) (Nat.le_refl _) (Nat.le_refl _) ?_
  rintro r h8 ⟨rfl, rfl⟩
  refine aw_st (st' := [.int v, .int v]) rfl ?_
  exact aw_icmp_eq (q := 790) (t := 1015) dL_law_787 rfl (by decide) (fun _ => K s1 R1 hI1) (fun hz => absurd rfl hz)
set_option maxRecDepth 100000 in
set_option maxHeartbeats 4000000 in
theorem law_20 {i : Nat} {s : zs} {R : zr} (hI : zInv s R) (hi : i + 5 ≤ zLen G) (hL : zLen G ≤ 2560) (K : ∀ s1 R1, zInv s1 R1 → AL G 1015 i [] s1 R1) : AL G 792 i [] s R := by
  obtain ⟨v, s1, R1, e1, e2, hI1⟩ := q_vouchers hI (zxs G (i + 1))
  refine aw_aload_n (q := 793) dL_law_792 rfl rfl ?_
  refine aw_aload_n (q := 794) dL_law_793 rfl rfl ?_
  refine aw_iload_n (q := 795) dL_law_794 rfl rfl ?_
  refine aw_iconst (q := 796) (v := 1) dL_law_795 rfl (by decide) ?_
  refine aw_iadd (q := 797) dL_law_796 rfl ?_
  refine aw_sld (q := 798) (j := i + 1) dL_law_797 rfl (nI_add i 1) (by omega) (by omega) ?_
  refine aw_cv (q := 801) (d' := 5) (as := [.int (zxs G (i + 1))]) (b := 0) (ci := 6) (st := []) dL_law_798 rfl W_X6_vouchers k_L_98 i_X6_vouchers v_X6_vouchers (by decide) (o_X6 s R) rfl rfl rfl (by decide) (Nat.le_of_ble_eq_true rfl) (c_X6_vouchers s R (zxs G (i + 1)) e1) (Nat.le_refl _) (Nat.le_refl _) ?_
  rintro r h8 ⟨rfl, rfl⟩
  refine aw_st (st' := [.int v]) rfl ?_
  refine aw_aload_n (q := 802) dL_law_801 rfl rfl ?_
  refine aw_aload_n (q := 803) dL_law_802 rfl rfl ?_
  refine aw_iload_n (q := 804) dL_law_803 rfl rfl ?_
  refine aw_iconst (q := 805) (v := 1) dL_law_804 rfl (by decide) ?_
  refine aw_iadd (q := 806) dL_law_805 rfl ?_
  refine aw_sld (q := 807) (j := i + 1) dL_law_806 rfl (nI_add i 1) (by omega) (by omega) ?_
  refine aw_cv (q := 810) (d' := 1) (as := [.int (zxs G (i + 1))]) (b := 120) (ci := 7) (st := [.int v]) dL_law_807 rfl W_X7_vouchers k_L_101 i_X7_vouchers v_X7_vouchers (by decide) (o_X7 s1 R) rfl rfl rfl (by decide) (Nat.le_of_ble_eq_true rfl) (c_X7_vouchers s1 R (zxs G (i + 1)) e2) (Nat.le_refl _) (Nat.le_refl _) ?_
  rintro r h8 ⟨rfl, rfl⟩
  refine aw_st (st' := [.int v, .int v]) rfl ?_
  exact aw_icmp_eq (q := 813) (t := 1015) dL_law_810 rfl (by decide) (fun _ => K s1 R1 hI1) (fun hz => absurd rfl hz)
set_option maxRecDepth 100000 in
set_option maxHeartbeats 4000000 in
theorem law_21 {i : Nat} {s : zs} {R : zr} (hI : zInv s R) (hi : i + 5 ≤ zLen G) (hL : zLen G ≤ 2560) (K : ∀ s1 R1, zInv s1 R1 → AL G 1015 i [] s1 R1) : AL G 815 i [] s R := by
  obtain ⟨v, s1, R1, e1, e2, hI1⟩ := q_pass hI (zxs G (i + 1))
  refine aw_aload_n (q := 816) dL_law_815 rfl rfl ?_
  refine aw_aload_n (q := 817) dL_law_816 rfl rfl ?_
  refine aw_iload_n (q := 818) dL_law_817 rfl rfl ?_
  refine aw_iconst (q := 819) (v := 1) dL_law_818 rfl (by decide) ?_
  refine aw_iadd (q := 820) dL_law_819 rfl ?_
  refine aw_sld (q := 821) (j := i + 1) dL_law_820 rfl (nI_add i 1) (by omega) (by omega) ?_
  refine aw_cv (q := 824) (d' := 5) (as := [.int (zxs G (i + 1))]) (b := 0) (ci := 6) (st := []) dL_law_821 rfl W_X6_pass k_L_102 i_X6_pass v_X6_pass (by decide) (o_X6 s R) rfl rfl rfl (by decide) (Nat.le_of_ble_eq_true rfl) (c_X6_pass s R (zxs G (i + 1)) e1) (Nat.le_refl _) (Nat.le_refl _) ?_
  rintro r h8 ⟨rfl, rfl⟩
  refine aw_st (st' := [.int v]) rfl ?_
  refine aw_aload_n (q := 825) dL_law_824 rfl rfl ?_
  refine aw_aload_n (q := 826) dL_law_825 rfl rfl ?_
  refine aw_iload_n (q := 827) dL_law_826 rfl rfl ?_
  refine aw_iconst (q := 828) (v := 1) dL_law_827 rfl (by decide) ?_
  refine aw_iadd (q := 829) dL_law_828 rfl ?_
  refine aw_sld (q := 830) (j := i + 1) dL_law_829 rfl (nI_add i 1) (by omega) (by omega) ?_
  refine aw_cv (q := 833) (d' := 1) (as := [.int (zxs G (i + 1))]) (b := 120) (ci := 7) (st := [.int v]) dL_law_830 rfl W_X7_pass k_L_105 i_X7_pass v_X7_pass (by decide) (o_X7 s1 R) rfl rfl rfl (by decide) (Nat.le_of_ble_eq_true rfl) (c_X7_pass s1 R (zxs G (i + 1)) e2) (Nat.le_refl _) (Nat.le_refl _) ?_
  rintro r h8 ⟨rfl, rfl⟩
  refine aw_st (st' := [.int v, .int v]) rfl ?_
  exact aw_icmp_eq (q := 836) (t := 1015) dL_law_833 rfl (by decide) (fun _ => K s1 R1 hI1) (fun hz => absurd rfl hz)
set_option maxRecDepth 100000 in
set_option maxHeartbeats 4000000 in
theorem law_22 {i : Nat} {s : zs} {R : zr} (hI : zInv s R) (hi : i + 5 ≤ zLen G) (hL : zLen G ≤ 2560) (K : ∀ s1 R1, zInv s1 R1 → AL G 1015 i [] s1 R1) : AL G 838 i [] s R := by
  have e0 := q_suspects hI
  refine aw_aload_n (q := 839) dL_law_838 rfl rfl ?_
  refine aw_cv (q := 842) (d' := 0) (as := []) (b := 0) (ci := 6) (st := []) dL_law_839 rfl W_X6_suspects k_L_106 i_X6_suspects v_X6_suspects (by decide) (o_X6 s R) rfl rfl rfl (by decide) (Nat.le_of_ble_eq_true rfl) (c_X6_suspects s R) (Nat.le_refl _) (Nat.le_refl _) ?_
  rintro r h8 ⟨rfl, rfl⟩
  refine aw_st (st' := [.int (f_X6_suspects s)]) rfl ?_
  refine aw_aload_n (q := 843) dL_law_842 rfl rfl ?_
  refine aw_cv (q := 846) (d' := 0) (as := []) (b := 120) (ci := 7) (st := [.int (f_X6_suspects s)]) dL_law_843 rfl W_X7_suspects k_L_109 i_X7_suspects v_X7_suspects (by decide) (o_X7 s R) rfl rfl rfl (by decide) (Nat.le_of_ble_eq_true rfl) (c_X7_suspects s R) (Nat.le_refl _) (Nat.le_refl _) ?_
  rintro r h8 ⟨rfl, rfl⟩
  refine aw_st (st' := [.int (f_X7_suspects R), .int (f_X6_suspects s)]) rfl ?_
  exact aw_icmp_eq (q := 849) (t := 1015) dL_law_846 rfl (by decide) (fun _ => K s R hI) (fun hz => absurd e0 hz)
set_option maxRecDepth 100000 in
set_option maxHeartbeats 4000000 in
theorem law_23 {i : Nat} {s : zs} {R : zr} (hI : zInv s R) (hi : i + 5 ≤ zLen G) (hL : zLen G ≤ 2560) (K : ∀ s1 R1, zInv s1 R1 → AL G 1015 i [] s1 R1) : AL G 851 i [] s R := by
  obtain ⟨v, s1, R1, e1, e2, hI1⟩ := q_bestDay hI (zxs G (i + 1))
  refine aw_aload_n (q := 852) dL_law_851 rfl rfl ?_
  refine aw_aload_n (q := 853) dL_law_852 rfl rfl ?_
  refine aw_iload_n (q := 854) dL_law_853 rfl rfl ?_
  refine aw_iconst (q := 855) (v := 1) dL_law_854 rfl (by decide) ?_
  refine aw_iadd (q := 856) dL_law_855 rfl ?_
  refine aw_sld (q := 857) (j := i + 1) dL_law_856 rfl (nI_add i 1) (by omega) (by omega) ?_
  refine aw_cv (q := 860) (d' := 6) (as := [.int (zxs G (i + 1))]) (b := 0) (ci := 6) (st := []) dL_law_857 rfl W_X6_bestDay k_L_110 i_X6_bestDay v_X6_bestDay (by decide) (o_X6 s R) rfl rfl rfl (by decide) (Nat.le_of_ble_eq_true rfl) (c_X6_bestDay s R (zxs G (i + 1)) e1) (Nat.le_refl _) (Nat.le_refl _) ?_
  rintro r h8 ⟨rfl, rfl⟩
  refine aw_st (st' := [.int v]) rfl ?_
  refine aw_aload_n (q := 861) dL_law_860 rfl rfl ?_
  refine aw_aload_n (q := 862) dL_law_861 rfl rfl ?_
  refine aw_iload_n (q := 863) dL_law_862 rfl rfl ?_
  refine aw_iconst (q := 864) (v := 1) dL_law_863 rfl (by decide) ?_
  refine aw_iadd (q := 865) dL_law_864 rfl ?_
  refine aw_sld (q := 866) (j := i + 1) dL_law_865 rfl (nI_add i 1) (by omega) (by omega) ?_
  refine aw_cv (q := 869) (d' := 10) (as := [.int (zxs G (i + 1))]) (b := 120) (ci := 7) (st := [.int v]) dL_law_866 rfl W_X7_bestDay k_L_113 i_X7_bestDay v_X7_bestDay (by decide) (o_X7 s1 R) rfl rfl rfl (by decide) (Nat.le_of_ble_eq_true rfl) (c_X7_bestDay s1 R (zxs G (i + 1)) e2) (Nat.le_refl _) (Nat.le_refl _) ?_
  rintro r h8 ⟨rfl, rfl⟩
  refine aw_st (st' := [.int v, .int v]) rfl ?_
  exact aw_icmp_eq (q := 872) (t := 1015) dL_law_869 rfl (by decide) (fun _ => K s1 R1 hI1) (fun hz => absurd rfl hz)
set_option maxRecDepth 100000 in
set_option maxHeartbeats 4000000 in
theorem law_24 {i : Nat} {s : zs} {R : zr} (hI : zInv s R) (hi : i + 5 ≤ zLen G) (hL : zLen G ≤ 2560) (K : ∀ s1 R1, zInv s1 R1 → AL G 1015 i [] s1 R1) : AL G 874 i [] s R := by
  obtain ⟨v, s1, R1, e1, e2, hI1⟩ := q_file hI (zxs G (i + 1)) (zxs G (i + 2))
  refine aw_aload_n (q := 875) dL_law_874 rfl rfl ?_
  refine aw_aload_n (q := 876) dL_law_875 rfl rfl ?_
  refine aw_iload_n (q := 877) dL_law_876 rfl rfl ?_
  refine aw_iconst (q := 878) (v := 1) dL_law_877 rfl (by decide) ?_
  refine aw_iadd (q := 879) dL_law_878 rfl ?_
  refine aw_sld (q := 880) (j := i + 1) dL_law_879 rfl (nI_add i 1) (by omega) (by omega) ?_
  refine aw_aload_n (q := 881) dL_law_880 rfl rfl ?_
  refine aw_iload_n (q := 882) dL_law_881 rfl rfl ?_
  refine aw_iconst (q := 883) (v := 2) dL_law_882 rfl (by decide) ?_
  refine aw_iadd (q := 884) dL_law_883 rfl ?_
  refine aw_sld (q := 885) (j := i + 2) dL_law_884 rfl (nI_add i 2) (by omega) (by omega) ?_
  refine aw_cv (q := 888) (d' := 5) (as := [.int (zxs G (i + 1)), .int (zxs G (i + 2))]) (b := 0) (ci := 6) (st := []) dL_law_885 rfl W_X6_file k_L_114 i_X6_file v_X6_file (by decide) (o_X6 s R) rfl rfl rfl (by decide) (Nat.le_of_ble_eq_true rfl) (c_X6_file s R (zxs G (i + 1)) (zxs G (i + 2)) e1) (Nat.le_refl _) (Nat.le_refl _) ?_
  rintro r h8 ⟨rfl, rfl⟩
  refine aw_st (st' := [.int v]) rfl ?_
  refine aw_aload_n (q := 889) dL_law_888 rfl rfl ?_
  refine aw_aload_n (q := 890) dL_law_889 rfl rfl ?_
  refine aw_iload_n (q := 891) dL_law_890 rfl rfl ?_
  refine aw_iconst (q := 892) (v := 1) dL_law_891 rfl (by decide) ?_
  refine aw_iadd (q := 893) dL_law_892 rfl ?_
  refine aw_sld (q := 894) (j := i + 1) dL_law_893 rfl (nI_add i 1) (by omega) (by omega) ?_
  refine aw_aload_n (q := 895) dL_law_894 rfl rfl ?_
  refine aw_iload_n (q := 896) dL_law_895 rfl rfl ?_
  refine aw_iconst (q := 897) (v := 2) dL_law_896 rfl (by decide) ?_
  refine aw_iadd (q := 898) dL_law_897 rfl ?_
  refine aw_sld (q := 899) (j := i + 2) dL_law_898 rfl (nI_add i 2) (by omega) (by omega) ?_
  refine aw_cv (q := 902) (d' := 2) (as := [.int (zxs G (i + 1)), .int (zxs G (i + 2))]) (b := 120) (ci := 7) (st := [.int v]) dL_law_899 rfl W_X7_file k_L_117 i_X7_file v_X7_file (by decide) (o_X7 s1 R) rfl rfl rfl (by decide) (Nat.le_of_ble_eq_true rfl) (c_X7_file s1 R (zxs G (i + 1)) (zxs G (i + 2)) e2) (Nat.le_refl _) (Nat.le_refl _) ?_
  rintro r h8 ⟨rfl, rfl⟩
  refine aw_st (st' := [.int v, .int v]) rfl ?_
  exact aw_icmp_eq (q := 905) (t := 1015) dL_law_902 rfl (by decide) (fun _ => K s1 R1 hI1) (fun hz => absurd rfl hz)
set_option maxRecDepth 100000 in
set_option maxHeartbeats 4000000 in
theorem law_25 {i : Nat} {s : zs} {R : zr} (hI : zInv s R) (hi : i + 5 ≤ zLen G) (hL : zLen G ≤ 2560) (K : ∀ s1 R1, zInv s1 R1 → AL G 1015 i [] s1 R1) : AL G 907 i [] s R := by
  obtain ⟨v, s1, e1, e2, hI1⟩ := q_count hI (zxs G (i + 1))
  refine aw_aload_n (q := 908) dL_law_907 rfl rfl ?_
  refine aw_aload_n (q := 909) dL_law_908 rfl rfl ?_
  refine aw_iload_n (q := 910) dL_law_909 rfl rfl ?_
  refine aw_iconst (q := 911) (v := 1) dL_law_910 rfl (by decide) ?_
  refine aw_iadd (q := 912) dL_law_911 rfl ?_
  refine aw_sld (q := 913) (j := i + 1) dL_law_912 rfl (nI_add i 1) (by omega) (by omega) ?_
  refine aw_cv (q := 916) (d' := 6) (as := [.int (zxs G (i + 1))]) (b := 0) (ci := 6) (st := []) dL_law_913 rfl W_X6_count k_L_118 i_X6_count v_X6_count (by decide) (o_X6 s R) rfl rfl rfl (by decide) (Nat.le_of_ble_eq_true rfl) (c_X6_count s R (zxs G (i + 1)) e1) (Nat.le_refl _) (Nat.le_refl _) ?_
  rintro r h8 ⟨rfl, rfl⟩
  refine aw_st (st' := [.int v]) rfl ?_
  refine aw_aload_n (q := 917) dL_law_916 rfl rfl ?_
  refine aw_aload_n (q := 918) dL_law_917 rfl rfl ?_
  refine aw_iload_n (q := 919) dL_law_918 rfl rfl ?_
  refine aw_iconst (q := 920) (v := 1) dL_law_919 rfl (by decide) ?_
  refine aw_iadd (q := 921) dL_law_920 rfl ?_
  refine aw_sld (q := 922) (j := i + 1) dL_law_921 rfl (nI_add i 1) (by omega) (by omega) ?_
  refine aw_cv (q := 925) (d' := 7) (as := [.int (zxs G (i + 1))]) (b := 120) (ci := 7) (st := [.int v]) dL_law_922 rfl W_X7_count k_L_121 i_X7_count v_X7_count (by decide) (o_X7 s1 R) rfl rfl rfl (by decide) (Nat.le_of_ble_eq_true rfl) (c_X7_count s1 R (zxs G (i + 1)) e2) (Nat.le_refl _) (Nat.le_refl _) ?_
  rintro r h8 ⟨rfl, rfl⟩
  refine aw_st (st' := [.int v, .int v]) rfl ?_
  exact aw_icmp_eq (q := 928) (t := 1015) dL_law_925 rfl (by decide) (fun _ => K s1 R hI1) (fun hz => absurd rfl hz)
set_option maxRecDepth 100000 in
set_option maxHeartbeats 4000000 in
theorem law_26 {i : Nat} {s : zs} {R : zr} (hI : zInv s R) (hi : i + 5 ≤ zLen G) (hL : zLen G ≤ 2560) (K : ∀ s1 R1, zInv s1 R1 → AL G 1015 i [] s1 R1) : AL G 930 i [] s R := by
  obtain ⟨v, s1, R1, e1, e2, hI1⟩ := q_undo hI 
  refine aw_aload_n (q := 931) dL_law_930 rfl rfl ?_
  refine aw_cv (q := 934) (d' := 5) (as := []) (b := 0) (ci := 6) (st := []) dL_law_931 rfl W_X6_undo k_L_122 i_X6_undo v_X6_undo (by decide) (o_X6 s R) rfl rfl rfl (by decide) (Nat.le_of_ble_eq_true rfl) (c_X6_undo s R  e1) (Nat.le_refl _) (Nat.le_refl _) ?_
  rintro r h8 ⟨rfl, rfl⟩
  refine aw_st (st' := [.int v]) rfl ?_
  refine aw_aload_n (q := 935) dL_law_934 rfl rfl ?_
  refine aw_cv (q := 938) (d' := 0) (as := []) (b := 120) (ci := 7) (st := [.int v]) dL_law_935 rfl W_X7_undo k_L_125 i_X7_undo v_X7_undo (by decide) (o_X7 s1 R) rfl rfl rfl (by decide) (Nat.le_of_ble_eq_true rfl) (c_X7_undo s1 R  e2) (Nat.le_refl _) (Nat.le_refl _) ?_
  rintro r h8 ⟨rfl, rfl⟩
  refine aw_st (st' := [.int v, .int v]) rfl ?_
  exact aw_icmp_eq (q := 941) (t := 1015) dL_law_938 rfl (by decide) (fun _ => K s1 R1 hI1) (fun hz => absurd rfl hz)
set_option maxRecDepth 100000 in
set_option maxHeartbeats 4000000 in
theorem law_27 {i : Nat} {s : zs} {R : zr} (hI : zInv s R) (hi : i + 5 ≤ zLen G) (hL : zLen G ≤ 2560) (K : ∀ s1 R1, zInv s1 R1 → AL G 1015 i [] s1 R1) : AL G 943 i [] s R := by
  obtain ⟨v, s1, R1, e1, e2, hI1⟩ := q_type hI (zxs G (i + 1))
  refine aw_aload_n (q := 944) dL_law_943 rfl rfl ?_
  refine aw_aload_n (q := 945) dL_law_944 rfl rfl ?_
  refine aw_iload_n (q := 946) dL_law_945 rfl rfl ?_
  refine aw_iconst (q := 947) (v := 1) dL_law_946 rfl (by decide) ?_
  refine aw_iadd (q := 948) dL_law_947 rfl ?_
  refine aw_sld (q := 949) (j := i + 1) dL_law_948 rfl (nI_add i 1) (by omega) (by omega) ?_
  refine aw_cv (q := 952) (d' := 1) (as := [.int (zxs G (i + 1))]) (b := 0) (ci := 6) (st := []) dL_law_949 rfl W_X6_type k_L_126 i_X6_type v_X6_type (by decide) (o_X6 s R) rfl rfl rfl (by decide) (Nat.le_of_ble_eq_true rfl) (c_X6_type s R (zxs G (i + 1)) e1) (Nat.le_refl _) (Nat.le_refl _) ?_
  rintro r h8 ⟨rfl, rfl⟩
  refine aw_st (st' := [.int v]) rfl ?_
  refine aw_aload_n (q := 953) dL_law_952 rfl rfl ?_
  refine aw_aload_n (q := 954) dL_law_953 rfl rfl ?_
  refine aw_iload_n (q := 955) dL_law_954 rfl rfl ?_
  refine aw_iconst (q := 956) (v := 1) dL_law_955 rfl (by decide) ?_
  refine aw_iadd (q := 957) dL_law_956 rfl ?_
  refine aw_sld (q := 958) (j := i + 1) dL_law_957 rfl (nI_add i 1) (by omega) (by omega) ?_
  refine aw_cv (q := 961) (d' := 1) (as := [.int (zxs G (i + 1))]) (b := 120) (ci := 7) (st := [.int v]) dL_law_958 rfl W_X7_type k_L_129 i_X7_type v_X7_type (by decide) (o_X7 s1 R) rfl rfl rfl (by decide) (Nat.le_of_ble_eq_true rfl) (c_X7_type s1 R (zxs G (i + 1)) e2) (Nat.le_refl _) (Nat.le_refl _) ?_
  rintro r h8 ⟨rfl, rfl⟩
  refine aw_st (st' := [.int v, .int v]) rfl ?_
  exact aw_icmp_eq (q := 964) (t := 1015) dL_law_961 rfl (by decide) (fun _ => K s1 R1 hI1) (fun hz => absurd rfl hz)
set_option maxRecDepth 100000 in
set_option maxHeartbeats 4000000 in
theorem law_28 {i : Nat} {s : zs} {R : zr} (hI : zInv s R) (hi : i + 5 ≤ zLen G) (hL : zLen G ≤ 2560) (K : ∀ s1 R1, zInv s1 R1 → AL G 1015 i [] s1 R1) : AL G 966 i [] s R := by
  obtain ⟨v, s1, R1, e1, e2, hI1⟩ := q_clearText hI 
  refine aw_aload_n (q := 967) dL_law_966 rfl rfl ?_
  refine aw_cv (q := 970) (d' := 0) (as := []) (b := 0) (ci := 6) (st := []) dL_law_967 rfl W_X6_clearText k_L_130 i_X6_clearText v_X6_clearText (by decide) (o_X6 s R) rfl rfl rfl (by decide) (Nat.le_of_ble_eq_true rfl) (c_X6_clearText s R  e1) (Nat.le_refl _) (Nat.le_refl _) ?_
  rintro r h8 ⟨rfl, rfl⟩
  refine aw_st (st' := [.int v]) rfl ?_
  refine aw_aload_n (q := 971) dL_law_970 rfl rfl ?_
  refine aw_cv (q := 974) (d' := 0) (as := []) (b := 120) (ci := 7) (st := [.int v]) dL_law_971 rfl W_X7_clearText k_L_133 i_X7_clearText v_X7_clearText (by decide) (o_X7 s1 R) rfl rfl rfl (by decide) (Nat.le_of_ble_eq_true rfl) (c_X7_clearText s1 R  e2) (Nat.le_refl _) (Nat.le_refl _) ?_
  rintro r h8 ⟨rfl, rfl⟩
  refine aw_st (st' := [.int v, .int v]) rfl ?_
  exact aw_icmp_eq (q := 977) (t := 1015) dL_law_974 rfl (by decide) (fun _ => K s1 R1 hI1) (fun hz => absurd rfl hz)
set_option maxRecDepth 100000 in
set_option maxHeartbeats 4000000 in
theorem law_29 {i : Nat} {s : zs} {R : zr} (hI : zInv s R) (hi : i + 5 ≤ zLen G) (hL : zLen G ≤ 2560) (K : ∀ s1 R1, zInv s1 R1 → AL G 1015 i [] s1 R1) : AL G 979 i [] s R := by
  obtain ⟨v, s1, R1, e1, e2, hI1⟩ := q_place hI (zxs G (i + 1))
  refine aw_aload_n (q := 980) dL_law_979 rfl rfl ?_
  refine aw_aload_n (q := 981) dL_law_980 rfl rfl ?_
  refine aw_iload_n (q := 982) dL_law_981 rfl rfl ?_
  refine aw_iconst (q := 983) (v := 1) dL_law_982 rfl (by decide) ?_
  refine aw_iadd (q := 984) dL_law_983 rfl ?_
  refine aw_sld (q := 985) (j := i + 1) dL_law_984 rfl (nI_add i 1) (by omega) (by omega) ?_
  refine aw_cv (q := 988) (d' := 9) (as := [.int (zxs G (i + 1))]) (b := 0) (ci := 6) (st := []) dL_law_985 rfl W_X6_place k_L_134 i_X6_place v_X6_place (by decide) (o_X6 s R) rfl rfl rfl (by decide) (Nat.le_of_ble_eq_true rfl) (c_X6_place s R (zxs G (i + 1)) e1) (Nat.le_refl _) (Nat.le_refl _) ?_
  rintro r h8 ⟨rfl, rfl⟩
  refine aw_st (st' := [.int v]) rfl ?_
  refine aw_aload_n (q := 989) dL_law_988 rfl rfl ?_
  refine aw_aload_n (q := 990) dL_law_989 rfl rfl ?_
  refine aw_iload_n (q := 991) dL_law_990 rfl rfl ?_
  refine aw_iconst (q := 992) (v := 1) dL_law_991 rfl (by decide) ?_
  refine aw_iadd (q := 993) dL_law_992 rfl ?_
  refine aw_sld (q := 994) (j := i + 1) dL_law_993 rfl (nI_add i 1) (by omega) (by omega) ?_
  refine aw_cv (q := 997) (d' := 8) (as := [.int (zxs G (i + 1))]) (b := 120) (ci := 7) (st := [.int v]) dL_law_994 rfl W_X7_place k_L_137 i_X7_place v_X7_place (by decide) (o_X7 s1 R) rfl rfl rfl (by decide) (Nat.le_of_ble_eq_true rfl) (c_X7_place s1 R (zxs G (i + 1)) e2) (Nat.le_refl _) (Nat.le_refl _) ?_
  rintro r h8 ⟨rfl, rfl⟩
  refine aw_st (st' := [.int v, .int v]) rfl ?_
  exact aw_icmp_eq (q := 1000) (t := 1015) dL_law_997 rfl (by decide) (fun _ => K s1 R1 hI1) (fun hz => absurd rfl hz)
set_option maxRecDepth 100000 in
set_option maxHeartbeats 4000000 in
theorem law_30 {i : Nat} {s : zs} {R : zr} (hI : zInv s R) (hi : i + 5 ≤ zLen G) (hL : zLen G ≤ 2560) (K : ∀ s1 R1, zInv s1 R1 → AL G 1015 i [] s1 R1) : AL G 1002 i [] s R := by
  obtain ⟨v, s1, R1, e1, e2, hI1⟩ := q_run hI 
  refine aw_aload_n (q := 1003) dL_law_1002 rfl rfl ?_
  refine aw_cv (q := 1006) (d' := 9) (as := []) (b := 0) (ci := 6) (st := []) dL_law_1003 rfl W_X6_run k_L_138 i_X6_run v_X6_run (by decide) (o_X6 s R) rfl rfl rfl (by decide) (Nat.le_of_ble_eq_true rfl) (c_X6_run s R  e1) (Nat.le_refl _) (Nat.le_refl _) ?_
  rintro r h8 ⟨rfl, rfl⟩
  refine aw_st (st' := [.int v]) rfl ?_
  refine aw_aload_n (q := 1007) dL_law_1006 rfl rfl ?_
  refine aw_cv (q := 1010) (d' := 8) (as := []) (b := 120) (ci := 7) (st := [.int v]) dL_law_1007 rfl W_X7_run k_L_141 i_X7_run v_X7_run (by decide) (o_X7 s1 R) rfl rfl rfl (by decide) (Nat.le_of_ble_eq_true rfl) (c_X7_run s1 R  e2) (Nat.le_refl _) (Nat.le_refl _) ?_
  rintro r h8 ⟨rfl, rfl⟩
  refine aw_st (st' := [.int v, .int v]) rfl ?_
  exact aw_icmp_eq (q := 1013) (t := 1015) dL_law_1010 rfl (by decide) (fun _ => K s1 R1 hI1) (fun hz => absurd rfl hz)
theorem law_loop (hL : zLen G ≤ 2560) : ∀ (k i : Nat) (s : zs) (R : zr), zInv s R → i ≤ 2600 → zLen G < i + 5 + 5 * k → AL G 18 i [] s R
  | k, i, s, R, hI, hi, hk => by
    refine aw_iload_n (q := 19) dL_law_18 rfl rfl ?_
    refine aw_aload_n (q := 20) dL_law_19 rfl rfl ?_
    refine aw_slenL (q := 21) dL_law_20 rfl ?_
    refine aw_iconst (q := 22) (v := 5) dL_law_21 rfl (by decide) ?_
    refine aw_isub (q := 23) dL_law_22 rfl ?_
    refine aw_icmp_gt (q := 26) (t := 1021) dL_law_23 rfl (by decide) (fun _ => ?_) (fun hz => ?_)
    · refine aw_iconst (q := 1022) (v := 1) dL_law_1021 rfl (by decide) ?_
      exact aw_ret (ty := .boolean) dL_law_1022 rfl rfl rfl rfl rfl
    · have h5 : i + 5 ≤ zLen G := by
        have := mt (law_gt hL (show i ≤ 3000 by omega)).mpr hz
        omega
      match k, hk with
      | 0, hk => omega
      | k + 1, hk =>
        refine aw_aload_n (q := 27) dL_law_26 rfl rfl ?_
        refine aw_iload_n (q := 28) dL_law_27 rfl rfl ?_
        refine aw_sld (q := 29) (j := i) dL_law_28 rfl rfl (by omega) (by omega) ?_
        refine aw_bipush (q := 31) (v := 31) dL_law_29 rfl (by decide) ?_
        refine aw_iand (q := 32) dL_law_31 rfl ?_
        have K : ∀ s1 R1, zInv s1 R1 → AL G 1015 i [] s1 R1 := by
          intro s1 R1 hI1
          refine aw_iinc (q := 1018) (v := nI (i + 5)) dL_law_1015 rfl rfl (nI_add i 5) (by decide) rfl rfl ?_
          refine aw_goto (q := 18) dL_law_1018 (by decide) ?_
          exact law_loop hL k (i + 5) s1 R1 hI1 (by omega) (by omega)
        obtain ⟨m, hm, em⟩ := law_op (zxs G i)
        rw [em]
        match m, hm with
        | 0, _ => exact aw_tabIn (q := 172) (off := 140) dL_law_32 (by decide) (by decide) (by decide) (by decide) (law_0 hI h5 hL K)
        | 1, _ => exact aw_tabIn (q := 195) (off := 163) dL_law_32 (by decide) (by decide) (by decide) (by decide) (law_1 hI h5 hL K)
        | 2, _ => exact aw_tabIn (q := 238) (off := 206) dL_law_32 (by decide) (by decide) (by decide) (by decide) (law_2 hI h5 hL K)
        | 3, _ => exact aw_tabIn (q := 281) (off := 249) dL_law_32 (by decide) (by decide) (by decide) (by decide) (law_3 hI h5 hL K)
        | 4, _ => exact aw_tabIn (q := 314) (off := 282) dL_law_32 (by decide) (by decide) (by decide) (by decide) (law_4 hI h5 hL K)
        | 5, _ => exact aw_tabIn (q := 347) (off := 315) dL_law_32 (by decide) (by decide) (by decide) (by decide) (law_5 hI h5 hL K)
        | 6, _ => exact aw_tabIn (q := 380) (off := 348) dL_law_32 (by decide) (by decide) (by decide) (by decide) (law_6 hI h5 hL K)
        | 7, _ => exact aw_tabIn (q := 413) (off := 381) dL_law_32 (by decide) (by decide) (by decide) (by decide) (law_7 hI h5 hL K)
        | 8, _ => exact aw_tabIn (q := 446) (off := 414) dL_law_32 (by decide) (by decide) (by decide) (by decide) (law_8 hI h5 hL K)
        | 9, _ => exact aw_tabIn (q := 499) (off := 467) dL_law_32 (by decide) (by decide) (by decide) (by decide) (law_9 hI h5 hL K)
        | 10, _ => exact aw_tabIn (q := 522) (off := 490) dL_law_32 (by decide) (by decide) (by decide) (by decide) (law_10 hI h5 hL K)
        | 11, _ => exact aw_tabIn (q := 555) (off := 523) dL_law_32 (by decide) (by decide) (by decide) (by decide) (law_11 hI h5 hL K)
        | 12, _ => exact aw_tabIn (q := 578) (off := 546) dL_law_32 (by decide) (by decide) (by decide) (by decide) (law_12 hI h5 hL K)
        | 13, _ => exact aw_tabIn (q := 601) (off := 569) dL_law_32 (by decide) (by decide) (by decide) (by decide) (law_13 hI h5 hL K)
        | 14, _ => exact aw_tabIn (q := 634) (off := 602) dL_law_32 (by decide) (by decide) (by decide) (by decide) (law_14 hI h5 hL K)
        | 15, _ => exact aw_tabIn (q := 667) (off := 635) dL_law_32 (by decide) (by decide) (by decide) (by decide) (law_15 hI h5 hL K)
        | 16, _ => exact aw_tabIn (q := 710) (off := 678) dL_law_32 (by decide) (by decide) (by decide) (by decide) (law_16 hI h5 hL K)
        | 17, _ => exact aw_tabIn (q := 733) (off := 701) dL_law_32 (by decide) (by decide) (by decide) (by decide) (law_17 hI h5 hL K)
        | 18, _ => exact aw_tabIn (q := 756) (off := 724) dL_law_32 (by decide) (by decide) (by decide) (by decide) (law_18 hI h5 hL K)
        | 19, _ => exact aw_tabIn (q := 769) (off := 737) dL_law_32 (by decide) (by decide) (by decide) (by decide) (law_19 hI h5 hL K)
        | 20, _ => exact aw_tabIn (q := 792) (off := 760) dL_law_32 (by decide) (by decide) (by decide) (by decide) (law_20 hI h5 hL K)
        | 21, _ => exact aw_tabIn (q := 815) (off := 783) dL_law_32 (by decide) (by decide) (by decide) (by decide) (law_21 hI h5 hL K)
        | 22, _ => exact aw_tabIn (q := 838) (off := 806) dL_law_32 (by decide) (by decide) (by decide) (by decide) (law_22 hI h5 hL K)
        | 23, _ => exact aw_tabIn (q := 851) (off := 819) dL_law_32 (by decide) (by decide) (by decide) (by decide) (law_23 hI h5 hL K)
        | 24, _ => exact aw_tabIn (q := 874) (off := 842) dL_law_32 (by decide) (by decide) (by decide) (by decide) (law_24 hI h5 hL K)
        | 25, _ => exact aw_tabIn (q := 907) (off := 875) dL_law_32 (by decide) (by decide) (by decide) (by decide) (law_25 hI h5 hL K)
        | 26, _ => exact aw_tabIn (q := 930) (off := 898) dL_law_32 (by decide) (by decide) (by decide) (by decide) (law_26 hI h5 hL K)
        | 27, _ => exact aw_tabIn (q := 943) (off := 911) dL_law_32 (by decide) (by decide) (by decide) (by decide) (law_27 hI h5 hL K)
        | 28, _ => exact aw_tabIn (q := 966) (off := 934) dL_law_32 (by decide) (by decide) (by decide) (by decide) (law_28 hI h5 hL K)
        | 29, _ => exact aw_tabIn (q := 979) (off := 947) dL_law_32 (by decide) (by decide) (by decide) (by decide) (law_29 hI h5 hL K)
        | 30, _ => exact aw_tabIn (q := 1002) (off := 970) dL_law_32 (by decide) (by decide) (by decide) (by decide) (law_30 hI h5 hL K)
        | 31, _ => exact aw_tabOut (q := 1015) dL_law_32 (Or.inr (by decide)) (by decide) (K s R hI)
        | m + 32, h9 => omega
set_option maxRecDepth 100000 in
set_option maxHeartbeats 4000000 in
theorem law_all (h9 : zH) (hL : zLen G ≤ 2560) : AW G M_law 13 128 2487 0 0 zPL 0 [some (.ref 1000030), none, none, none] [] 0 0 h9 := by
  refine aw_new (q := 3) dL_law_0 rfl nw_L_7 (by decide) (by decide) (by decide) rfl ?_
  refine aw_dup (q := 4) dL_law_3 rfl rfl ?_
  refine aw_ci (q := 7) (d' := 3) (as := []) (b := 0) (st := [.ref 0]) dL_law_4 rfl W_X6_init k_L_9 i_X6_init rfl rfl rfl rfl (by decide) (Nat.le_of_ble_eq_true rfl) (k_X6_init (d := 3) (by decide)) (by decide) (by decide) ?_
  rintro r h8 ⟨rfl, rfl⟩
  refine aw_st (st' := [.ref 0]) rfl ?_
  refine aw_astore_n (q := 8) dL_law_7 rfl (by decide) rfl rfl ?_
  refine aw_new (q := 11) dL_law_8 rfl nw_L_10 (by decide) (by decide) (by decide) rfl ?_
  refine aw_dup (q := 12) dL_law_11 rfl rfl ?_
  refine aw_ci (q := 15) (d' := 1) (as := []) (b := 120) (st := [.ref 120]) dL_law_12 rfl W_X7_init k_L_12 i_X7_init rfl rfl rfl rfl (by decide) (Nat.le_of_ble_eq_true rfl) (k_X7_init (d := 1) (by decide)) (by decide) (by decide) ?_
  rintro r h8 ⟨rfl, rfl⟩
  refine aw_st (st' := [.ref 120]) rfl ?_
  refine aw_astore_n (q := 16) dL_law_15 rfl (by decide) rfl rfl ?_
  refine aw_iconst (q := 17) (v := 0) dL_law_16 rfl (by decide) ?_
  refine aw_istore_n (q := 18) dL_law_17 rfl (by decide) rfl rfl ?_
  refine aw_like (zw_like h9) ?_
  exact law_loop hL 600 0 zs0 zR0 zinv0 (by decide) (by omega)
end ZLAW
