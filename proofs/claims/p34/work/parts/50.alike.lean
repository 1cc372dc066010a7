/-! WHAT IS MEASURED DOESN'T HANG ON THE SUSPECTS: rows that differ at 7 and 8 alone measure alike. -/
def zEr (r r' : zrow) : Prop := ∀ k, k ≠ 7 → k ≠ 8 → r' k = r k
section ZALIKE
variable {r r' : zrow}
theorem g_cN (e : zEr r r') : cN r' = cN r := by unfold cN; rw [e 0 (by decide) (by decide)]
theorem g_cC (e : zEr r r') : cC r' = cC r := by unfold cC; rw [e 1 (by decide) (by decide)]
theorem g_cF (e : zEr r r') : cF r' = cF r := by unfold cF; rw [e 2 (by decide) (by decide)]
theorem g_dN (e : zEr r r') : dN r' = dN r := by unfold dN; rw [e 3 (by decide) (by decide)]
theorem g_9 (e : zEr r r') (n : Nat) : r' (9 + n) = r (9 + n) := e _ (by omega) (by omega)
theorem g_27 (e : zEr r r') (n : Nat) : r' (27 + n) = r (27 + n) := e _ (by omega) (by omega)
theorem g_72 (e : zEr r r') (n : Nat) : r' (72 + n) = r (72 + n) := e _ (by omega) (by omega)
theorem g_eN (e : zEr r r') (c : Nat) : eN r' c = eN r c := by unfold eN; rw [e (17 + c) (by omega) (by omega)]
theorem g_xN (e : zEr r r') (c : Nat) : xN r' c = xN r c := by unfold xN; rw [e (22 + c) (by omega) (by omega)]
theorem g_kN (e : zEr r r') (c : Nat) : kN r' c = kN r c := by unfold kN; rw [e (32 + c) (by omega) (by omega)]
theorem g_oN (e : zEr r r') (c : Nat) : oN r' c = oN r c := by unfold oN; rw [e (42 + c) (by omega) (by omega)]
theorem g_tN (e : zEr r r') (c : Nat) : tN r' c = tN r c := by unfold tN; rw [e (52 + c) (by omega) (by omega)]
theorem g_nOf (e : zEr r r') (p : Nat) : nOf r' p = nOf r p := by
  unfold nOf
  simp only [g_cN e, g_9 e]
theorem g_hF (e : zEr r r') (i kd o : Nat) : hF r' i kd o = hF r i kd o := by
  unfold hF
  simp only [g_cF e, g_kN e, g_oN e]
theorem g_prt (e : zEr r r') (i n : Nat) : prt r' i n = prt r i n := by
  unfold prt
  simp only [g_cF e, g_kN e, g_oN e, g_tN e]
theorem g_mL (e : zEr r r') (i p : Nat) : mL r' i p = mL r i p := by
  unfold mL
  rw [g_nOf e]
  simp only [g_hF e]
theorem g_foV (e : zEr r r') (i d : Nat) : foV r' i d = foV r i d := by
  unfold foV
  rw [g_nOf e]
  simp only [g_hF e, g_cF e, g_kN e, g_oN e, g_prt e, g_9 e]
theorem g_stV (e : zEr r r') (i : Nat) : stV r' i = stV r i := by
  unfold stV
  simp only [g_cF e, g_kN e, g_oN e, g_9 e]
theorem g_lkd (e : zEr r r') (i x y : Nat) : lkd r' i x y = lkd r i x y := by
  unfold lkd
  simp only [g_mL e]
theorem g_nr (e : zEr r r') (b : Bool) (c : Nat) : nr r' b c = nr r b c := by
  unfold nr
  rw [g_eN e, g_xN e]
theorem g_fr (e : zEr r r') (b : Bool) (c : Nat) : fr r' b c = fr r b c := by
  unfold fr
  rw [g_eN e, g_xN e]
theorem g_sts (e : zEr r r') (i : Nat) (t : Int32) (b : Bool) (S : Int32) (c : Nat) : sts r' i t b S c = sts r i t b S c := by
  unfold sts
  simp only [g_nr e, g_fr e, g_cC e, g_lkd e]
theorem g_go (e : zEr r r') (i : Nat) (t : Int32) (b : Bool) (S : Int32) (c : Nat) : go r' i t b S c = go r i t b S c := by
  unfold go
  rw [g_sts e, g_hF e]
theorem g_rdk (e : zEr r r') (i : Nat) (t : Int32) (b : Bool) : ∀ (c : Nat) (S : Int32), rdk r' i t b c S = rdk r i t b c S
  | 0, S => rfl
  | c + 1, S => by
    unfold rdk
    rw [g_rdk e i t b c S, g_go e]
theorem g_rnd (e : zEr r r') (i : Nat) (t : Int32) (b : Bool) : ∀ (m : Nat), rnd r' i t b m = rnd r i t b m
  | 0 => rfl
  | m + 1 => by
    unfold rnd
    rw [g_rnd e i t b m, g_cC e, g_rdk e]
theorem g_sc (e : zEr r r') (i : Nat) (t : Int32) : sc r' i t = sc r i t := by
  unfold sc sp
  rw [g_rnd e, g_rnd e]
theorem g_rck (e : zEr r r') (i : Nat) (t : Int32) : ∀ (c : Nat), rck r' i t c = rck r i t c
  | 0 => rfl
  | c + 1 => by
    unfold rck
    rw [g_rck e i t c, g_sc e, g_27 e]
theorem g_rc (e : zEr r r') (i : Nat) (t : Int32) : rc r' i t = rc r i t := by
  unfold rc
  rw [g_cC e, g_rck e]
theorem g_rdV (e : zEr r r') (i : Nat) (x : Int32) (d : Nat) (v : Bool) : rdV r' i x d v = rdV r i x d v := by
  unfold rdV
  rw [g_foV e, g_stV e]
theorem g_oc (e : zEr r r') (t : Int32) (i k : Nat) : oc r' t i k = oc r t i k := by
  unfold oc
  rw [g_rc e, g_rdV e]
theorem g_lk (e : zEr r r') (t : Int32) (i j : Nat) : lk r' t i j = lk r t i j := by
  unfold lk
  simp only [g_oc e]
theorem g_isB (e : zEr r r') (k : Nat) : isB r' k = isB r k := by
  unfold isB
  rw [g_cF e]
theorem g_lS (e : zEr r r') (t : Int32) (i : Nat) : lS r' t i = lS r t i := by
  unfold lS
  simp only [g_isB e, g_lk e]
theorem g_tO (e : zEr r r') (d : Nat) : tO r' d = tO r d := by
  unfold tO
  simp only [g_72 e]
theorem g_tN' (e : zEr r r') : tN' r' = tN' r := by
  unfold tN'
  rw [g_dN e, g_tO e, e 5 (by decide) (by decide)]
theorem g_aS (e : zEr r r') : aS r' = aS r := by
  unfold aS
  rw [g_cF e]
end ZALIKE
