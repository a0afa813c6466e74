/-! ===== the constructors ===== -/
def fs0 : List Value := [.null, .int (zI 0)]
theorem df0 : ∀ j, j < 2 → defaultValue (tyX0 j) = vp_V fs0 j := by
  intro j hj
  match j, hj with
  | 0, _ => rfl
  | 1, _ => rfl
  | k + 2, h => exact absurd h (by omega)
def fs1 : List Value := [.null, .null, .null]
theorem df1 : ∀ j, j < 3 → defaultValue (tyX1 j) = vp_V fs1 j := by
  intro j hj
  match j, hj with
  | 0, _ => rfl
  | 1, _ => rfl
  | 2, _ => rfl
  | k + 3, h => exact absurd h (by omega)
def fs2 : List Value := [.null, .int (zI 0)]
theorem df2 : ∀ j, j < 2 → defaultValue (tyX2 j) = vp_V fs2 j := by
  intro j hj
  match j, hj with
  | 0, _ => rfl
  | 1, _ => rfl
  | k + 2, h => exact absurd h (by omega)
def fs3 : List Value := [.null, .int (zI 0)]
theorem df3 : ∀ j, j < 2 → defaultValue (tyX3 j) = vp_V fs3 j := by
  intro j hj
  match j, hj with
  | 0, _ => rfl
  | 1, _ => rfl
  | k + 2, h => exact absurd h (by omega)
def fs4 : List Value := [.null, .null, .null, .null, .null, .int (zI 0), .int (zI 0), .int (zI 0), .int (zI 0), .int (zI 0)]
theorem df4 : ∀ j, j < 10 → defaultValue (tyX4 j) = vp_V fs4 j := by
  intro j hj
  match j, hj with
  | 0, _ => rfl
  | 1, _ => rfl
  | 2, _ => rfl
  | 3, _ => rfl
  | 4, _ => rfl
  | 5, _ => rfl
  | 6, _ => rfl
  | 7, _ => rfl
  | 8, _ => rfl
  | 9, _ => rfl
  | k + 10, h => exact absurd h (by omega)
def fs5 : List Value := [.null, .int (zI 0)]
theorem df5 : ∀ j, j < 2 → defaultValue (tyX5 j) = vp_V fs5 j := by
  intro j hj
  match j, hj with
  | 0, _ => rfl
  | 1, _ => rfl
  | k + 2, h => exact absurd h (by omega)
def fs6 : List Value := [.null, .null, .null, .null, .null, .null, .null, .null, .null, .int (zI 0)]
theorem df6 : ∀ j, j < 10 → defaultValue (tyX6 j) = vp_V fs6 j := by
  intro j hj
  match j, hj with
  | 0, _ => rfl
  | 1, _ => rfl
  | 2, _ => rfl
  | 3, _ => rfl
  | 4, _ => rfl
  | 5, _ => rfl
  | 6, _ => rfl
  | 7, _ => rfl
  | 8, _ => rfl
  | 9, _ => rfl
  | k + 10, h => exact absurd h (by omega)
def fs7 : List Value := [.null, .int (zI 0), .int (zI 0), .int (zI 0), .null, .null, .null, .null, .int (zI 0), .int (zI 0), .int (zI 0), .null, .null, .int (zI 0), .int (zI 0), .int (zI 0), .int (zI 0), .null, .null, .null, .null, .null, .int (zI 0), .int (zI 0), .int (zI 0), .null, .null, .null, .int (zI 0), .null, .int (zI 0), .null, .int (zI 0)]
theorem df7 : ∀ j, j < 33 → defaultValue (tyX7 j) = vp_V fs7 j := by
  intro j hj
  match j, hj with
  | 0, _ => rfl
  | 1, _ => rfl
  | 2, _ => rfl
  | 3, _ => rfl
  | 4, _ => rfl
  | 5, _ => rfl
  | 6, _ => rfl
  | 7, _ => rfl
  | 8, _ => rfl
  | 9, _ => rfl
  | 10, _ => rfl
  | 11, _ => rfl
  | 12, _ => rfl
  | 13, _ => rfl
  | 14, _ => rfl
  | 15, _ => rfl
  | 16, _ => rfl
  | 17, _ => rfl
  | 18, _ => rfl
  | 19, _ => rfl
  | 20, _ => rfl
  | 21, _ => rfl
  | 22, _ => rfl
  | 23, _ => rfl
  | 24, _ => rfl
  | 25, _ => rfl
  | 26, _ => rfl
  | 27, _ => rfl
  | 28, _ => rfl
  | 29, _ => rfl
  | 30, _ => rfl
  | 31, _ => rfl
  | 32, _ => rfl
  | k + 33, h => exact absurd h (by omega)
abbrev cA (cI : ClassId) (n : Nat) (f : Nat → Int32) : va_E := .inl (cI, n, .inl f)
abbrev cQ (cR : ClassId) (n : Nat) (f : Nat → Option Nat) : va_E := .inl (cR, n, .inr (.inr (.inr (.inr f))))
def zr : Nat → Int32 := fun _ => zI 0
def onesF (n : Nat) : Nat → Int32 := fun j => zI (if j < n then 1 else 0)
theorem ones_up (i : Nat) : upd (onesF i) i (zI 1) = onesF (i + 1) := by
  funext j
  simp only [upd, onesF]
  by_cases h : j = i
  · subst h
    rw [if_pos rfl, if_pos (by omega)]
  · by_cases h2 : j < i
    · rw [if_neg h, if_pos h2, if_pos (by omega)]
    · rw [if_neg h, if_neg h2, if_neg (by omega)]
theorem ones_0 : onesF 0 = zr := by
  funext j
  rfl
theorem tnc {i : Nat} (h : i < 100) : (zI (i : Int)).toNatClampNeg = i := by
  show (zI (i : Int)).toInt.toNat = i
  rw [zI_toInt (by omega) (by omega), Int.toNat_natCast]
theorem vp_inC {i n : Nat} (h : i < n) (hn : n ≤ 100) : vp_in (zI (i : Int)) n := by
  intro q
  rcases q with q | q
  · rw [Int32.lt_iff_toInt_lt, zI_toInt (by omega) (by omega)] at q
    have : (0 : Int32).toInt = 0 := rfl
    omega
  · rw [tnc (by omega)] at q
    omega
theorem le_zI {n : Int32} {z : Nat} {i : Nat} (hn : n.toInt = z) (hi : i < 100) : (n ≤ zI (i : Int)) = (z ≤ i) := by
  rw [Int32.le_iff_toInt_le, zI_toInt (by omega) (by omega), hn]
  simp
theorem jw_ws {cI cR : ClassId} {M : MD} {R : Room} {Sh : va_W → Prop} {pc : Nat} {lv : List (Nat × Value)} {st : List Value} {ws ws' : va_W} {cc ss : Nat} (h : ws = ws') (K : JW cI cR M R Sh pc lv st ws' cc ss) : JW cI cR M R Sh pc lv st ws cc ss := h ▸ K
theorem jw_n {cI cR : ClassId} {M : MD} {R : Room} {Sh : va_W → Prop} {pc : Nat} {lv : List (Nat × Value)} {st : List Value} {ws : va_W} {cc ss cc' ss' : Nat} (h1 : cc = cc') (h2 : ss = ss') (K : JW cI cR M R Sh pc lv st ws cc' ss') : JW cI cR M R Sh pc lv st ws cc ss := by
  subst h1
  subst h2
  exact K
def RW (cI : ClassId) (a : Nat → Nat) : va_W := [(a 0, .inr (4, [.ref (a 1), .ref (a 2), .ref (a 3), .ref (a 4), .ref (a 5), .int (zI 0), .int (zI 0), .int (zI 12), .int (zI 0), .int (zI 0)])), (a 1, cA cI 12 (onesF 12)), (a 2, cA cI 8 zr), (a 3, cA cI 8 zr), (a 4, cA cI 8 zr), (a 5, cA cI 8 zr)]
def Sh4 : SHP := fun h0 cI _ w => ∃ a : Nat → Nat, a 0 = h0 ∧ w = RW cI a
def PB (cI : ClassId) (b : Nat → Nat → Nat) : Nat → va_W
  | 0 => []
  | i + 1 => PB cI b i ++ RW cI (b i)
def Sh3 : SHP := fun h0 cI cR w => ∃ (a : Nat) (b : Nat → Nat → Nat), w = (h0, .inr (3, [.ref a, .int (zI 0)])) :: (a, cQ cR 8 (fun j => if j < 8 then some (b j 0) else none)) :: PB cI b 8
def Sh2 : SHP := fun h0 cI _ w => ∃ a : Nat, w = [(h0, .inr (2, [.ref a, .int (zI 0)])), (a, cA cI 96 zr)]
def Sh5 : SHP := fun h0 cI _ w => ∃ a : Nat, w = [(h0, .inr (5, [.ref a, .int (zI 0)])), (a, cA cI 12 zr)]
def Sh1 : SHP := fun h0 cI _ w => ∃ (r : Nat → Nat) (a b : Nat), w = (h0, .inr (1, [.ref (r 0), .ref a, .ref b])) :: ((RW cI r ++ [(a, cA cI 4 zr)]) ++ [(b, cA cI 4 zr)])
def Sh0 : SHP := fun h0 cI _ w => ∃ r : Nat → Nat, w = (h0, .inr (0, [.ref (r 0), .int (zI 0)])) :: RW cI r
theorem ctr_4 : Ctr M_Re_init 1 5 44 4 fs4 Sh4 := by
  refine ctr_of ok_Re_init rfl (Nat.le_of_ble_eq_true rfl) (fun cI cR h0 => ?_)
  refine jw_aload (i := 0) 0 (by decide +kernel) rfl ?_
  refine jw_obj (idx := 3) (inW0 (i := 25) rfl rfl) (inW0 (i := 18) rfl rfl) (inW0 (i := 19) rfl rfl) (by decide +kernel) (Nat.le_of_ble_eq_true rfl) (Nat.le_of_ble_eq_true rfl) ?_
  refine jw_aload (i := 0) 0 (by decide +kernel) rfl ?_
  refine jw_bip (n := 12) (v := zI 12) (by decide +kernel) rfl ?_
  refine jw_newa (N := 12) (inW0 (i := 66) rfl rfl) (by decide +kernel) (by decide +kernel) (Nat.le_of_ble_eq_true rfl) (by decide +kernel) (Nat.le_of_ble_eq_true rfl) (Nat.le_of_ble_eq_true rfl) (fun q1 => ?_)
  refine jw_putF (idx := 9) (q0 := 0) (sl := 0) (N := 10) (C := RX4) (T := TX4) (ty := tyX4 0) rfl rfl (Nat.le_of_ble_eq_true rfl) (inW0 (i := 26) rfl rfl) rfl rfl rfl (tyX4_ok 0 (Nat.le_of_ble_eq_true rfl)) rfl rfl (Nat.le_of_ble_eq_true rfl) (by decide +kernel) ?_
  refine jw_ws (ws' := (h0, .inr (4, [.ref q1, .null, .null, .null, .null, .int (zI 0), .int (zI 0), .int (zI 0), .int (zI 0), .int (zI 0)])) :: [(q1, cA cI 12 zr)]) rfl ?_
  refine jw_aload (i := 0) 0 (by decide +kernel) rfl ?_
  refine jw_bip (n := 8) (v := zI 8) (by decide +kernel) rfl ?_
  refine jw_newa (N := 8) (inW0 (i := 66) rfl rfl) (by decide +kernel) (by decide +kernel) (Nat.le_of_ble_eq_true rfl) (by decide +kernel) (Nat.le_of_ble_eq_true rfl) (Nat.le_of_ble_eq_true rfl) (fun q2 => ?_)
  refine jw_putF (idx := 15) (q0 := 0) (sl := 1) (N := 10) (C := RX4) (T := TX4) (ty := tyX4 1) rfl rfl (Nat.le_of_ble_eq_true rfl) (inW0 (i := 27) rfl rfl) rfl rfl rfl (tyX4_ok 1 (Nat.le_of_ble_eq_true rfl)) rfl rfl (Nat.le_of_ble_eq_true rfl) (by decide +kernel) ?_
  refine jw_ws (ws' := (h0, .inr (4, [.ref q1, .ref q2, .null, .null, .null, .int (zI 0), .int (zI 0), .int (zI 0), .int (zI 0), .int (zI 0)])) :: ([(q1, cA cI 12 zr)] ++ [(q2, cA cI 8 zr)])) rfl ?_
  refine jw_aload (i := 0) 0 (by decide +kernel) rfl ?_
  refine jw_bip (n := 8) (v := zI 8) (by decide +kernel) rfl ?_
  refine jw_newa (N := 8) (inW0 (i := 66) rfl rfl) (by decide +kernel) (by decide +kernel) (Nat.le_of_ble_eq_true rfl) (by decide +kernel) (Nat.le_of_ble_eq_true rfl) (Nat.le_of_ble_eq_true rfl) (fun q3 => ?_)
  refine jw_putF (idx := 18) (q0 := 0) (sl := 2) (N := 10) (C := RX4) (T := TX4) (ty := tyX4 2) rfl rfl (Nat.le_of_ble_eq_true rfl) (inW0 (i := 28) rfl rfl) rfl rfl rfl (tyX4_ok 2 (Nat.le_of_ble_eq_true rfl)) rfl rfl (Nat.le_of_ble_eq_true rfl) (by decide +kernel) ?_
  refine jw_ws (ws' := (h0, .inr (4, [.ref q1, .ref q2, .ref q3, .null, .null, .int (zI 0), .int (zI 0), .int (zI 0), .int (zI 0), .int (zI 0)])) :: (([(q1, cA cI 12 zr)] ++ [(q2, cA cI 8 zr)]) ++ [(q3, cA cI 8 zr)])) rfl ?_
  refine jw_aload (i := 0) 0 (by decide +kernel) rfl ?_
  refine jw_bip (n := 8) (v := zI 8) (by decide +kernel) rfl ?_
  refine jw_newa (N := 8) (inW0 (i := 66) rfl rfl) (by decide +kernel) (by decide +kernel) (Nat.le_of_ble_eq_true rfl) (by decide +kernel) (Nat.le_of_ble_eq_true rfl) (Nat.le_of_ble_eq_true rfl) (fun q4 => ?_)
  refine jw_putF (idx := 21) (q0 := 0) (sl := 3) (N := 10) (C := RX4) (T := TX4) (ty := tyX4 3) rfl rfl (Nat.le_of_ble_eq_true rfl) (inW0 (i := 29) rfl rfl) rfl rfl rfl (tyX4_ok 3 (Nat.le_of_ble_eq_true rfl)) rfl rfl (Nat.le_of_ble_eq_true rfl) (by decide +kernel) ?_
  refine jw_ws (ws' := (h0, .inr (4, [.ref q1, .ref q2, .ref q3, .ref q4, .null, .int (zI 0), .int (zI 0), .int (zI 0), .int (zI 0), .int (zI 0)])) :: ((([(q1, cA cI 12 zr)] ++ [(q2, cA cI 8 zr)]) ++ [(q3, cA cI 8 zr)]) ++ [(q4, cA cI 8 zr)])) rfl ?_
  refine jw_aload (i := 0) 0 (by decide +kernel) rfl ?_
  refine jw_bip (n := 8) (v := zI 8) (by decide +kernel) rfl ?_
  refine jw_newa (N := 8) (inW0 (i := 66) rfl rfl) (by decide +kernel) (by decide +kernel) (Nat.le_of_ble_eq_true rfl) (by decide +kernel) (Nat.le_of_ble_eq_true rfl) (Nat.le_of_ble_eq_true rfl) (fun q5 => ?_)
  refine jw_putF (idx := 24) (q0 := 0) (sl := 4) (N := 10) (C := RX4) (T := TX4) (ty := tyX4 4) rfl rfl (Nat.le_of_ble_eq_true rfl) (inW0 (i := 30) rfl rfl) rfl rfl rfl (tyX4_ok 4 (Nat.le_of_ble_eq_true rfl)) rfl rfl (Nat.le_of_ble_eq_true rfl) (by decide +kernel) ?_
  refine jw_ws (ws' := (h0, .inr (4, [.ref q1, .ref q2, .ref q3, .ref q4, .ref q5, .int (zI 0), .int (zI 0), .int (zI 0), .int (zI 0), .int (zI 0)])) :: (((([(q1, cA cI 12 zr)] ++ [(q2, cA cI 8 zr)]) ++ [(q3, cA cI 8 zr)]) ++ [(q4, cA cI 8 zr)]) ++ [(q5, cA cI 8 zr)])) rfl ?_
  refine jw_aload (i := 0) 0 (by decide +kernel) rfl ?_
  refine jw_icn (n := 0) (v := zI 0) (by decide +kernel) rfl ?_
  refine jw_put (idx := 27) (q0 := 0) (sl := 5) (N := 10) (C := RX4) (T := TX4) (ty := tyX4 5) rfl rfl (Nat.le_of_ble_eq_true rfl) (inW0 (i := 31) rfl rfl) rfl rfl (tyX4_ok 5 (Nat.le_of_ble_eq_true rfl)) rfl rfl (Nat.le_of_ble_eq_true rfl) (by decide +kernel) ?_
  refine jw_ws (ws' := (h0, .inr (4, [.ref q1, .ref q2, .ref q3, .ref q4, .ref q5, .int (zI 0), .int (zI 0), .int (zI 0), .int (zI 0), .int (zI 0)])) :: (((([(q1, cA cI 12 zr)] ++ [(q2, cA cI 8 zr)]) ++ [(q3, cA cI 8 zr)]) ++ [(q4, cA cI 8 zr)]) ++ [(q5, cA cI 8 zr)])) rfl ?_
  refine jw_aload (i := 0) 0 (by decide +kernel) rfl ?_
  refine jw_icn (n := 0) (v := zI 0) (by decide +kernel) rfl ?_
  refine jw_put (idx := 31) (q0 := 0) (sl := 6) (N := 10) (C := RX4) (T := TX4) (ty := tyX4 6) rfl rfl (Nat.le_of_ble_eq_true rfl) (inW0 (i := 33) rfl rfl) rfl rfl (tyX4_ok 6 (Nat.le_of_ble_eq_true rfl)) rfl rfl (Nat.le_of_ble_eq_true rfl) (by decide +kernel) ?_
  refine jw_ws (ws' := (h0, .inr (4, [.ref q1, .ref q2, .ref q3, .ref q4, .ref q5, .int (zI 0), .int (zI 0), .int (zI 0), .int (zI 0), .int (zI 0)])) :: (((([(q1, cA cI 12 zr)] ++ [(q2, cA cI 8 zr)]) ++ [(q3, cA cI 8 zr)]) ++ [(q4, cA cI 8 zr)]) ++ [(q5, cA cI 8 zr)])) rfl ?_
  refine jw_aload (i := 0) 0 (by decide +kernel) rfl ?_
  refine jw_bip (n := 12) (v := zI 12) (by decide +kernel) rfl ?_
  refine jw_put (idx := 34) (q0 := 0) (sl := 7) (N := 10) (C := RX4) (T := TX4) (ty := tyX4 7) rfl rfl (Nat.le_of_ble_eq_true rfl) (inW0 (i := 37) rfl rfl) rfl rfl (tyX4_ok 7 (Nat.le_of_ble_eq_true rfl)) rfl rfl (Nat.le_of_ble_eq_true rfl) (by decide +kernel) ?_
  refine jw_ws (ws' := (h0, .inr (4, [.ref q1, .ref q2, .ref q3, .ref q4, .ref q5, .int (zI 0), .int (zI 0), .int (zI 12), .int (zI 0), .int (zI 0)])) :: (((([(q1, cA cI 12 zr)] ++ [(q2, cA cI 8 zr)]) ++ [(q3, cA cI 8 zr)]) ++ [(q4, cA cI 8 zr)]) ++ [(q5, cA cI 8 zr)])) rfl ?_
  refine jw_aload (i := 0) 0 (by decide +kernel) rfl ?_
  refine jw_icn (n := 0) (v := zI 0) (by decide +kernel) rfl ?_
  refine jw_put (idx := 37) (q0 := 0) (sl := 8) (N := 10) (C := RX4) (T := TX4) (ty := tyX4 8) rfl rfl (Nat.le_of_ble_eq_true rfl) (inW0 (i := 40) rfl rfl) rfl rfl (tyX4_ok 8 (Nat.le_of_ble_eq_true rfl)) rfl rfl (Nat.le_of_ble_eq_true rfl) (by decide +kernel) ?_
  refine jw_ws (ws' := (h0, .inr (4, [.ref q1, .ref q2, .ref q3, .ref q4, .ref q5, .int (zI 0), .int (zI 0), .int (zI 12), .int (zI 0), .int (zI 0)])) :: (((([(q1, cA cI 12 zr)] ++ [(q2, cA cI 8 zr)]) ++ [(q3, cA cI 8 zr)]) ++ [(q4, cA cI 8 zr)]) ++ [(q5, cA cI 8 zr)])) rfl ?_
  refine jw_aload (i := 0) 0 (by decide +kernel) rfl ?_
  refine jw_icn (n := 0) (v := zI 0) (by decide +kernel) rfl ?_
  refine jw_put (idx := 40) (q0 := 0) (sl := 9) (N := 10) (C := RX4) (T := TX4) (ty := tyX4 9) rfl rfl (Nat.le_of_ble_eq_true rfl) (inW0 (i := 43) rfl rfl) rfl rfl (tyX4_ok 9 (Nat.le_of_ble_eq_true rfl)) rfl rfl (Nat.le_of_ble_eq_true rfl) (by decide +kernel) ?_
  refine jw_ws (ws' := (h0, .inr (4, [.ref q1, .ref q2, .ref q3, .ref q4, .ref q5, .int (zI 0), .int (zI 0), .int (zI 12), .int (zI 0), .int (zI 0)])) :: (((([(q1, cA cI 12 zr)] ++ [(q2, cA cI 8 zr)]) ++ [(q3, cA cI 8 zr)]) ++ [(q4, cA cI 8 zr)]) ++ [(q5, cA cI 8 zr)])) rfl ?_
  refine jw_icn (n := 0) (v := zI 0) (by decide +kernel) rfl ?_
  refine jw_istore (i := 1) (lv' := [(1, .int (zI 0)), (0, .ref h0)]) (by decide +kernel) (Nat.le_of_ble_eq_true rfl) rfl ?_
  have loop : ∀ n i : Nat, i + n = 12 → JW cI cR M_Re_init (rmC 1 5 44) (Sh4 h0 cI cR) 72 [(1, .int (zI (i : Int))), (0, .ref h0)] [] ((h0, .inr (4, [.ref q1, .ref q2, .ref q3, .ref q4, .ref q5, .int (zI 0), .int (zI 0), .int (zI 12), .int (zI 0), .int (zI 0)])) :: (((([(q1, cA cI 12 (onesF i))] ++ [(q2, cA cI 8 zr)]) ++ [(q3, cA cI 8 zr)]) ++ [(q4, cA cI 8 zr)]) ++ [(q5, cA cI 8 zr)])) 5 44 := by
    intro n
    induction n with
    | zero =>
      intro i hi
      have e : i = 12 := by omega
      subst e
      refine jw_iload (i := 1) 0 (by decide +kernel) rfl ?_
      refine jw_bip (n := 12) (v := 12) (by decide +kernel) rfl ?_
      refine jw_ge (off := 16) (tgt := 91) (by decide +kernel) rfl (fun _ => ?_) (fun q => absurd ((le_zI (z := 12) rfl (by omega)).mpr (Nat.le_refl 12)) q)
      exact jw_ret rfl (⟨(fun k => match k with | 0 => h0 | 1 => q1 | 2 => q2 | 3 => q3 | 4 => q4 | _ => q5), rfl, rfl⟩) (Nat.le_of_ble_eq_true rfl) (Nat.le_of_ble_eq_true rfl) (by decide +kernel)
    | succ n ih =>
      intro i hi
      have step := ih (i + 1) (by omega)
      rw [← ones_up] at step
      refine jw_iload (i := 1) 0 (by decide +kernel) rfl ?_
      refine jw_bip (n := 12) (v := 12) (by decide +kernel) rfl ?_
      refine jw_ge (off := 16) (tgt := 91) (by decide +kernel) rfl (fun q => absurd ((le_zI (z := 12) rfl (by omega)).mp q) (by omega)) (fun _ => ?_)
      refine jw_aload (i := 0) 1 (by decide +kernel) rfl ?_
      refine jw_get (idx := 9) (q0 := 0) (sl := 0) (N := 10) (C := RX4) (T := TX4) rfl rfl (Nat.le_of_ble_eq_true rfl) (inW0 (i := 26) rfl rfl) rfl rfl (by decide +kernel) ?_
      refine jw_iload (i := 1) 0 (by decide +kernel) rfl ?_
      refine jw_icn (n := 1) (v := zI 1) (by decide +kernel) rfl ?_
      refine jw_iast (q0 := 1) (n := 12) (f := onesF i) rfl (vp_inC (by omega) (by omega)) (by decide +kernel) ?_
      rw [tnc (by omega)]
      refine jw_iinc (i := 1) (n := 1) (k := 0) (v := zI ((i + 1 : Nat) : Int)) (lv' := [(1, .int (zI ((i + 1 : Nat) : Int))), (0, .ref h0)]) (by decide +kernel) rfl (zI_add _ _) (Nat.le_of_ble_eq_true rfl) rfl ?_
      refine jw_goto (off := -16) (tgt := 72) (by decide +kernel) rfl ?_
      exact step
  have l0 := loop 12 0 rfl
  rw [ones_0] at l0
  exact l0
theorem ctr_2 : Ctr M_Le_init 1 1 96 2 fs2 Sh2 := by
  refine ctr_of ok_Le_init rfl (Nat.le_of_ble_eq_true rfl) (fun cI cR h0 => ?_)
  refine jw_aload (i := 0) 0 (by decide +kernel) rfl ?_
  refine jw_obj (idx := 3) (inW0 (i := 89) rfl rfl) (inW0 (i := 18) rfl rfl) (inW0 (i := 19) rfl rfl) (by decide +kernel) (Nat.le_of_ble_eq_true rfl) (Nat.le_of_ble_eq_true rfl) ?_
  refine jw_aload (i := 0) 0 (by decide +kernel) rfl ?_
  refine jw_bip (n := 96) (v := zI 96) (by decide +kernel) rfl ?_
  refine jw_newa (N := 96) (inW0 (i := 66) rfl rfl) (by decide +kernel) (by decide +kernel) (Nat.le_of_ble_eq_true rfl) (by decide +kernel) (Nat.le_of_ble_eq_true rfl) (Nat.le_of_ble_eq_true rfl) (fun q1 => ?_)
  refine jw_putF (idx := 9) (q0 := 0) (sl := 0) (N := 2) (C := RX2) (T := TX2) (ty := tyX2 0) rfl rfl (Nat.le_of_ble_eq_true rfl) (inW0 (i := 90) rfl rfl) rfl rfl rfl (tyX2_ok 0 (Nat.le_of_ble_eq_true rfl)) rfl rfl (Nat.le_of_ble_eq_true rfl) (by decide +kernel) ?_
  refine jw_ws (ws' := (h0, .inr (2, [.ref q1, .int (zI 0)])) :: [(q1, cA cI 96 zr)]) rfl ?_
  refine jw_aload (i := 0) 0 (by decide +kernel) rfl ?_
  refine jw_icn (n := 0) (v := zI 0) (by decide +kernel) rfl ?_
  refine jw_put (idx := 15) (q0 := 0) (sl := 1) (N := 2) (C := RX2) (T := TX2) (ty := tyX2 1) rfl rfl (Nat.le_of_ble_eq_true rfl) (inW0 (i := 91) rfl rfl) rfl rfl (tyX2_ok 1 (Nat.le_of_ble_eq_true rfl)) rfl rfl (Nat.le_of_ble_eq_true rfl) (by decide +kernel) ?_
  refine jw_ws (ws' := (h0, .inr (2, [.ref q1, .int (zI 0)])) :: [(q1, cA cI 96 zr)]) rfl ?_
  refine jw_ret rfl ?_ (Nat.le_of_ble_eq_true rfl) (Nat.le_of_ble_eq_true rfl) (by decide +kernel)
  exact ⟨q1, rfl⟩
theorem ctr_5 : Ctr M_Ro_init 1 1 12 5 fs5 Sh5 := by
  refine ctr_of ok_Ro_init rfl (Nat.le_of_ble_eq_true rfl) (fun cI cR h0 => ?_)
  refine jw_aload (i := 0) 0 (by decide +kernel) rfl ?_
  refine jw_obj (idx := 3) (inW0 (i := 103) rfl rfl) (inW0 (i := 18) rfl rfl) (inW0 (i := 19) rfl rfl) (by decide +kernel) (Nat.le_of_ble_eq_true rfl) (Nat.le_of_ble_eq_true rfl) ?_
  refine jw_aload (i := 0) 0 (by decide +kernel) rfl ?_
  refine jw_bip (n := 12) (v := zI 12) (by decide +kernel) rfl ?_
  refine jw_newa (N := 12) (inW0 (i := 66) rfl rfl) (by decide +kernel) (by decide +kernel) (Nat.le_of_ble_eq_true rfl) (by decide +kernel) (Nat.le_of_ble_eq_true rfl) (Nat.le_of_ble_eq_true rfl) (fun q1 => ?_)
  refine jw_putF (idx := 9) (q0 := 0) (sl := 0) (N := 2) (C := RX5) (T := TX5) (ty := tyX5 0) rfl rfl (Nat.le_of_ble_eq_true rfl) (inW0 (i := 104) rfl rfl) rfl rfl rfl (tyX5_ok 0 (Nat.le_of_ble_eq_true rfl)) rfl rfl (Nat.le_of_ble_eq_true rfl) (by decide +kernel) ?_
  refine jw_ws (ws' := (h0, .inr (5, [.ref q1, .int (zI 0)])) :: [(q1, cA cI 12 zr)]) rfl ?_
  refine jw_aload (i := 0) 0 (by decide +kernel) rfl ?_
  refine jw_icn (n := 0) (v := zI 0) (by decide +kernel) rfl ?_
  refine jw_put (idx := 15) (q0 := 0) (sl := 1) (N := 2) (C := RX5) (T := TX5) (ty := tyX5 1) rfl rfl (Nat.le_of_ble_eq_true rfl) (inW0 (i := 105) rfl rfl) rfl rfl (tyX5_ok 1 (Nat.le_of_ble_eq_true rfl)) rfl rfl (Nat.le_of_ble_eq_true rfl) (by decide +kernel) ?_
  refine jw_ws (ws' := (h0, .inr (5, [.ref q1, .int (zI 0)])) :: [(q1, cA cI 12 zr)]) rfl ?_
  refine jw_ret rfl ?_ (Nat.le_of_ble_eq_true rfl) (Nat.le_of_ble_eq_true rfl) (by decide +kernel)
  exact ⟨q1, rfl⟩
theorem ctr_1 : Ctr M_Co_init 2 8 62 1 fs1 Sh1 := by
  refine ctr_of ok_Co_init rfl (Nat.le_of_ble_eq_true rfl) (fun cI cR h0 => ?_)
  refine jw_aload (i := 0) 0 (by decide +kernel) rfl ?_
  refine jw_obj (idx := 3) (inW0 (i := 118) rfl rfl) (inW0 (i := 18) rfl rfl) (inW0 (i := 19) rfl rfl) (by decide +kernel) (Nat.le_of_ble_eq_true rfl) (Nat.le_of_ble_eq_true rfl) ?_
  refine jw_aload (i := 0) 0 (by decide +kernel) rfl ?_
  refine jw_new (idx := 9) (fs := fs4) (C := RX4) (T := TX4) (N := 10) (ci := 4) rfl (inW0 (i := 119) rfl rfl) (inW0 (i := 21) rfl rfl) (inW0 (i := 2) rfl rfl) tyX4 tyX4_ok df4 (by decide +kernel) (Nat.le_of_ble_eq_true rfl) (Nat.le_of_ble_eq_true rfl) (fun q1 => ?_)
  refine jw_dup (by decide +kernel) ?_
  refine jw_ctor (idx := 11) ctr_4 ok_Re_init rfl rfl rfl (Or.inl (inW0 (i := 120) rfl rfl)) (inW0 (i := 23) rfl rfl) (Nat.le_of_ble_eq_true rfl) (Nat.le_of_ble_eq_true rfl) (Nat.le_of_ble_eq_true rfl) (by decide +kernel) (Nat.le_of_ble_eq_true rfl) (Nat.le_of_ble_eq_true rfl) (fun w1 hw1 => ?_)
  obtain ⟨r1, rfl, rfl⟩ := hw1
  refine jw_putF (idx := 12) (q0 := 0) (sl := 0) (N := 3) (C := RX1) (T := TX1) (ty := tyX1 0) rfl rfl (Nat.le_of_ble_eq_true rfl) (inW0 (i := 121) rfl rfl) rfl rfl rfl (tyX1_ok 0 (Nat.le_of_ble_eq_true rfl)) rfl rfl (Nat.le_of_ble_eq_true rfl) (by decide +kernel) ?_
  refine jw_ws (ws' := (h0, .inr (1, [.ref (r1 0), .null, .null])) :: RW cI r1) rfl ?_
  refine jw_aload (i := 0) 0 (by decide +kernel) rfl ?_
  refine jw_icn (n := 4) (v := zI 4) (by decide +kernel) rfl ?_
  refine jw_newa (N := 4) (inW0 (i := 66) rfl rfl) (by decide +kernel) (by decide +kernel) (Nat.le_of_ble_eq_true rfl) (by decide +kernel) (Nat.le_of_ble_eq_true rfl) (Nat.le_of_ble_eq_true rfl) (fun q2 => ?_)
  refine jw_putF (idx := 18) (q0 := 0) (sl := 1) (N := 3) (C := RX1) (T := TX1) (ty := tyX1 1) rfl rfl (Nat.le_of_ble_eq_true rfl) (inW0 (i := 122) rfl rfl) rfl rfl rfl (tyX1_ok 1 (Nat.le_of_ble_eq_true rfl)) rfl rfl (Nat.le_of_ble_eq_true rfl) (by decide +kernel) ?_
  refine jw_ws (ws' := (h0, .inr (1, [.ref (r1 0), .ref q2, .null])) :: (RW cI r1 ++ [(q2, cA cI 4 zr)])) rfl ?_
  refine jw_aload (i := 0) 0 (by decide +kernel) rfl ?_
  refine jw_icn (n := 4) (v := zI 4) (by decide +kernel) rfl ?_
  refine jw_newa (N := 4) (inW0 (i := 66) rfl rfl) (by decide +kernel) (by decide +kernel) (Nat.le_of_ble_eq_true rfl) (by decide +kernel) (Nat.le_of_ble_eq_true rfl) (Nat.le_of_ble_eq_true rfl) (fun q3 => ?_)
  refine jw_putF (idx := 22) (q0 := 0) (sl := 2) (N := 3) (C := RX1) (T := TX1) (ty := tyX1 2) rfl rfl (Nat.le_of_ble_eq_true rfl) (inW0 (i := 123) rfl rfl) rfl rfl rfl (tyX1_ok 2 (Nat.le_of_ble_eq_true rfl)) rfl rfl (Nat.le_of_ble_eq_true rfl) (by decide +kernel) ?_
  refine jw_ws (ws' := (h0, .inr (1, [.ref (r1 0), .ref q2, .ref q3])) :: ((RW cI r1 ++ [(q2, cA cI 4 zr)]) ++ [(q3, cA cI 4 zr)])) rfl ?_
  refine jw_ret rfl ?_ (Nat.le_of_ble_eq_true rfl) (Nat.le_of_ble_eq_true rfl) (by decide +kernel)
  exact ⟨r1, q2, q3, rfl⟩
theorem ctr_0 : Ctr M_Ch_init 2 6 54 0 fs0 Sh0 := by
  refine ctr_of ok_Ch_init rfl (Nat.le_of_ble_eq_true rfl) (fun cI cR h0 => ?_)
  refine jw_aload (i := 0) 0 (by decide +kernel) rfl ?_
  refine jw_obj (idx := 3) (inW0 (i := 136) rfl rfl) (inW0 (i := 18) rfl rfl) (inW0 (i := 19) rfl rfl) (by decide +kernel) (Nat.le_of_ble_eq_true rfl) (Nat.le_of_ble_eq_true rfl) ?_
  refine jw_aload (i := 0) 0 (by decide +kernel) rfl ?_
  refine jw_new (idx := 9) (fs := fs4) (C := RX4) (T := TX4) (N := 10) (ci := 4) rfl (inW0 (i := 137) rfl rfl) (inW0 (i := 21) rfl rfl) (inW0 (i := 2) rfl rfl) tyX4 tyX4_ok df4 (by decide +kernel) (Nat.le_of_ble_eq_true rfl) (Nat.le_of_ble_eq_true rfl) (fun q1 => ?_)
  refine jw_dup (by decide +kernel) ?_
  refine jw_ctor (idx := 11) ctr_4 ok_Re_init rfl rfl rfl (Or.inl (inW0 (i := 138) rfl rfl)) (inW0 (i := 23) rfl rfl) (Nat.le_of_ble_eq_true rfl) (Nat.le_of_ble_eq_true rfl) (Nat.le_of_ble_eq_true rfl) (by decide +kernel) (Nat.le_of_ble_eq_true rfl) (Nat.le_of_ble_eq_true rfl) (fun w1 hw1 => ?_)
  obtain ⟨r1, rfl, rfl⟩ := hw1
  refine jw_putF (idx := 12) (q0 := 0) (sl := 0) (N := 2) (C := RX0) (T := TX0) (ty := tyX0 0) rfl rfl (Nat.le_of_ble_eq_true rfl) (inW0 (i := 139) rfl rfl) rfl rfl rfl (tyX0_ok 0 (Nat.le_of_ble_eq_true rfl)) rfl rfl (Nat.le_of_ble_eq_true rfl) (by decide +kernel) ?_
  refine jw_ws (ws' := (h0, .inr (0, [.ref (r1 0), .int (zI 0)])) :: RW cI r1) rfl ?_
  refine jw_aload (i := 0) 0 (by decide +kernel) rfl ?_
  refine jw_icn (n := 0) (v := zI 0) (by decide +kernel) rfl ?_
  refine jw_put (idx := 18) (q0 := 0) (sl := 1) (N := 2) (C := RX0) (T := TX0) (ty := tyX0 1) rfl rfl (Nat.le_of_ble_eq_true rfl) (inW0 (i := 140) rfl rfl) rfl rfl (tyX0_ok 1 (Nat.le_of_ble_eq_true rfl)) rfl rfl (Nat.le_of_ble_eq_true rfl) (by decide +kernel) ?_
  refine jw_ws (ws' := (h0, .inr (0, [.ref (r1 0), .int (zI 0)])) :: RW cI r1) rfl ?_
  refine jw_ret rfl ?_ (Nat.le_of_ble_eq_true rfl) (Nat.le_of_ble_eq_true rfl) (by decide +kernel)
  exact ⟨r1, rfl⟩
theorem PB_eq {cI : ClassId} {b b' : Nat → Nat → Nat} {i : Nat} (h : ∀ j, j < i → b j = b' j) : PB cI b i = PB cI b' i := by
  induction i with
  | zero => rfl
  | succ i ih => simp only [PB]; rw [ih (fun j hj => h j (by omega)), h i (by omega)]
theorem PB_len (cI : ClassId) (b : Nat → Nat → Nat) (i : Nat) : (PB cI b i).length = 6 * i := by
  induction i with
  | zero => rfl
  | succ i ih =>
    simp only [PB, List.length_append, ih]
    show 6 * i + 6 = _
    omega
theorem ctr_3 : Ctr M_Pa_init 2 49 440 3 fs3 Sh3 := by
  refine ctr_of ok_Pa_init rfl (Nat.le_of_ble_eq_true rfl) (fun cI cR h0 => ?_)
  refine jw_aload (i := 0) 0 (by decide +kernel) rfl ?_
  refine jw_obj (idx := 3) (inW0 (i := 72) rfl rfl) (inW0 (i := 18) rfl rfl) (inW0 (i := 19) rfl rfl) (by decide +kernel) (Nat.le_of_ble_eq_true rfl) (Nat.le_of_ble_eq_true rfl) ?_
  refine jw_aload (i := 0) 0 (by decide +kernel) rfl ?_
  refine jw_bip (n := 8) (v := zI 8) (by decide +kernel) rfl ?_
  refine jw_newq (idx := 9) (N := 8) (inW0 (i := 73) rfl rfl) (by decide +kernel) (by decide +kernel) (Nat.le_of_ble_eq_true rfl) (by decide +kernel) (Nat.le_of_ble_eq_true rfl) (Nat.le_of_ble_eq_true rfl) (fun q1 => ?_)
  refine jw_putF (idx := 11) (q0 := 0) (sl := 0) (N := 2) (C := RX3) (T := TX3) (ty := tyX3 0) rfl rfl (Nat.le_of_ble_eq_true rfl) (inW0 (i := 76) rfl rfl) rfl rfl rfl (tyX3_ok 0 (Nat.le_of_ble_eq_true rfl)) rfl rfl (Nat.le_of_ble_eq_true rfl) (by decide +kernel) ?_
  refine jw_ws (ws' := (h0, .inr (3, [.ref q1, .int (zI 0)])) :: [(q1, cQ cR 8 (fun _ => none))]) rfl ?_
  refine jw_aload (i := 0) 0 (by decide +kernel) rfl ?_
  refine jw_icn (n := 0) (v := zI 0) (by decide +kernel) rfl ?_
  refine jw_put (idx := 17) (q0 := 0) (sl := 1) (N := 2) (C := RX3) (T := TX3) (ty := tyX3 1) rfl rfl (Nat.le_of_ble_eq_true rfl) (inW0 (i := 77) rfl rfl) rfl rfl (tyX3_ok 1 (Nat.le_of_ble_eq_true rfl)) rfl rfl (Nat.le_of_ble_eq_true rfl) (by decide +kernel) ?_
  refine jw_ws (ws' := (h0, .inr (3, [.ref q1, .int (zI 0)])) :: [(q1, cQ cR 8 (fun _ => none))]) rfl ?_
  refine jw_icn (n := 0) (v := zI 0) (by decide +kernel) rfl ?_
  refine jw_istore (i := 1) (lv' := [(1, .int (zI 0)), (0, .ref h0)]) (by decide +kernel) (Nat.le_of_ble_eq_true rfl) rfl ?_
  have loop : ∀ n i : Nat, i + n = 8 → ∀ b : Nat → Nat → Nat, JW cI cR M_Pa_init (rmC 2 49 440) (Sh3 h0 cI cR) 20 [(1, .int (zI (i : Int))), (0, .ref h0)] [] ((h0, .inr (3, [.ref q1, .int (zI 0)])) :: (q1, cQ cR 8 (fun j => if j < i then some (b j 0) else none)) :: PB cI b i) (1 + 6 * i) (8 + 54 * i) := by
    intro n
    induction n with
    | zero =>
      intro i hi b
      have e : i = 8 := by omega
      subst e
      refine jw_iload (i := 1) 0 (by decide +kernel) rfl ?_
      refine jw_bip (n := 8) (v := 8) (by decide +kernel) rfl ?_
      refine jw_ge (off := 22) (tgt := 45) (by decide +kernel) rfl (fun _ => ?_) (fun q => absurd ((le_zI (z := 8) rfl (by omega)).mpr (Nat.le_refl 8)) q)
      exact jw_ret rfl ⟨q1, b, rfl⟩ (Nat.le_of_ble_eq_true rfl) (Nat.le_of_ble_eq_true rfl) (by decide +kernel)
    | succ n ih =>
      intro i hi b
      refine jw_iload (i := 1) 0 (by decide +kernel) rfl ?_
      refine jw_bip (n := 8) (v := 8) (by decide +kernel) rfl ?_
      refine jw_ge (off := 22) (tgt := 45) (by decide +kernel) rfl (fun q => absurd ((le_zI (z := 8) rfl (by omega)).mp q) (by omega)) (fun _ => ?_)
      refine jw_aload (i := 0) 1 (by decide +kernel) rfl ?_
      refine jw_get (idx := 11) (q0 := 0) (sl := 0) (N := 2) (C := RX3) (T := TX3) rfl rfl (Nat.le_of_ble_eq_true rfl) (inW0 (i := 76) rfl rfl) rfl rfl (by decide +kernel) ?_
      refine jw_iload (i := 1) 0 (by decide +kernel) rfl ?_
      refine jw_new (idx := 9) (fs := fs4) (C := RX4) (T := TX4) (N := 10) (ci := 4) rfl (inW0 (i := 73) rfl rfl) (inW0 (i := 21) rfl rfl) (inW0 (i := 2) rfl rfl) tyX4 tyX4_ok df4 (by decide +kernel) (show 1 + 6 * i + 1 ≤ 49 by omega) (show 8 + 54 * i + 10 ≤ 440 by omega) (fun q => ?_)
      refine jw_dup (by decide +kernel) ?_
      refine jw_ctor (idx := 21) ctr_4 ok_Re_init rfl rfl rfl (Or.inl (inW0 (i := 75) rfl rfl)) (inW0 (i := 23) rfl rfl) (Nat.le_of_ble_eq_true rfl) (Nat.le_of_ble_eq_true rfl) (Nat.le_of_ble_eq_true rfl) (by decide +kernel) (show 1 + 6 * i + 1 + 5 ≤ 49 by omega) (show 8 + 54 * i + 10 + 44 ≤ 440 by omega) (fun w hw => ?_)
      obtain ⟨r, rfl, rfl⟩ := hw
      have step := ih (i + 1) (by omega) (fun j => if j = i then r else b j)
      have e1 : PB cI (fun j => if j = i then r else b j) (i + 1) = PB cI b i ++ RW cI r := by
        simp only [PB]
        rw [PB_eq (b' := b) (fun j hj => if_neg (by omega))]
        first | rw [if_pos rfl] | rw [if_pos trivial]
      have e2 : (fun j => if j < i + 1 then some ((if j = i then r else b j) 0) else none) = va_up (fun j => if j < i then some (b j 0) else none) i (some (r 0)) := by
        funext j
        simp only [va_up]
        by_cases h : j = i
        · subst h
          rw [if_pos (by omega), if_pos rfl, if_pos rfl]
        · by_cases h2 : j < i
          · rw [if_pos (by omega), if_neg h, if_neg h, if_pos h2]
          · rw [if_neg (by omega), if_neg h, if_neg h2]
      rw [e1, e2] at step
      have hq : (((h0, (.inr (3, [.ref q1, .int (zI 0)]) : va_E)) :: (q1, cQ cR 8 (fun j => if j < i then some (b j 0) else none)) :: PB cI b i) ++ RW cI r)[2 + 6 * i]? = some (r 0, .inr (4, [.ref (r 1), .ref (r 2), .ref (r 3), .ref (r 4), .ref (r 5), .int (zI 0), .int (zI 0), .int (zI 12), .int (zI 0), .int (zI 0)])) := by
        rw [List.getElem?_append_right (by simp only [List.length_cons, PB_len]; omega)]
        simp only [List.length_cons, PB_len]
        rw [show 2 + 6 * i - (6 * i + 1 + 1) = 0 by omega]
        rfl
      refine jw_aast (q0 := 1) (qk := 2 + 6 * i) (n := 8) (f := fun j => if j < i then some (b j 0) else none) rfl hq (vp_inC (by omega) (by omega)) (by decide +kernel) ?_
      rw [tnc (by omega)]
      refine jw_iinc (i := 1) (n := 1) (k := 0) (v := zI ((i + 1 : Nat) : Int)) (lv' := [(1, .int (zI ((i + 1 : Nat) : Int))), (0, .ref h0)]) (by decide +kernel) rfl (zI_add _ _) (Nat.le_of_ble_eq_true rfl) rfl ?_
      refine jw_goto (off := -22) (tgt := 20) (by decide +kernel) rfl ?_
      refine jw_n (cc' := 1 + 6 * (i + 1)) (ss' := 8 + 54 * (i + 1)) (by omega) (by omega) ?_
      exact step
  exact loop 8 0 rfl (fun _ _ => 0)
def Sh6 : SHP := fun h0 cI cR w => ∃ (r1 r2 r3 : Nat → Nat) (q4 q5 q6 q7 q8 q9 : Nat) (w4 w5 w6 w7 w8 : va_W), Sh3 q4 cI cR w4 ∧ Sh2 q5 cI cR w5 ∧ Sh5 q6 cI cR w6 ∧ Sh1 q7 cI cR w7 ∧ Sh0 q8 cI cR w8 ∧ w = (h0, .inr (6, [.ref (r1 0), .ref (r2 0), .ref (r3 0), .ref q4, .ref q5, .ref q6, .ref q7, .ref q8, .ref q9, .int (zI 0)])) :: ((((((((RW cI r1 ++ RW cI r2) ++ RW cI r3) ++ w4) ++ w5) ++ w6) ++ w7) ++ w8) ++ [(q9, cA cI 7 zr)])
theorem ctr_6 : Ctr M_X_init 3 89 844 6 fs6 Sh6 := by
  refine ctr_of ok_X_init rfl (Nat.le_of_ble_eq_true rfl) (fun cI cR h0 => ?_)
  refine jw_aload (i := 0) 0 (by decide +kernel) rfl ?_
  refine jw_obj (idx := 1) (inW0 (i := 17) rfl rfl) (inW0 (i := 18) rfl rfl) (inW0 (i := 19) rfl rfl) (by decide +kernel) (Nat.le_of_ble_eq_true rfl) (Nat.le_of_ble_eq_true rfl) ?_
  refine jw_aload (i := 0) 0 (by decide +kernel) rfl ?_
  refine jw_new (idx := 7) (fs := fs4) (C := RX4) (T := TX4) (N := 10) (ci := 4) rfl (inW0 (i := 20) rfl rfl) (inW0 (i := 21) rfl rfl) (inW0 (i := 2) rfl rfl) tyX4 tyX4_ok df4 (by decide +kernel) (Nat.le_of_ble_eq_true rfl) (Nat.le_of_ble_eq_true rfl) (fun q1 => ?_)
  refine jw_dup (by decide +kernel) ?_
  refine jw_ctor (idx := 9) ctr_4 ok_Re_init rfl rfl rfl (Or.inl (inW0 (i := 22) rfl rfl)) (inW0 (i := 23) rfl rfl) (Nat.le_of_ble_eq_true rfl) (Nat.le_of_ble_eq_true rfl) (Nat.le_of_ble_eq_true rfl) (by decide +kernel) (Nat.le_of_ble_eq_true rfl) (Nat.le_of_ble_eq_true rfl) (fun w1 hw1 => ?_)
  obtain ⟨r1, rfl, rfl⟩ := hw1
  refine jw_putF (idx := 10) (q0 := 0) (sl := 0) (N := 10) (C := RX6) (T := TX6) (ty := tyX6 0) rfl rfl (Nat.le_of_ble_eq_true rfl) (inW0 (i := 146) rfl rfl) rfl rfl rfl (tyX6_ok 0 (Nat.le_of_ble_eq_true rfl)) rfl rfl (Nat.le_of_ble_eq_true rfl) (by decide +kernel) ?_
  refine jw_ws (ws' := (h0, .inr (6, [.ref (r1 0), .null, .null, .null, .null, .null, .null, .null, .null, .int (zI 0)])) :: RW cI r1) rfl ?_
  refine jw_aload (i := 0) 0 (by decide +kernel) rfl ?_
  refine jw_new (idx := 7) (fs := fs4) (C := RX4) (T := TX4) (N := 10) (ci := 4) rfl (inW0 (i := 20) rfl rfl) (inW0 (i := 21) rfl rfl) (inW0 (i := 2) rfl rfl) tyX4 tyX4_ok df4 (by decide +kernel) (Nat.le_of_ble_eq_true rfl) (Nat.le_of_ble_eq_true rfl) (fun q2 => ?_)
  refine jw_dup (by decide +kernel) ?_
  refine jw_ctor (idx := 9) ctr_4 ok_Re_init rfl rfl rfl (Or.inl (inW0 (i := 22) rfl rfl)) (inW0 (i := 23) rfl rfl) (Nat.le_of_ble_eq_true rfl) (Nat.le_of_ble_eq_true rfl) (Nat.le_of_ble_eq_true rfl) (by decide +kernel) (Nat.le_of_ble_eq_true rfl) (Nat.le_of_ble_eq_true rfl) (fun w2 hw2 => ?_)
  obtain ⟨r2, rfl, rfl⟩ := hw2
  refine jw_putF (idx := 16) (q0 := 0) (sl := 1) (N := 10) (C := RX6) (T := TX6) (ty := tyX6 1) rfl rfl (Nat.le_of_ble_eq_true rfl) (inW0 (i := 147) rfl rfl) rfl rfl rfl (tyX6_ok 1 (Nat.le_of_ble_eq_true rfl)) rfl rfl (Nat.le_of_ble_eq_true rfl) (by decide +kernel) ?_
  refine jw_ws (ws' := (h0, .inr (6, [.ref (r1 0), .ref (r2 0), .null, .null, .null, .null, .null, .null, .null, .int (zI 0)])) :: (RW cI r1 ++ RW cI r2)) rfl ?_
  refine jw_aload (i := 0) 0 (by decide +kernel) rfl ?_
  refine jw_new (idx := 7) (fs := fs4) (C := RX4) (T := TX4) (N := 10) (ci := 4) rfl (inW0 (i := 20) rfl rfl) (inW0 (i := 21) rfl rfl) (inW0 (i := 2) rfl rfl) tyX4 tyX4_ok df4 (by decide +kernel) (Nat.le_of_ble_eq_true rfl) (Nat.le_of_ble_eq_true rfl) (fun q3 => ?_)
  refine jw_dup (by decide +kernel) ?_
  refine jw_ctor (idx := 9) ctr_4 ok_Re_init rfl rfl rfl (Or.inl (inW0 (i := 22) rfl rfl)) (inW0 (i := 23) rfl rfl) (Nat.le_of_ble_eq_true rfl) (Nat.le_of_ble_eq_true rfl) (Nat.le_of_ble_eq_true rfl) (by decide +kernel) (Nat.le_of_ble_eq_true rfl) (Nat.le_of_ble_eq_true rfl) (fun w3 hw3 => ?_)
  obtain ⟨r3, rfl, rfl⟩ := hw3
  refine jw_putF (idx := 19) (q0 := 0) (sl := 2) (N := 10) (C := RX6) (T := TX6) (ty := tyX6 2) rfl rfl (Nat.le_of_ble_eq_true rfl) (inW0 (i := 148) rfl rfl) rfl rfl rfl (tyX6_ok 2 (Nat.le_of_ble_eq_true rfl)) rfl rfl (Nat.le_of_ble_eq_true rfl) (by decide +kernel) ?_
  refine jw_ws (ws' := (h0, .inr (6, [.ref (r1 0), .ref (r2 0), .ref (r3 0), .null, .null, .null, .null, .null, .null, .int (zI 0)])) :: ((RW cI r1 ++ RW cI r2) ++ RW cI r3)) rfl ?_
  refine jw_aload (i := 0) 0 (by decide +kernel) rfl ?_
  refine jw_new (idx := 22) (fs := fs3) (C := RX3) (T := TX3) (N := 2) (ci := 3) rfl (inW0 (i := 67) rfl rfl) (inW0 (i := 68) rfl rfl) (inW0 (i := 3) rfl rfl) tyX3 tyX3_ok df3 (by decide +kernel) (Nat.le_of_ble_eq_true rfl) (Nat.le_of_ble_eq_true rfl) (fun q4 => ?_)
  refine jw_dup (by decide +kernel) ?_
  refine jw_ctor (idx := 24) ctr_3 ok_Pa_init rfl rfl rfl (Or.inl (inW0 (i := 69) rfl rfl)) (inW0 (i := 70) rfl rfl) (Nat.le_of_ble_eq_true rfl) (Nat.le_of_ble_eq_true rfl) (Nat.le_of_ble_eq_true rfl) (by decide +kernel) (Nat.le_of_ble_eq_true rfl) (Nat.le_of_ble_eq_true rfl) (fun w4 hw4 => ?_)
  refine jw_putF (idx := 25) (q0 := 0) (sl := 3) (N := 10) (C := RX6) (T := TX6) (ty := tyX6 3) rfl rfl (Nat.le_of_ble_eq_true rfl) (inW0 (i := 149) rfl rfl) rfl rfl rfl (tyX6_ok 3 (Nat.le_of_ble_eq_true rfl)) rfl rfl (Nat.le_of_ble_eq_true rfl) (by decide +kernel) ?_
  refine jw_ws (ws' := (h0, .inr (6, [.ref (r1 0), .ref (r2 0), .ref (r3 0), .ref q4, .null, .null, .null, .null, .null, .int (zI 0)])) :: (((RW cI r1 ++ RW cI r2) ++ RW cI r3) ++ w4)) rfl ?_
  refine jw_aload (i := 0) 0 (by decide +kernel) rfl ?_
  refine jw_new (idx := 29) (fs := fs2) (C := RX2) (T := TX2) (N := 2) (ci := 2) rfl (inW0 (i := 84) rfl rfl) (inW0 (i := 85) rfl rfl) (inW0 (i := 4) rfl rfl) tyX2 tyX2_ok df2 (by decide +kernel) (Nat.le_of_ble_eq_true rfl) (Nat.le_of_ble_eq_true rfl) (fun q5 => ?_)
  refine jw_dup (by decide +kernel) ?_
  refine jw_ctor (idx := 31) ctr_2 ok_Le_init rfl rfl rfl (Or.inr (inN0 (i := 86) rfl rfl)) (inW0 (i := 87) rfl rfl) (Nat.le_of_ble_eq_true rfl) (Nat.le_of_ble_eq_true rfl) (Nat.le_of_ble_eq_true rfl) (by decide +kernel) (Nat.le_of_ble_eq_true rfl) (Nat.le_of_ble_eq_true rfl) (fun w5 hw5 => ?_)
  refine jw_putF (idx := 32) (q0 := 0) (sl := 4) (N := 10) (C := RX6) (T := TX6) (ty := tyX6 4) rfl rfl (Nat.le_of_ble_eq_true rfl) (inW0 (i := 150) rfl rfl) rfl rfl rfl (tyX6_ok 4 (Nat.le_of_ble_eq_true rfl)) rfl rfl (Nat.le_of_ble_eq_true rfl) (by decide +kernel) ?_
  refine jw_ws (ws' := (h0, .inr (6, [.ref (r1 0), .ref (r2 0), .ref (r3 0), .ref q4, .ref q5, .null, .null, .null, .null, .int (zI 0)])) :: ((((RW cI r1 ++ RW cI r2) ++ RW cI r3) ++ w4) ++ w5)) rfl ?_
  refine jw_aload (i := 0) 0 (by decide +kernel) rfl ?_
  refine jw_new (idx := 36) (fs := fs5) (C := RX5) (T := TX5) (N := 2) (ci := 5) rfl (inW0 (i := 98) rfl rfl) (inW0 (i := 99) rfl rfl) (inW0 (i := 5) rfl rfl) tyX5 tyX5_ok df5 (by decide +kernel) (Nat.le_of_ble_eq_true rfl) (Nat.le_of_ble_eq_true rfl) (fun q6 => ?_)
  refine jw_dup (by decide +kernel) ?_
  refine jw_ctor (idx := 38) ctr_5 ok_Ro_init rfl rfl rfl (Or.inr (inN0 (i := 100) rfl rfl)) (inW0 (i := 101) rfl rfl) (Nat.le_of_ble_eq_true rfl) (Nat.le_of_ble_eq_true rfl) (Nat.le_of_ble_eq_true rfl) (by decide +kernel) (Nat.le_of_ble_eq_true rfl) (Nat.le_of_ble_eq_true rfl) (fun w6 hw6 => ?_)
  refine jw_putF (idx := 39) (q0 := 0) (sl := 5) (N := 10) (C := RX6) (T := TX6) (ty := tyX6 5) rfl rfl (Nat.le_of_ble_eq_true rfl) (inW0 (i := 151) rfl rfl) rfl rfl rfl (tyX6_ok 5 (Nat.le_of_ble_eq_true rfl)) rfl rfl (Nat.le_of_ble_eq_true rfl) (by decide +kernel) ?_
  refine jw_ws (ws' := (h0, .inr (6, [.ref (r1 0), .ref (r2 0), .ref (r3 0), .ref q4, .ref q5, .ref q6, .null, .null, .null, .int (zI 0)])) :: (((((RW cI r1 ++ RW cI r2) ++ RW cI r3) ++ w4) ++ w5) ++ w6)) rfl ?_
  refine jw_aload (i := 0) 0 (by decide +kernel) rfl ?_
  refine jw_new (idx := 43) (fs := fs1) (C := RX1) (T := TX1) (N := 3) (ci := 1) rfl (inW0 (i := 113) rfl rfl) (inW0 (i := 114) rfl rfl) (inW0 (i := 6) rfl rfl) tyX1 tyX1_ok df1 (by decide +kernel) (Nat.le_of_ble_eq_true rfl) (Nat.le_of_ble_eq_true rfl) (fun q7 => ?_)
  refine jw_dup (by decide +kernel) ?_
  refine jw_ctor (idx := 45) ctr_1 ok_Co_init rfl rfl rfl (Or.inr (inN0 (i := 115) rfl rfl)) (inW0 (i := 116) rfl rfl) (Nat.le_of_ble_eq_true rfl) (Nat.le_of_ble_eq_true rfl) (Nat.le_of_ble_eq_true rfl) (by decide +kernel) (Nat.le_of_ble_eq_true rfl) (Nat.le_of_ble_eq_true rfl) (fun w7 hw7 => ?_)
  refine jw_putF (idx := 46) (q0 := 0) (sl := 6) (N := 10) (C := RX6) (T := TX6) (ty := tyX6 6) rfl rfl (Nat.le_of_ble_eq_true rfl) (inW0 (i := 152) rfl rfl) rfl rfl rfl (tyX6_ok 6 (Nat.le_of_ble_eq_true rfl)) rfl rfl (Nat.le_of_ble_eq_true rfl) (by decide +kernel) ?_
  refine jw_ws (ws' := (h0, .inr (6, [.ref (r1 0), .ref (r2 0), .ref (r3 0), .ref q4, .ref q5, .ref q6, .ref q7, .null, .null, .int (zI 0)])) :: ((((((RW cI r1 ++ RW cI r2) ++ RW cI r3) ++ w4) ++ w5) ++ w6) ++ w7)) rfl ?_
  refine jw_aload (i := 0) 0 (by decide +kernel) rfl ?_
  refine jw_new (idx := 50) (fs := fs0) (C := RX0) (T := TX0) (N := 2) (ci := 0) rfl (inW0 (i := 131) rfl rfl) (inW0 (i := 132) rfl rfl) (inW0 (i := 7) rfl rfl) tyX0 tyX0_ok df0 (by decide +kernel) (Nat.le_of_ble_eq_true rfl) (Nat.le_of_ble_eq_true rfl) (fun q8 => ?_)
  refine jw_dup (by decide +kernel) ?_
  refine jw_ctor (idx := 52) ctr_0 ok_Ch_init rfl rfl rfl (Or.inr (inN0 (i := 133) rfl rfl)) (inW0 (i := 134) rfl rfl) (Nat.le_of_ble_eq_true rfl) (Nat.le_of_ble_eq_true rfl) (Nat.le_of_ble_eq_true rfl) (by decide +kernel) (Nat.le_of_ble_eq_true rfl) (Nat.le_of_ble_eq_true rfl) (fun w8 hw8 => ?_)
  refine jw_putF (idx := 53) (q0 := 0) (sl := 7) (N := 10) (C := RX6) (T := TX6) (ty := tyX6 7) rfl rfl (Nat.le_of_ble_eq_true rfl) (inW0 (i := 153) rfl rfl) rfl rfl rfl (tyX6_ok 7 (Nat.le_of_ble_eq_true rfl)) rfl rfl (Nat.le_of_ble_eq_true rfl) (by decide +kernel) ?_
  refine jw_ws (ws' := (h0, .inr (6, [.ref (r1 0), .ref (r2 0), .ref (r3 0), .ref q4, .ref q5, .ref q6, .ref q7, .ref q8, .null, .int (zI 0)])) :: (((((((RW cI r1 ++ RW cI r2) ++ RW cI r3) ++ w4) ++ w5) ++ w6) ++ w7) ++ w8)) rfl ?_
  refine jw_aload (i := 0) 0 (by decide +kernel) rfl ?_
  refine jw_bip (n := 7) (v := zI 7) (by decide +kernel) rfl ?_
  refine jw_newa (N := 7) (inW0 (i := 66) rfl rfl) (by decide +kernel) (by decide +kernel) (Nat.le_of_ble_eq_true rfl) (by decide +kernel) (Nat.le_of_ble_eq_true rfl) (Nat.le_of_ble_eq_true rfl) (fun q9 => ?_)
  refine jw_putF (idx := 57) (q0 := 0) (sl := 8) (N := 10) (C := RX6) (T := TX6) (ty := tyX6 8) rfl rfl (Nat.le_of_ble_eq_true rfl) (inW0 (i := 154) rfl rfl) rfl rfl rfl (tyX6_ok 8 (Nat.le_of_ble_eq_true rfl)) rfl rfl (Nat.le_of_ble_eq_true rfl) (by decide +kernel) ?_
  refine jw_ws (ws' := (h0, .inr (6, [.ref (r1 0), .ref (r2 0), .ref (r3 0), .ref q4, .ref q5, .ref q6, .ref q7, .ref q8, .ref q9, .int (zI 0)])) :: ((((((((RW cI r1 ++ RW cI r2) ++ RW cI r3) ++ w4) ++ w5) ++ w6) ++ w7) ++ w8) ++ [(q9, cA cI 7 zr)])) rfl ?_
  refine jw_aload (i := 0) 0 (by decide +kernel) rfl ?_
  refine jw_icn (n := 0) (v := zI 0) (by decide +kernel) rfl ?_
  refine jw_put (idx := 61) (q0 := 0) (sl := 9) (N := 10) (C := RX6) (T := TX6) (ty := tyX6 9) rfl rfl (Nat.le_of_ble_eq_true rfl) (inW0 (i := 155) rfl rfl) rfl rfl (tyX6_ok 9 (Nat.le_of_ble_eq_true rfl)) rfl rfl (Nat.le_of_ble_eq_true rfl) (by decide +kernel) ?_
  refine jw_ws (ws' := (h0, .inr (6, [.ref (r1 0), .ref (r2 0), .ref (r3 0), .ref q4, .ref q5, .ref q6, .ref q7, .ref q8, .ref q9, .int (zI 0)])) :: ((((((((RW cI r1 ++ RW cI r2) ++ RW cI r3) ++ w4) ++ w5) ++ w6) ++ w7) ++ w8) ++ [(q9, cA cI 7 zr)])) rfl ?_
  refine jw_ret rfl ?_ (Nat.le_of_ble_eq_true rfl) (Nat.le_of_ble_eq_true rfl) (by decide +kernel)
  exact ⟨r1, r2, r3, q4, q5, q6, q7, q8, q9, w4, w5, w6, w7, w8, hw4, hw5, hw6, hw7, hw8, rfl⟩
def Sh7 : SHP := fun h0 cI cR w => ∃ (q1 q2 q3 q4 q5 q6 q7 q8 q9 q10 q11 q12 q13 q14 q15 q16 : Nat), w = (h0, .inr (7, [.ref q1, .int (zI 0), .int (zI 12), .int (zI 0), .ref q2, .ref q3, .ref q4, .ref q5, .int (zI 0), .int (zI 0), .int (zI 0), .ref q6, .ref q7, .int (zI 0), .int (zI 0), .int (zI 0), .int (zI 0), .ref q8, .ref q9, .ref q10, .ref q11, .ref q12, .int (zI 0), .int (zI 0), .int (zI 0), .null, .ref q13, .ref q14, .int (zI 0), .ref q15, .int (zI 0), .ref q16, .int (zI 0)])) :: ((((((((((((((([(q1, cA cI 12 (onesF 12))] ++ [(q2, cA cI 8 zr)]) ++ [(q3, cA cI 8 zr)]) ++ [(q4, cA cI 8 zr)]) ++ [(q5, cA cI 8 zr)]) ++ [(q6, cA cI 7 zr)]) ++ [(q7, cA cI 96 zr)]) ++ [(q8, cA cI 49 zr)]) ++ [(q9, cA cI 49 zr)]) ++ [(q10, cA cI 98 zr)]) ++ [(q11, cA cI 49 zr)]) ++ [(q12, cA cI 49 zr)]) ++ [(q13, cA cI 392 zr)]) ++ [(q14, cA cI 49 zr)]) ++ [(q15, cA cI 12 zr)]) ++ [(q16, cA cI 8 zr)])
theorem ctr_7 : Ctr M_M_init 1 16 902 7 fs7 Sh7 := by
  refine ctr_of ok_M_init rfl (Nat.le_of_ble_eq_true rfl) (fun cI cR h0 => ?_)
  refine jw_aload (i := 0) 0 (by decide +kernel) rfl ?_
  refine jw_obj (idx := 1) (inW2 (i := 239) rfl rfl) (inW0 (i := 18) rfl rfl) (inW0 (i := 19) rfl rfl) (by decide +kernel) (Nat.le_of_ble_eq_true rfl) (Nat.le_of_ble_eq_true rfl) ?_
  refine jw_aload (i := 0) 0 (by decide +kernel) rfl ?_
  refine jw_bip (n := 12) (v := zI 12) (by decide +kernel) rfl ?_
  refine jw_newa (N := 12) (inW0 (i := 66) rfl rfl) (by decide +kernel) (by decide +kernel) (Nat.le_of_ble_eq_true rfl) (by decide +kernel) (Nat.le_of_ble_eq_true rfl) (Nat.le_of_ble_eq_true rfl) (fun q1 => ?_)
  refine jw_putF (idx := 7) (q0 := 0) (sl := 0) (N := 33) (C := RX7) (T := TX7) (ty := tyX7 0) rfl rfl (Nat.le_of_ble_eq_true rfl) (inW3 (i := 0) rfl rfl) rfl rfl rfl (tyX7_ok 0 (Nat.le_of_ble_eq_true rfl)) rfl rfl (Nat.le_of_ble_eq_true rfl) (by decide +kernel) ?_
  refine jw_ws (ws' := (h0, .inr (7, [.ref q1, .int (zI 0), .int (zI 0), .int (zI 0), .null, .null, .null, .null, .int (zI 0), .int (zI 0), .int (zI 0), .null, .null, .int (zI 0), .int (zI 0), .int (zI 0), .int (zI 0), .null, .null, .null, .null, .null, .int (zI 0), .int (zI 0), .int (zI 0), .null, .null, .null, .int (zI 0), .null, .int (zI 0), .null, .int (zI 0)])) :: [(q1, cA cI 12 zr)]) rfl ?_
  refine jw_aload (i := 0) 0 (by decide +kernel) rfl ?_
  refine jw_bip (n := 8) (v := zI 8) (by decide +kernel) rfl ?_
  refine jw_newa (N := 8) (inW0 (i := 66) rfl rfl) (by decide +kernel) (by decide +kernel) (Nat.le_of_ble_eq_true rfl) (by decide +kernel) (Nat.le_of_ble_eq_true rfl) (Nat.le_of_ble_eq_true rfl) (fun q2 => ?_)
  refine jw_putF (idx := 13) (q0 := 0) (sl := 4) (N := 33) (C := RX7) (T := TX7) (ty := tyX7 4) rfl rfl (Nat.le_of_ble_eq_true rfl) (inW3 (i := 4) rfl rfl) rfl rfl rfl (tyX7_ok 4 (Nat.le_of_ble_eq_true rfl)) rfl rfl (Nat.le_of_ble_eq_true rfl) (by decide +kernel) ?_
  refine jw_ws (ws' := (h0, .inr (7, [.ref q1, .int (zI 0), .int (zI 0), .int (zI 0), .ref q2, .null, .null, .null, .int (zI 0), .int (zI 0), .int (zI 0), .null, .null, .int (zI 0), .int (zI 0), .int (zI 0), .int (zI 0), .null, .null, .null, .null, .null, .int (zI 0), .int (zI 0), .int (zI 0), .null, .null, .null, .int (zI 0), .null, .int (zI 0), .null, .int (zI 0)])) :: ([(q1, cA cI 12 zr)] ++ [(q2, cA cI 8 zr)])) rfl ?_
  refine jw_aload (i := 0) 0 (by decide +kernel) rfl ?_
  refine jw_bip (n := 8) (v := zI 8) (by decide +kernel) rfl ?_
  refine jw_newa (N := 8) (inW0 (i := 66) rfl rfl) (by decide +kernel) (by decide +kernel) (Nat.le_of_ble_eq_true rfl) (by decide +kernel) (Nat.le_of_ble_eq_true rfl) (Nat.le_of_ble_eq_true rfl) (fun q3 => ?_)
  refine jw_putF (idx := 16) (q0 := 0) (sl := 5) (N := 33) (C := RX7) (T := TX7) (ty := tyX7 5) rfl rfl (Nat.le_of_ble_eq_true rfl) (inW3 (i := 5) rfl rfl) rfl rfl rfl (tyX7_ok 5 (Nat.le_of_ble_eq_true rfl)) rfl rfl (Nat.le_of_ble_eq_true rfl) (by decide +kernel) ?_
  refine jw_ws (ws' := (h0, .inr (7, [.ref q1, .int (zI 0), .int (zI 0), .int (zI 0), .ref q2, .ref q3, .null, .null, .int (zI 0), .int (zI 0), .int (zI 0), .null, .null, .int (zI 0), .int (zI 0), .int (zI 0), .int (zI 0), .null, .null, .null, .null, .null, .int (zI 0), .int (zI 0), .int (zI 0), .null, .null, .null, .int (zI 0), .null, .int (zI 0), .null, .int (zI 0)])) :: (([(q1, cA cI 12 zr)] ++ [(q2, cA cI 8 zr)]) ++ [(q3, cA cI 8 zr)])) rfl ?_
  refine jw_aload (i := 0) 0 (by decide +kernel) rfl ?_
  refine jw_bip (n := 8) (v := zI 8) (by decide +kernel) rfl ?_
  refine jw_newa (N := 8) (inW0 (i := 66) rfl rfl) (by decide +kernel) (by decide +kernel) (Nat.le_of_ble_eq_true rfl) (by decide +kernel) (Nat.le_of_ble_eq_true rfl) (Nat.le_of_ble_eq_true rfl) (fun q4 => ?_)
  refine jw_putF (idx := 19) (q0 := 0) (sl := 6) (N := 33) (C := RX7) (T := TX7) (ty := tyX7 6) rfl rfl (Nat.le_of_ble_eq_true rfl) (inW3 (i := 6) rfl rfl) rfl rfl rfl (tyX7_ok 6 (Nat.le_of_ble_eq_true rfl)) rfl rfl (Nat.le_of_ble_eq_true rfl) (by decide +kernel) ?_
  refine jw_ws (ws' := (h0, .inr (7, [.ref q1, .int (zI 0), .int (zI 0), .int (zI 0), .ref q2, .ref q3, .ref q4, .null, .int (zI 0), .int (zI 0), .int (zI 0), .null, .null, .int (zI 0), .int (zI 0), .int (zI 0), .int (zI 0), .null, .null, .null, .null, .null, .int (zI 0), .int (zI 0), .int (zI 0), .null, .null, .null, .int (zI 0), .null, .int (zI 0), .null, .int (zI 0)])) :: ((([(q1, cA cI 12 zr)] ++ [(q2, cA cI 8 zr)]) ++ [(q3, cA cI 8 zr)]) ++ [(q4, cA cI 8 zr)])) rfl ?_
  refine jw_aload (i := 0) 0 (by decide +kernel) rfl ?_
  refine jw_bip (n := 8) (v := zI 8) (by decide +kernel) rfl ?_
  refine jw_newa (N := 8) (inW0 (i := 66) rfl rfl) (by decide +kernel) (by decide +kernel) (Nat.le_of_ble_eq_true rfl) (by decide +kernel) (Nat.le_of_ble_eq_true rfl) (Nat.le_of_ble_eq_true rfl) (fun q5 => ?_)
  refine jw_putF (idx := 22) (q0 := 0) (sl := 7) (N := 33) (C := RX7) (T := TX7) (ty := tyX7 7) rfl rfl (Nat.le_of_ble_eq_true rfl) (inW3 (i := 7) rfl rfl) rfl rfl rfl (tyX7_ok 7 (Nat.le_of_ble_eq_true rfl)) rfl rfl (Nat.le_of_ble_eq_true rfl) (by decide +kernel) ?_
  refine jw_ws (ws' := (h0, .inr (7, [.ref q1, .int (zI 0), .int (zI 0), .int (zI 0), .ref q2, .ref q3, .ref q4, .ref q5, .int (zI 0), .int (zI 0), .int (zI 0), .null, .null, .int (zI 0), .int (zI 0), .int (zI 0), .int (zI 0), .null, .null, .null, .null, .null, .int (zI 0), .int (zI 0), .int (zI 0), .null, .null, .null, .int (zI 0), .null, .int (zI 0), .null, .int (zI 0)])) :: (((([(q1, cA cI 12 zr)] ++ [(q2, cA cI 8 zr)]) ++ [(q3, cA cI 8 zr)]) ++ [(q4, cA cI 8 zr)]) ++ [(q5, cA cI 8 zr)])) rfl ?_
  refine jw_aload (i := 0) 0 (by decide +kernel) rfl ?_
  refine jw_bip (n := 7) (v := zI 7) (by decide +kernel) rfl ?_
  refine jw_newa (N := 7) (inW0 (i := 66) rfl rfl) (by decide +kernel) (by decide +kernel) (Nat.le_of_ble_eq_true rfl) (by decide +kernel) (Nat.le_of_ble_eq_true rfl) (Nat.le_of_ble_eq_true rfl) (fun q6 => ?_)
  refine jw_putF (idx := 25) (q0 := 0) (sl := 11) (N := 33) (C := RX7) (T := TX7) (ty := tyX7 11) rfl rfl (Nat.le_of_ble_eq_true rfl) (inW3 (i := 11) rfl rfl) rfl rfl rfl (tyX7_ok 11 (Nat.le_of_ble_eq_true rfl)) rfl rfl (Nat.le_of_ble_eq_true rfl) (by decide +kernel) ?_
  refine jw_ws (ws' := (h0, .inr (7, [.ref q1, .int (zI 0), .int (zI 0), .int (zI 0), .ref q2, .ref q3, .ref q4, .ref q5, .int (zI 0), .int (zI 0), .int (zI 0), .ref q6, .null, .int (zI 0), .int (zI 0), .int (zI 0), .int (zI 0), .null, .null, .null, .null, .null, .int (zI 0), .int (zI 0), .int (zI 0), .null, .null, .null, .int (zI 0), .null, .int (zI 0), .null, .int (zI 0)])) :: ((((([(q1, cA cI 12 zr)] ++ [(q2, cA cI 8 zr)]) ++ [(q3, cA cI 8 zr)]) ++ [(q4, cA cI 8 zr)]) ++ [(q5, cA cI 8 zr)]) ++ [(q6, cA cI 7 zr)])) rfl ?_
  refine jw_aload (i := 0) 0 (by decide +kernel) rfl ?_
  refine jw_bip (n := 96) (v := zI 96) (by decide +kernel) rfl ?_
  refine jw_newa (N := 96) (inW0 (i := 66) rfl rfl) (by decide +kernel) (by decide +kernel) (Nat.le_of_ble_eq_true rfl) (by decide +kernel) (Nat.le_of_ble_eq_true rfl) (Nat.le_of_ble_eq_true rfl) (fun q7 => ?_)
  refine jw_putF (idx := 28) (q0 := 0) (sl := 12) (N := 33) (C := RX7) (T := TX7) (ty := tyX7 12) rfl rfl (Nat.le_of_ble_eq_true rfl) (inW3 (i := 12) rfl rfl) rfl rfl rfl (tyX7_ok 12 (Nat.le_of_ble_eq_true rfl)) rfl rfl (Nat.le_of_ble_eq_true rfl) (by decide +kernel) ?_
  refine jw_ws (ws' := (h0, .inr (7, [.ref q1, .int (zI 0), .int (zI 0), .int (zI 0), .ref q2, .ref q3, .ref q4, .ref q5, .int (zI 0), .int (zI 0), .int (zI 0), .ref q6, .ref q7, .int (zI 0), .int (zI 0), .int (zI 0), .int (zI 0), .null, .null, .null, .null, .null, .int (zI 0), .int (zI 0), .int (zI 0), .null, .null, .null, .int (zI 0), .null, .int (zI 0), .null, .int (zI 0)])) :: (((((([(q1, cA cI 12 zr)] ++ [(q2, cA cI 8 zr)]) ++ [(q3, cA cI 8 zr)]) ++ [(q4, cA cI 8 zr)]) ++ [(q5, cA cI 8 zr)]) ++ [(q6, cA cI 7 zr)]) ++ [(q7, cA cI 96 zr)])) rfl ?_
  refine jw_aload (i := 0) 0 (by decide +kernel) rfl ?_
  refine jw_bip (n := 49) (v := zI 49) (by decide +kernel) rfl ?_
  refine jw_newa (N := 49) (inW0 (i := 66) rfl rfl) (by decide +kernel) (by decide +kernel) (Nat.le_of_ble_eq_true rfl) (by decide +kernel) (Nat.le_of_ble_eq_true rfl) (Nat.le_of_ble_eq_true rfl) (fun q8 => ?_)
  refine jw_putF (idx := 31) (q0 := 0) (sl := 17) (N := 33) (C := RX7) (T := TX7) (ty := tyX7 17) rfl rfl (Nat.le_of_ble_eq_true rfl) (inW3 (i := 17) rfl rfl) rfl rfl rfl (tyX7_ok 17 (Nat.le_of_ble_eq_true rfl)) rfl rfl (Nat.le_of_ble_eq_true rfl) (by decide +kernel) ?_
  refine jw_ws (ws' := (h0, .inr (7, [.ref q1, .int (zI 0), .int (zI 0), .int (zI 0), .ref q2, .ref q3, .ref q4, .ref q5, .int (zI 0), .int (zI 0), .int (zI 0), .ref q6, .ref q7, .int (zI 0), .int (zI 0), .int (zI 0), .int (zI 0), .ref q8, .null, .null, .null, .null, .int (zI 0), .int (zI 0), .int (zI 0), .null, .null, .null, .int (zI 0), .null, .int (zI 0), .null, .int (zI 0)])) :: ((((((([(q1, cA cI 12 zr)] ++ [(q2, cA cI 8 zr)]) ++ [(q3, cA cI 8 zr)]) ++ [(q4, cA cI 8 zr)]) ++ [(q5, cA cI 8 zr)]) ++ [(q6, cA cI 7 zr)]) ++ [(q7, cA cI 96 zr)]) ++ [(q8, cA cI 49 zr)])) rfl ?_
  refine jw_aload (i := 0) 0 (by decide +kernel) rfl ?_
  refine jw_bip (n := 49) (v := zI 49) (by decide +kernel) rfl ?_
  refine jw_newa (N := 49) (inW0 (i := 66) rfl rfl) (by decide +kernel) (by decide +kernel) (Nat.le_of_ble_eq_true rfl) (by decide +kernel) (Nat.le_of_ble_eq_true rfl) (Nat.le_of_ble_eq_true rfl) (fun q9 => ?_)
  refine jw_putF (idx := 34) (q0 := 0) (sl := 18) (N := 33) (C := RX7) (T := TX7) (ty := tyX7 18) rfl rfl (Nat.le_of_ble_eq_true rfl) (inW3 (i := 18) rfl rfl) rfl rfl rfl (tyX7_ok 18 (Nat.le_of_ble_eq_true rfl)) rfl rfl (Nat.le_of_ble_eq_true rfl) (by decide +kernel) ?_
  refine jw_ws (ws' := (h0, .inr (7, [.ref q1, .int (zI 0), .int (zI 0), .int (zI 0), .ref q2, .ref q3, .ref q4, .ref q5, .int (zI 0), .int (zI 0), .int (zI 0), .ref q6, .ref q7, .int (zI 0), .int (zI 0), .int (zI 0), .int (zI 0), .ref q8, .ref q9, .null, .null, .null, .int (zI 0), .int (zI 0), .int (zI 0), .null, .null, .null, .int (zI 0), .null, .int (zI 0), .null, .int (zI 0)])) :: (((((((([(q1, cA cI 12 zr)] ++ [(q2, cA cI 8 zr)]) ++ [(q3, cA cI 8 zr)]) ++ [(q4, cA cI 8 zr)]) ++ [(q5, cA cI 8 zr)]) ++ [(q6, cA cI 7 zr)]) ++ [(q7, cA cI 96 zr)]) ++ [(q8, cA cI 49 zr)]) ++ [(q9, cA cI 49 zr)])) rfl ?_
  refine jw_aload (i := 0) 0 (by decide +kernel) rfl ?_
  refine jw_bip (n := 98) (v := zI 98) (by decide +kernel) rfl ?_
  refine jw_newa (N := 98) (inW0 (i := 66) rfl rfl) (by decide +kernel) (by decide +kernel) (Nat.le_of_ble_eq_true rfl) (by decide +kernel) (Nat.le_of_ble_eq_true rfl) (Nat.le_of_ble_eq_true rfl) (fun q10 => ?_)
  refine jw_putF (idx := 37) (q0 := 0) (sl := 19) (N := 33) (C := RX7) (T := TX7) (ty := tyX7 19) rfl rfl (Nat.le_of_ble_eq_true rfl) (inW3 (i := 19) rfl rfl) rfl rfl rfl (tyX7_ok 19 (Nat.le_of_ble_eq_true rfl)) rfl rfl (Nat.le_of_ble_eq_true rfl) (by decide +kernel) ?_
  refine jw_ws (ws' := (h0, .inr (7, [.ref q1, .int (zI 0), .int (zI 0), .int (zI 0), .ref q2, .ref q3, .ref q4, .ref q5, .int (zI 0), .int (zI 0), .int (zI 0), .ref q6, .ref q7, .int (zI 0), .int (zI 0), .int (zI 0), .int (zI 0), .ref q8, .ref q9, .ref q10, .null, .null, .int (zI 0), .int (zI 0), .int (zI 0), .null, .null, .null, .int (zI 0), .null, .int (zI 0), .null, .int (zI 0)])) :: ((((((((([(q1, cA cI 12 zr)] ++ [(q2, cA cI 8 zr)]) ++ [(q3, cA cI 8 zr)]) ++ [(q4, cA cI 8 zr)]) ++ [(q5, cA cI 8 zr)]) ++ [(q6, cA cI 7 zr)]) ++ [(q7, cA cI 96 zr)]) ++ [(q8, cA cI 49 zr)]) ++ [(q9, cA cI 49 zr)]) ++ [(q10, cA cI 98 zr)])) rfl ?_
  refine jw_aload (i := 0) 0 (by decide +kernel) rfl ?_
  refine jw_bip (n := 49) (v := zI 49) (by decide +kernel) rfl ?_
  refine jw_newa (N := 49) (inW0 (i := 66) rfl rfl) (by decide +kernel) (by decide +kernel) (Nat.le_of_ble_eq_true rfl) (by decide +kernel) (Nat.le_of_ble_eq_true rfl) (Nat.le_of_ble_eq_true rfl) (fun q11 => ?_)
  refine jw_putF (idx := 40) (q0 := 0) (sl := 20) (N := 33) (C := RX7) (T := TX7) (ty := tyX7 20) rfl rfl (Nat.le_of_ble_eq_true rfl) (inW3 (i := 20) rfl rfl) rfl rfl rfl (tyX7_ok 20 (Nat.le_of_ble_eq_true rfl)) rfl rfl (Nat.le_of_ble_eq_true rfl) (by decide +kernel) ?_
  refine jw_ws (ws' := (h0, .inr (7, [.ref q1, .int (zI 0), .int (zI 0), .int (zI 0), .ref q2, .ref q3, .ref q4, .ref q5, .int (zI 0), .int (zI 0), .int (zI 0), .ref q6, .ref q7, .int (zI 0), .int (zI 0), .int (zI 0), .int (zI 0), .ref q8, .ref q9, .ref q10, .ref q11, .null, .int (zI 0), .int (zI 0), .int (zI 0), .null, .null, .null, .int (zI 0), .null, .int (zI 0), .null, .int (zI 0)])) :: (((((((((([(q1, cA cI 12 zr)] ++ [(q2, cA cI 8 zr)]) ++ [(q3, cA cI 8 zr)]) ++ [(q4, cA cI 8 zr)]) ++ [(q5, cA cI 8 zr)]) ++ [(q6, cA cI 7 zr)]) ++ [(q7, cA cI 96 zr)]) ++ [(q8, cA cI 49 zr)]) ++ [(q9, cA cI 49 zr)]) ++ [(q10, cA cI 98 zr)]) ++ [(q11, cA cI 49 zr)])) rfl ?_
  refine jw_aload (i := 0) 0 (by decide +kernel) rfl ?_
  refine jw_bip (n := 49) (v := zI 49) (by decide +kernel) rfl ?_
  refine jw_newa (N := 49) (inW0 (i := 66) rfl rfl) (by decide +kernel) (by decide +kernel) (Nat.le_of_ble_eq_true rfl) (by decide +kernel) (Nat.le_of_ble_eq_true rfl) (Nat.le_of_ble_eq_true rfl) (fun q12 => ?_)
  refine jw_putF (idx := 43) (q0 := 0) (sl := 21) (N := 33) (C := RX7) (T := TX7) (ty := tyX7 21) rfl rfl (Nat.le_of_ble_eq_true rfl) (inW3 (i := 21) rfl rfl) rfl rfl rfl (tyX7_ok 21 (Nat.le_of_ble_eq_true rfl)) rfl rfl (Nat.le_of_ble_eq_true rfl) (by decide +kernel) ?_
  refine jw_ws (ws' := (h0, .inr (7, [.ref q1, .int (zI 0), .int (zI 0), .int (zI 0), .ref q2, .ref q3, .ref q4, .ref q5, .int (zI 0), .int (zI 0), .int (zI 0), .ref q6, .ref q7, .int (zI 0), .int (zI 0), .int (zI 0), .int (zI 0), .ref q8, .ref q9, .ref q10, .ref q11, .ref q12, .int (zI 0), .int (zI 0), .int (zI 0), .null, .null, .null, .int (zI 0), .null, .int (zI 0), .null, .int (zI 0)])) :: ((((((((((([(q1, cA cI 12 zr)] ++ [(q2, cA cI 8 zr)]) ++ [(q3, cA cI 8 zr)]) ++ [(q4, cA cI 8 zr)]) ++ [(q5, cA cI 8 zr)]) ++ [(q6, cA cI 7 zr)]) ++ [(q7, cA cI 96 zr)]) ++ [(q8, cA cI 49 zr)]) ++ [(q9, cA cI 49 zr)]) ++ [(q10, cA cI 98 zr)]) ++ [(q11, cA cI 49 zr)]) ++ [(q12, cA cI 49 zr)])) rfl ?_
  refine jw_aload (i := 0) 0 (by decide +kernel) rfl ?_
  refine jw_sip (n := 392) (v := zI 392) (by decide +kernel) rfl ?_
  refine jw_newa (N := 392) (inW0 (i := 66) rfl rfl) (by decide +kernel) (by decide +kernel) (Nat.le_of_ble_eq_true rfl) (by decide +kernel) (Nat.le_of_ble_eq_true rfl) (Nat.le_of_ble_eq_true rfl) (fun q13 => ?_)
  refine jw_putF (idx := 46) (q0 := 0) (sl := 26) (N := 33) (C := RX7) (T := TX7) (ty := tyX7 26) rfl rfl (Nat.le_of_ble_eq_true rfl) (inW3 (i := 26) rfl rfl) rfl rfl rfl (tyX7_ok 26 (Nat.le_of_ble_eq_true rfl)) rfl rfl (Nat.le_of_ble_eq_true rfl) (by decide +kernel) ?_
  refine jw_ws (ws' := (h0, .inr (7, [.ref q1, .int (zI 0), .int (zI 0), .int (zI 0), .ref q2, .ref q3, .ref q4, .ref q5, .int (zI 0), .int (zI 0), .int (zI 0), .ref q6, .ref q7, .int (zI 0), .int (zI 0), .int (zI 0), .int (zI 0), .ref q8, .ref q9, .ref q10, .ref q11, .ref q12, .int (zI 0), .int (zI 0), .int (zI 0), .null, .ref q13, .null, .int (zI 0), .null, .int (zI 0), .null, .int (zI 0)])) :: (((((((((((([(q1, cA cI 12 zr)] ++ [(q2, cA cI 8 zr)]) ++ [(q3, cA cI 8 zr)]) ++ [(q4, cA cI 8 zr)]) ++ [(q5, cA cI 8 zr)]) ++ [(q6, cA cI 7 zr)]) ++ [(q7, cA cI 96 zr)]) ++ [(q8, cA cI 49 zr)]) ++ [(q9, cA cI 49 zr)]) ++ [(q10, cA cI 98 zr)]) ++ [(q11, cA cI 49 zr)]) ++ [(q12, cA cI 49 zr)]) ++ [(q13, cA cI 392 zr)])) rfl ?_
  refine jw_aload (i := 0) 0 (by decide +kernel) rfl ?_
  refine jw_bip (n := 49) (v := zI 49) (by decide +kernel) rfl ?_
  refine jw_newa (N := 49) (inW0 (i := 66) rfl rfl) (by decide +kernel) (by decide +kernel) (Nat.le_of_ble_eq_true rfl) (by decide +kernel) (Nat.le_of_ble_eq_true rfl) (Nat.le_of_ble_eq_true rfl) (fun q14 => ?_)
  refine jw_putF (idx := 49) (q0 := 0) (sl := 27) (N := 33) (C := RX7) (T := TX7) (ty := tyX7 27) rfl rfl (Nat.le_of_ble_eq_true rfl) (inW3 (i := 27) rfl rfl) rfl rfl rfl (tyX7_ok 27 (Nat.le_of_ble_eq_true rfl)) rfl rfl (Nat.le_of_ble_eq_true rfl) (by decide +kernel) ?_
  refine jw_ws (ws' := (h0, .inr (7, [.ref q1, .int (zI 0), .int (zI 0), .int (zI 0), .ref q2, .ref q3, .ref q4, .ref q5, .int (zI 0), .int (zI 0), .int (zI 0), .ref q6, .ref q7, .int (zI 0), .int (zI 0), .int (zI 0), .int (zI 0), .ref q8, .ref q9, .ref q10, .ref q11, .ref q12, .int (zI 0), .int (zI 0), .int (zI 0), .null, .ref q13, .ref q14, .int (zI 0), .null, .int (zI 0), .null, .int (zI 0)])) :: ((((((((((((([(q1, cA cI 12 zr)] ++ [(q2, cA cI 8 zr)]) ++ [(q3, cA cI 8 zr)]) ++ [(q4, cA cI 8 zr)]) ++ [(q5, cA cI 8 zr)]) ++ [(q6, cA cI 7 zr)]) ++ [(q7, cA cI 96 zr)]) ++ [(q8, cA cI 49 zr)]) ++ [(q9, cA cI 49 zr)]) ++ [(q10, cA cI 98 zr)]) ++ [(q11, cA cI 49 zr)]) ++ [(q12, cA cI 49 zr)]) ++ [(q13, cA cI 392 zr)]) ++ [(q14, cA cI 49 zr)])) rfl ?_
  refine jw_aload (i := 0) 0 (by decide +kernel) rfl ?_
  refine jw_bip (n := 12) (v := zI 12) (by decide +kernel) rfl ?_
  refine jw_newa (N := 12) (inW0 (i := 66) rfl rfl) (by decide +kernel) (by decide +kernel) (Nat.le_of_ble_eq_true rfl) (by decide +kernel) (Nat.le_of_ble_eq_true rfl) (Nat.le_of_ble_eq_true rfl) (fun q15 => ?_)
  refine jw_putF (idx := 52) (q0 := 0) (sl := 29) (N := 33) (C := RX7) (T := TX7) (ty := tyX7 29) rfl rfl (Nat.le_of_ble_eq_true rfl) (inW3 (i := 29) rfl rfl) rfl rfl rfl (tyX7_ok 29 (Nat.le_of_ble_eq_true rfl)) rfl rfl (Nat.le_of_ble_eq_true rfl) (by decide +kernel) ?_
  refine jw_ws (ws' := (h0, .inr (7, [.ref q1, .int (zI 0), .int (zI 0), .int (zI 0), .ref q2, .ref q3, .ref q4, .ref q5, .int (zI 0), .int (zI 0), .int (zI 0), .ref q6, .ref q7, .int (zI 0), .int (zI 0), .int (zI 0), .int (zI 0), .ref q8, .ref q9, .ref q10, .ref q11, .ref q12, .int (zI 0), .int (zI 0), .int (zI 0), .null, .ref q13, .ref q14, .int (zI 0), .ref q15, .int (zI 0), .null, .int (zI 0)])) :: (((((((((((((([(q1, cA cI 12 zr)] ++ [(q2, cA cI 8 zr)]) ++ [(q3, cA cI 8 zr)]) ++ [(q4, cA cI 8 zr)]) ++ [(q5, cA cI 8 zr)]) ++ [(q6, cA cI 7 zr)]) ++ [(q7, cA cI 96 zr)]) ++ [(q8, cA cI 49 zr)]) ++ [(q9, cA cI 49 zr)]) ++ [(q10, cA cI 98 zr)]) ++ [(q11, cA cI 49 zr)]) ++ [(q12, cA cI 49 zr)]) ++ [(q13, cA cI 392 zr)]) ++ [(q14, cA cI 49 zr)]) ++ [(q15, cA cI 12 zr)])) rfl ?_
  refine jw_aload (i := 0) 0 (by decide +kernel) rfl ?_
  refine jw_bip (n := 8) (v := zI 8) (by decide +kernel) rfl ?_
  refine jw_newa (N := 8) (inW0 (i := 66) rfl rfl) (by decide +kernel) (by decide +kernel) (Nat.le_of_ble_eq_true rfl) (by decide +kernel) (Nat.le_of_ble_eq_true rfl) (Nat.le_of_ble_eq_true rfl) (fun q16 => ?_)
  refine jw_putF (idx := 55) (q0 := 0) (sl := 31) (N := 33) (C := RX7) (T := TX7) (ty := tyX7 31) rfl rfl (Nat.le_of_ble_eq_true rfl) (inW3 (i := 31) rfl rfl) rfl rfl rfl (tyX7_ok 31 (Nat.le_of_ble_eq_true rfl)) rfl rfl (Nat.le_of_ble_eq_true rfl) (by decide +kernel) ?_
  refine jw_ws (ws' := (h0, .inr (7, [.ref q1, .int (zI 0), .int (zI 0), .int (zI 0), .ref q2, .ref q3, .ref q4, .ref q5, .int (zI 0), .int (zI 0), .int (zI 0), .ref q6, .ref q7, .int (zI 0), .int (zI 0), .int (zI 0), .int (zI 0), .ref q8, .ref q9, .ref q10, .ref q11, .ref q12, .int (zI 0), .int (zI 0), .int (zI 0), .null, .ref q13, .ref q14, .int (zI 0), .ref q15, .int (zI 0), .ref q16, .int (zI 0)])) :: ((((((((((((((([(q1, cA cI 12 zr)] ++ [(q2, cA cI 8 zr)]) ++ [(q3, cA cI 8 zr)]) ++ [(q4, cA cI 8 zr)]) ++ [(q5, cA cI 8 zr)]) ++ [(q6, cA cI 7 zr)]) ++ [(q7, cA cI 96 zr)]) ++ [(q8, cA cI 49 zr)]) ++ [(q9, cA cI 49 zr)]) ++ [(q10, cA cI 98 zr)]) ++ [(q11, cA cI 49 zr)]) ++ [(q12, cA cI 49 zr)]) ++ [(q13, cA cI 392 zr)]) ++ [(q14, cA cI 49 zr)]) ++ [(q15, cA cI 12 zr)]) ++ [(q16, cA cI 8 zr)])) rfl ?_
  refine jw_aload (i := 0) 0 (by decide +kernel) rfl ?_
  refine jw_icn (n := 0) (v := zI 0) (by decide +kernel) rfl ?_
  refine jw_put (idx := 58) (q0 := 0) (sl := 10) (N := 33) (C := RX7) (T := TX7) (ty := tyX7 10) rfl rfl (Nat.le_of_ble_eq_true rfl) (inW3 (i := 10) rfl rfl) rfl rfl (tyX7_ok 10 (Nat.le_of_ble_eq_true rfl)) rfl rfl (Nat.le_of_ble_eq_true rfl) (by decide +kernel) ?_
  refine jw_ws (ws' := (h0, .inr (7, [.ref q1, .int (zI 0), .int (zI 0), .int (zI 0), .ref q2, .ref q3, .ref q4, .ref q5, .int (zI 0), .int (zI 0), .int (zI 0), .ref q6, .ref q7, .int (zI 0), .int (zI 0), .int (zI 0), .int (zI 0), .ref q8, .ref q9, .ref q10, .ref q11, .ref q12, .int (zI 0), .int (zI 0), .int (zI 0), .null, .ref q13, .ref q14, .int (zI 0), .ref q15, .int (zI 0), .ref q16, .int (zI 0)])) :: ((((((((((((((([(q1, cA cI 12 zr)] ++ [(q2, cA cI 8 zr)]) ++ [(q3, cA cI 8 zr)]) ++ [(q4, cA cI 8 zr)]) ++ [(q5, cA cI 8 zr)]) ++ [(q6, cA cI 7 zr)]) ++ [(q7, cA cI 96 zr)]) ++ [(q8, cA cI 49 zr)]) ++ [(q9, cA cI 49 zr)]) ++ [(q10, cA cI 98 zr)]) ++ [(q11, cA cI 49 zr)]) ++ [(q12, cA cI 49 zr)]) ++ [(q13, cA cI 392 zr)]) ++ [(q14, cA cI 49 zr)]) ++ [(q15, cA cI 12 zr)]) ++ [(q16, cA cI 8 zr)])) rfl ?_
  refine jw_aload (i := 0) 0 (by decide +kernel) rfl ?_
  refine jw_bip (n := 12) (v := zI 12) (by decide +kernel) rfl ?_
  refine jw_put (idx := 62) (q0 := 0) (sl := 2) (N := 33) (C := RX7) (T := TX7) (ty := tyX7 2) rfl rfl (Nat.le_of_ble_eq_true rfl) (inW3 (i := 2) rfl rfl) rfl rfl (tyX7_ok 2 (Nat.le_of_ble_eq_true rfl)) rfl rfl (Nat.le_of_ble_eq_true rfl) (by decide +kernel) ?_
  refine jw_ws (ws' := (h0, .inr (7, [.ref q1, .int (zI 0), .int (zI 12), .int (zI 0), .ref q2, .ref q3, .ref q4, .ref q5, .int (zI 0), .int (zI 0), .int (zI 0), .ref q6, .ref q7, .int (zI 0), .int (zI 0), .int (zI 0), .int (zI 0), .ref q8, .ref q9, .ref q10, .ref q11, .ref q12, .int (zI 0), .int (zI 0), .int (zI 0), .null, .ref q13, .ref q14, .int (zI 0), .ref q15, .int (zI 0), .ref q16, .int (zI 0)])) :: ((((((((((((((([(q1, cA cI 12 zr)] ++ [(q2, cA cI 8 zr)]) ++ [(q3, cA cI 8 zr)]) ++ [(q4, cA cI 8 zr)]) ++ [(q5, cA cI 8 zr)]) ++ [(q6, cA cI 7 zr)]) ++ [(q7, cA cI 96 zr)]) ++ [(q8, cA cI 49 zr)]) ++ [(q9, cA cI 49 zr)]) ++ [(q10, cA cI 98 zr)]) ++ [(q11, cA cI 49 zr)]) ++ [(q12, cA cI 49 zr)]) ++ [(q13, cA cI 392 zr)]) ++ [(q14, cA cI 49 zr)]) ++ [(q15, cA cI 12 zr)]) ++ [(q16, cA cI 8 zr)])) rfl ?_
  refine jw_icn (n := 0) (v := zI 0) (by decide +kernel) rfl ?_
  refine jw_istore (i := 1) (lv' := [(1, .int (zI 0)), (0, .ref h0)]) (by decide +kernel) (Nat.le_of_ble_eq_true rfl) rfl ?_
  have loop : ∀ n i : Nat, i + n = 12 → JW cI cR M_M_init (rmC 1 16 902) (Sh7 h0 cI cR) 146 [(1, .int (zI (i : Int))), (0, .ref h0)] [] ((h0, .inr (7, [.ref q1, .int (zI 0), .int (zI 12), .int (zI 0), .ref q2, .ref q3, .ref q4, .ref q5, .int (zI 0), .int (zI 0), .int (zI 0), .ref q6, .ref q7, .int (zI 0), .int (zI 0), .int (zI 0), .int (zI 0), .ref q8, .ref q9, .ref q10, .ref q11, .ref q12, .int (zI 0), .int (zI 0), .int (zI 0), .null, .ref q13, .ref q14, .int (zI 0), .ref q15, .int (zI 0), .ref q16, .int (zI 0)])) :: ((((((((((((((([(q1, cA cI 12 (onesF i))] ++ [(q2, cA cI 8 zr)]) ++ [(q3, cA cI 8 zr)]) ++ [(q4, cA cI 8 zr)]) ++ [(q5, cA cI 8 zr)]) ++ [(q6, cA cI 7 zr)]) ++ [(q7, cA cI 96 zr)]) ++ [(q8, cA cI 49 zr)]) ++ [(q9, cA cI 49 zr)]) ++ [(q10, cA cI 98 zr)]) ++ [(q11, cA cI 49 zr)]) ++ [(q12, cA cI 49 zr)]) ++ [(q13, cA cI 392 zr)]) ++ [(q14, cA cI 49 zr)]) ++ [(q15, cA cI 12 zr)]) ++ [(q16, cA cI 8 zr)])) 16 902 := by
    intro n
    induction n with
    | zero =>
      intro i hi
      have e : i = 12 := by omega
      subst e
      refine jw_iload (i := 1) 0 (by decide +kernel) rfl ?_
      refine jw_bip (n := 12) (v := 12) (by decide +kernel) rfl ?_
      refine jw_ge (off := 16) (tgt := 165) (by decide +kernel) rfl (fun _ => ?_) (fun q => absurd ((le_zI (z := 12) rfl (by omega)).mpr (Nat.le_refl 12)) q)
      exact jw_ret rfl (⟨q1, q2, q3, q4, q5, q6, q7, q8, q9, q10, q11, q12, q13, q14, q15, q16, rfl⟩) (Nat.le_of_ble_eq_true rfl) (Nat.le_of_ble_eq_true rfl) (by decide +kernel)
    | succ n ih =>
      intro i hi
      have step := ih (i + 1) (by omega)
      rw [← ones_up] at step
      refine jw_iload (i := 1) 0 (by decide +kernel) rfl ?_
      refine jw_bip (n := 12) (v := 12) (by decide +kernel) rfl ?_
      refine jw_ge (off := 16) (tgt := 165) (by decide +kernel) rfl (fun q => absurd ((le_zI (z := 12) rfl (by omega)).mp q) (by omega)) (fun _ => ?_)
      refine jw_aload (i := 0) 1 (by decide +kernel) rfl ?_
      refine jw_get (idx := 7) (q0 := 0) (sl := 0) (N := 33) (C := RX7) (T := TX7) rfl rfl (Nat.le_of_ble_eq_true rfl) (inW3 (i := 0) rfl rfl) rfl rfl (by decide +kernel) ?_
      refine jw_iload (i := 1) 0 (by decide +kernel) rfl ?_
      refine jw_icn (n := 1) (v := zI 1) (by decide +kernel) rfl ?_
      refine jw_iast (q0 := 1) (n := 12) (f := onesF i) rfl (vp_inC (by omega) (by omega)) (by decide +kernel) ?_
      rw [tnc (by omega)]
      refine jw_iinc (i := 1) (n := 1) (k := 0) (v := zI ((i + 1 : Nat) : Int)) (lv' := [(1, .int (zI ((i + 1 : Nat) : Int))), (0, .ref h0)]) (by decide +kernel) rfl (zI_add _ _) (Nat.le_of_ble_eq_true rfl) rfl ?_
      refine jw_goto (off := -16) (tgt := 146) (by decide +kernel) rfl ?_
      exact step
  have l0 := loop 12 0 rfl
  rw [ones_0] at l0
  exact l0
