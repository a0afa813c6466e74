/-! ===== Int32 by its bits: bt x i ===== -/
def bt (x : Int32) (i : Nat) : Bool := x.toBitVec.getLsbD i
theorem b_ext {x y : Int32} (h : ∀ i, i < 32 → bt x i = bt y i) : x = y := Int32.toBitVec_inj.mp (BitVec.eq_of_getLsbD_eq (fun i hi => h i hi))
theorem b_or (x y : Int32) (i : Nat) : bt (x ||| y) i = (bt x i || bt y i) := by unfold bt; rw [Int32.toBitVec_or, BitVec.getLsbD_or]
theorem b_and (x y : Int32) (i : Nat) : bt (x &&& y) i = (bt x i && bt y i) := by unfold bt; rw [Int32.toBitVec_and, BitVec.getLsbD_and]
theorem b_xor (x y : Int32) (i : Nat) : bt (x ^^^ y) i = (bt x i ^^ bt y i) := by unfold bt; rw [Int32.toBitVec_xor, BitVec.getLsbD_xor]
theorem b_big {x : Int32} {i : Nat} (h : 32 ≤ i) : bt x i = false := BitVec.getLsbD_of_ge _ _ h
theorem b_255 (i : Nat) : bt 255 i = decide (i < 8) := by
  rcases Nat.lt_or_ge i 32 with h | h
  · exact (by decide +kernel : ∀ i, i < 32 → bt 255 i = decide (i < 8)) i h
  · rw [b_big h, decide_eq_false (by omega)]
theorem b_65535 (i : Nat) : bt 65535 i = decide (i < 16) := by
  rcases Nat.lt_or_ge i 32 with h | h
  · exact (by decide +kernel : ∀ i, i < 32 → bt 65535 i = decide (i < 16)) i h
  · rw [b_big h, decide_eq_false (by omega)]
theorem b_m1 : ∀ i, i < 32 → bt (-1) i = true := by decide +kernel
theorem b_0 (i : Nat) : bt 0 i = false := BitVec.getLsbD_zero
theorem s_l : ∀ n, n < 32 → ((nI n &&& 31).toBitVec.smod 32).toNat = n := by decide +kernel
theorem s_u : ∀ n, n < 32 → (((nI n).toUInt32 &&& Int32.toUInt32 31).toBitVec % 32).toNat = n := by decide +kernel
theorem b_shl (n : Nat) (hn : n < 32) (x : Int32) {i : Nat} (hi : i < 32) : bt (x <<< (nI n &&& 31)) i = (decide (n ≤ i) && bt x (i - n)) := by
  unfold bt
  rw [Int32.toBitVec_shiftLeft]
  show (x.toBitVec <<< ((nI n &&& 31).toBitVec.smod 32).toNat).getLsbD i = _
  rw [s_l n hn, BitVec.getLsbD_shiftLeft]
  rcases Nat.lt_or_ge i n with h | h
  · simp [h, Nat.not_le.mpr h]
  · simp [hi, h, Nat.not_lt.mpr h]
theorem b_ushr (n : Nat) (hn : n < 32) (x : Int32) (i : Nat) : bt ((x.toUInt32 >>> ((nI n).toUInt32 &&& Int32.toUInt32 31)).toInt32) i = bt x (n + i) := by
  show (x.toUInt32 >>> ((nI n).toUInt32 &&& Int32.toUInt32 31)).toBitVec.getLsbD i = x.toUInt32.toBitVec.getLsbD (n + i)
  rw [UInt32.toBitVec_shiftRight]
  show (x.toUInt32.toBitVec >>> (((nI n).toUInt32 &&& Int32.toUInt32 31).toBitVec % 32).toNat).getLsbD i = _
  rw [s_u n hn, BitVec.getLsbD_ushiftRight]
theorem b_sshr (n : Nat) (hn : n < 32) (x : Int32) {i : Nat} (hi : i < 32) : bt (x >>> (nI n &&& 31)) i = if n + i < 32 then bt x (n + i) else bt x 31 := by
  unfold bt
  rw [Int32.toBitVec_shiftRight]
  show (x.toBitVec.sshiftRight ((nI n &&& 31).toBitVec.smod 32).toNat).getLsbD i = _
  rw [s_l n hn, BitVec.getLsbD_sshiftRight, BitVec.msb_eq_getLsbD_last]
  simp [hi]
/-! ===== and the numbers of the class ===== -/
theorem zI_nI (n : Nat) : zI (n : Int) = nI n := by
  apply Int32.toBitVec_inj.mp
  show BitVec.ofInt 32 (n : Int) = BitVec.ofNat 32 n
  exact BitVec.ofInt_natCast 32 n
theorem bt_n (n i : Nat) (hi : i < 32) : bt (zI (n : Int)) i = n.testBit i := by
  rw [zI_nI]
  show (BitVec.ofNat 32 n).getLsbD i = _
  rw [BitVec.getLsbD_ofNat]
  simp [hi]
theorem one_bit (j : Nat) : (1 : Nat).testBit j = decide (j = 0) := by
  have := Nat.testBit_two_pow (n := 0) (m := j)
  simpa [eq_comm] using this
theorem zI_or (a b : Nat) : zI (a : Int) ||| zI (b : Int) = zI ((a ||| b : Nat) : Int) := by
  apply b_ext
  intro i hi
  rw [b_or, bt_n _ _ hi, bt_n _ _ hi, bt_n _ _ hi, Nat.testBit_or]
theorem zI_and (a b : Nat) : zI (a : Int) &&& zI (b : Int) = zI ((a &&& b : Nat) : Int) := by
  apply b_ext
  intro i hi
  rw [b_and, bt_n _ _ hi, bt_n _ _ hi, bt_n _ _ hi, Nat.testBit_and]
theorem zI_xor (a b : Nat) : zI (a : Int) ^^^ zI (b : Int) = zI ((a ^^^ b : Nat) : Int) := by
  apply b_ext
  intro i hi
  rw [b_xor, bt_n _ _ hi, bt_n _ _ hi, bt_n _ _ hi, Nat.testBit_xor]
theorem zI_1 : zI 1 = zI ((1 : Nat) : Int) := rfl
theorem zI_shl1 {i : Int} (h1 : 0 ≤ i) (h2 : i < 31) : zI 1 <<< (zI i &&& 31) = zI ((2 ^ i.toNat : Nat) : Int) := by
  obtain ⟨n, rfl⟩ : ∃ n : Nat, i = n := ⟨i.toNat, by omega⟩
  rw [Int.toNat_natCast]
  apply b_ext
  intro j hj
  rw [bt_n _ _ hj, zI_1, zI_nI n, b_shl n (by omega) _ hj, bt_n _ _ (by omega), Nat.testBit_two_pow]
  by_cases hnj : n ≤ j
  · by_cases e : j = n
    · subst e; simp
    · simp only [hnj, decide_true, Bool.true_and]
      rw [one_bit, decide_eq_false (by omega), decide_eq_false (by omega)]
  · simp only [hnj, decide_false, Bool.false_and]
    simp only [Bool.false_eq, decide_eq_false_iff_not]
    omega
theorem zI_bit {a : Nat} {i : Int} (ha : a < 2147483648) (h1 : 0 ≤ i) (h2 : i < 31) : (zI (a : Int) >>> (zI i &&& 31)) &&& zI 1 = zI (b2i (a.testBit i.toNat)) := by
  obtain ⟨n, rfl⟩ : ∃ n : Nat, i = n := ⟨i.toNat, by omega⟩
  rw [Int.toNat_natCast]
  have e : zI (b2i (a.testBit n)) = zI (((a.testBit n).toNat : Nat) : Int) := by cases a.testBit n <;> rfl
  rw [e]
  apply b_ext
  intro j hj
  rw [b_and, zI_nI n, b_sshr n (by omega) _ hj, zI_1, bt_n 1 j hj, bt_n _ _ hj]
  by_cases hj0 : j = 0
  · subst hj0
    rw [if_pos (by omega), bt_n _ _ (by omega)]
    cases a.testBit n <;> rfl
  · have h3 : (1 : Nat).testBit j = false := by rw [one_bit]; simp [hj0]
    rw [h3, Bool.and_false]
    cases a.testBit n
    · simp
    · show false = (1 : Nat).testBit j
      rw [h3]
def anb (a c : Nat) : Nat := a ^^^ (a &&& c)
theorem anb_bit (a c j : Nat) : (anb a c).testBit j = (a.testBit j && !c.testBit j) := by
  simp only [anb, Nat.testBit_xor, Nat.testBit_and]
  cases a.testBit j <;> cases c.testBit j <;> rfl
theorem zI_anb (a c : Nat) : zI (a : Int) &&& (zI (c : Int) ^^^ zI (-1)) = zI ((anb a c : Nat) : Int) := by
  apply b_ext
  intro j hj
  rw [b_and, b_xor, bt_n _ _ hj, bt_n _ _ hj, bt_n _ _ hj, show zI (-1) = (-1 : Int32) from rfl, b_m1 j hj, anb_bit]
  cases a.testBit j <;> cases c.testBit j <;> rfl
theorem b2i_1 (b : Bool) : (b2i b = 1) = (b = true) := by cases b <;> simp [b2i]
theorem b2i_0 (b : Bool) : (b2i b = 0) = (b = false) := by cases b <;> simp [b2i]
theorem zI_s (i : Nat) : zI ((i : Int) + 1) = zI ((i + 1 : Nat) : Int) := id rfl
/-- the bits of those below n that are so -/
def mask (p : Nat → Bool) : Nat → Nat
  | 0 => 0
  | n + 1 => if p n then mask p n ||| 2 ^ n else mask p n
theorem mask_bit (p : Nat → Bool) (n j : Nat) : (mask p n).testBit j = (decide (j < n) && p j) := by
  induction n with
  | zero => simp [mask]
  | succ n ih =>
    simp only [mask]
    by_cases hp : p n = true
    · rw [if_pos hp, Nat.testBit_or, ih, Nat.testBit_two_pow]
      by_cases e : n = j
      · subst e; simp [hp]
      · by_cases hj : j < n
        · simp [hj, e, show j < n + 1 by omega]
        · simp [hj, e, show ¬ j < n + 1 by omega]
    · rw [if_neg hp, ih]
      by_cases e : j = n
      · subst e; simp [hp]
      · by_cases hj : j < n
        · simp [hj, show j < n + 1 by omega]
        · simp [hj, show ¬ j < n + 1 by omega]
theorem mask_lt (p : Nat → Bool) (n : Nat) : mask p n < 2 ^ n := by
  apply Nat.lt_pow_two_of_testBit
  intro i hi
  rw [mask_bit]
  simp [show ¬ i < n by omega]
theorem mask_256 (p : Nat → Bool) {n : Nat} (hn : n ≤ 8) : mask p n < 256 := Nat.lt_of_lt_of_le (mask_lt p n) (by calc 2 ^ n ≤ 2 ^ 8 := Nat.pow_le_pow_right (by omega) hn
                                                                                                                    _ = 256 := rfl)
theorem mask_t {p : Nat → Bool} {n : Nat} (h : p n = true) : mask p (n + 1) = mask p n ||| 2 ^ n := by simp [mask, h]
theorem mask_f {p : Nat → Bool} {n : Nat} (h : p n = false) : mask p (n + 1) = mask p n := by simp [mask, h]
theorem or_256 {a i : Nat} (ha : a < 256) (hi : i < 8) : a ||| 2 ^ i < 256 := Nat.or_lt_two_pow (n := 8) ha (Nat.pow_lt_pow_right (by omega) hi)
theorem anb_256 {a c : Nat} (ha : a < 256) : anb a c < 256 := Nat.lt_pow_two_of_testBit (n := 8) _ (fun i hi => by
  rw [anb_bit, Nat.testBit_lt_two_pow (Nat.lt_of_lt_of_le ha (Nat.pow_le_pow_right (n := 2) (by omega) hi))]
  rfl)
