/-! ===== the realm in mind: slot q (1 the object's, 11 the counsel's, 12 the chances') ===== -/
section C6
variable {rs : Nat → RR} {pi : Nat → Nat} {psz : Int} {lt : Nat → Int} {lsz : Int} {tn : Nat → Int} {tsz : Int} {g1 g2 : Nat → Int} {sd : Int} {rf : Nat → Int} {im : Int} {hM : AH} {Q : Option Value → AH → Prop} {A : RR}
abbrev mq (q : Nat) : Prop := 0 < q ∧ q < 13
theorem conM_become {q : Nat} (hq : mq q) (hQ : Q none (HX (upR rs q (rs 0)) pi psz lt lsz tn tsz g1 g2 sd rf im hM)) : Con M_Re_become [.ref (6 * q), .ref 0] (HX (upR rs q A) pi psz lt lsz tn tsz g1 g2 sd rf im hM) Q := by
  refine conX_become (i := q) (j := 0) hq.2 (by omega) (by omega) ?_
  rw [upR_up, upR_n _ _ (by omega)]
  exact hQ
theorem conM_of {q : Nat} (hq : mq q) {Y : MD} {as : List Value} (H : Con Y as (setR (HX (upR rs q A) pi psz lt lsz tn tsz g1 g2 sd rf im hM) (6 * q) A) Q) : Con Y as (HX (upR rs q A) pi psz lt lsz tn tsz g1 g2 sd rf im hM) Q := by
  refine conX_at (i := q) hq.2 ?_
  rw [upR_s]
  exact H
theorem conM_back {q : Nat} (hq : mq q) {B : RR} : setR (HX (upR rs q A) pi psz lt lsz tn tsz g1 g2 sd rf im hM) (6 * q) B = (HX (upR rs q B) pi psz lt lsz tn tsz g1 g2 sd rf im hM) := by
  rw [hX_set hq.2, upR_up]
theorem conM_passDays {q n : Nat} (hq : mq q) (hn : n ≤ 100) (hG : GR A) (hQ : Q (some (.int (zI (wtX A n)))) (HX (upR rs q (daysX A n)) pi psz lt lsz tn tsz g1 g2 sd rf im hM)) : Con M_Re_passDays [.ref (6 * q), .int (zI n)] (HX (upR rs q A) pi psz lt lsz tn tsz g1 g2 sd rf im hM) Q := by
  refine conM_of hq (con_passDays hn hG ?_)
  rw [conM_back hq]
  exact hQ
theorem conM_waits {q : Nat} (hq : mq q) (hG : GR A) (hQ : Q (some (.int (zI (b2i (waitX A))))) (HX (upR rs q (dayX A)) pi psz lt lsz tn tsz g1 g2 sd rf im hM)) : Con M_Re_waitsOneDay [.ref (6 * q)] (HX (upR rs q A) pi psz lt lsz tn tsz g1 g2 sd rf im hM) Q := by
  refine conM_of hq (con_waitsOneDay hG ?_)
  rw [conM_back hq]
  exact hQ
theorem conM_isHome {q : Nat} (hq : mq q) (hG : GR A) (h1 : rKing A = 12 → Q (some (.int (zI 1))) (HX (upR rs q A) pi psz lt lsz tn tsz g1 g2 sd rf im hM)) (h0 : ¬ rKing A = 12 → Q (some (.int (zI 0))) (HX (upR rs q A) pi psz lt lsz tn tsz g1 g2 sd rf im hM)) : Con M_Re_isHome [.ref (6 * q)] (HX (upR rs q A) pi psz lt lsz tn tsz g1 g2 sd rf im hM) Q := by
  refine conM_of hq (con_isHome hG (fun c => ?_) (fun c => ?_))
  · rw [conM_back hq]
    exact h1 c
  · rw [conM_back hq]
    exact h0 c
theorem conM_fateOf {q : Nat} {m : Int} (hq : mq q) (hm : inI m) (hG : GR A) (h1 : hasP A m → Q (some (.int (zI (rFa A m.toNat)))) (HX (upR rs q A) pi psz lt lsz tn tsz g1 g2 sd rf im hM)) (h0 : ¬ hasP A m → Q (some (.int (zI (-9)))) (HX (upR rs q A) pi psz lt lsz tn tsz g1 g2 sd rf im hM)) : Con M_Re_fateOf [.ref (6 * q), .int (zI m)] (HX (upR rs q A) pi psz lt lsz tn tsz g1 g2 sd rf im hM) Q := by
  refine conM_of hq (con_fateOf hm hG (fun c => ?_) (fun c => ?_))
  · rw [conM_back hq]
    exact h1 c
  · rw [conM_back hq]
    exact h0 c
theorem conM_wornOf {q : Nat} {m : Int} (hq : mq q) (hm : inI m) (hG : GR A) (h1 : hasP A m → Q (some (.int (zI (rWo A m.toNat)))) (HX (upR rs q A) pi psz lt lsz tn tsz g1 g2 sd rf im hM)) (h0 : ¬ hasP A m → Q (some (.int (zI (-9)))) (HX (upR rs q A) pi psz lt lsz tn tsz g1 g2 sd rf im hM)) : Con M_Re_wornOf [.ref (6 * q), .int (zI m)] (HX (upR rs q A) pi psz lt lsz tn tsz g1 g2 sd rf im hM) Q := by
  refine conM_of hq (con_wornOf hm hG (fun c => ?_) (fun c => ?_))
  · rw [conM_back hq]
    exact h1 c
  · rw [conM_back hq]
    exact h0 c
theorem conM_makeFate {q : Nat} {m x : Int} (hq : mq q) (hm : inI m) (hG : GR A) (h1 : hasP A m → Q none (HX (upR rs q (sFa A (upI (rFa A) m.toNat x))) pi psz lt lsz tn tsz g1 g2 sd rf im hM)) (h0 : ¬ hasP A m → Q none (HX (upR rs q A) pi psz lt lsz tn tsz g1 g2 sd rf im hM)) : Con M_Re_makeFate [.ref (6 * q), .int (zI m), .int (zI x)] (HX (upR rs q A) pi psz lt lsz tn tsz g1 g2 sd rf im hM) Q := by
  refine conM_of hq (con_makeFate hm hG (fun c => ?_) (fun c => ?_))
  · rw [conM_back hq]
    exact h1 c
  · rw [conM_back hq]
    exact h0 c
theorem conM_makeKind {q : Nat} {m x : Int} (hq : mq q) (hm : inI m) (hG : GR A) (h1 : hasP A m → Q none (HX (upR rs q (sKi A (upI (rKi A) m.toNat x))) pi psz lt lsz tn tsz g1 g2 sd rf im hM)) (h0 : ¬ hasP A m → Q none (HX (upR rs q A) pi psz lt lsz tn tsz g1 g2 sd rf im hM)) : Con M_Re_makeKind [.ref (6 * q), .int (zI m), .int (zI x)] (HX (upR rs q A) pi psz lt lsz tn tsz g1 g2 sd rf im hM) Q := by
  refine conM_of hq (con_makeKind hm hG (fun c => ?_) (fun c => ?_))
  · rw [conM_back hq]
    exact h1 c
  · rw [conM_back hq]
    exact h0 c
theorem conM_makeFigure {q : Nat} {m x : Int} (hq : mq q) (hm : inI m) (hG : GR A) (h1 : hasP A m → Q none (HX (upR rs q (sFi A (upI (rFi A) m.toNat x))) pi psz lt lsz tn tsz g1 g2 sd rf im hM)) (h0 : ¬ hasP A m → Q none (HX (upR rs q A) pi psz lt lsz tn tsz g1 g2 sd rf im hM)) : Con M_Re_makeFigure [.ref (6 * q), .int (zI m), .int (zI x)] (HX (upR rs q A) pi psz lt lsz tn tsz g1 g2 sd rf im hM) Q := by
  refine conM_of hq (con_makeFigure hm hG (fun c => ?_) (fun c => ?_))
  · rw [conM_back hq]
    exact h1 c
  · rw [conM_back hq]
    exact h0 c
theorem conM_levels {q : Nat} {s v : Int} (hq : mq q) (hs : inI s) (h1 : 0 ≤ s ∧ s < 12 → Q (some (.int (zI 1))) (HX (upR rs q (sSl A (upI (rSl A) s.toNat v))) pi psz lt lsz tn tsz g1 g2 sd rf im hM)) (h0 : ¬ (0 ≤ s ∧ s < 12) → Q (some (.int (zI 0))) (HX (upR rs q A) pi psz lt lsz tn tsz g1 g2 sd rf im hM)) : Con M_Re_levels [.ref (6 * q), .int (zI s), .int (zI v)] (HX (upR rs q A) pi psz lt lsz tn tsz g1 g2 sd rf im hM) Q := by
  refine conM_of hq (con_levels hs (fun c => ?_) (fun c => ?_))
  · rw [conM_back hq]
    exact h1 c
  · rw [conM_back hq]
    exact h0 c
theorem conM_menWhoAre {q : Nat} {w : Int} (hq : mq q) (hw : inI w) (hG : GR A) (hQ : Q (some (.int (zI (mask (isF A w) (nMen A) : Nat)))) (HX (upR rs q A) pi psz lt lsz tn tsz g1 g2 sd rf im hM)) : Con M_Re_menWhoAre [.ref (6 * q), .int (zI w)] (HX (upR rs q A) pi psz lt lsz tn tsz g1 g2 sd rf im hM) Q := by
  refine conM_of hq (con_menWhoAre hw hG ?_)
  rw [conM_back hq]
  exact hQ
theorem conM_snowMore {q : Nat} {v : Int} (hq : mq q) (hv : 0 ≤ v ∧ v ≤ 9) (hG : GR A) (hQ : Q none (HX (upR rs q (sSnow A (min 9 (rSnow A + v)))) pi psz lt lsz tn tsz g1 g2 sd rf im hM)) : Con M_Re_snowMore [.ref (6 * q), .int (zI v)] (HX (upR rs q A) pi psz lt lsz tn tsz g1 g2 sd rf im hM) Q := by
  refine conM_of hq (con_snowMore hv hG ?_)
  rw [conM_back hq]
  exact hQ
/-- of the realm that is -/
theorem conN_of {Y : MD} {as : List Value} (H : Con Y as (setR (HX rs pi psz lt lsz tn tsz g1 g2 sd rf im hM) (6 * 0) (rs 0)) Q) : Con Y as (HX rs pi psz lt lsz tn tsz g1 g2 sd rf im hM) Q := conX_at (i := 0) (by omega) H
theorem conN_back : setR (HX rs pi psz lt lsz tn tsz g1 g2 sd rf im hM) (6 * 0) (rs 0) = (HX rs pi psz lt lsz tn tsz g1 g2 sd rf im hM) := hX_get (by omega)
theorem conN_fateOf {m : Int} (hm : inI m) (hG : GR (rs 0)) (h1 : hasP (rs 0) m → Q (some (.int (zI (rFa (rs 0) m.toNat)))) (HX rs pi psz lt lsz tn tsz g1 g2 sd rf im hM)) (h0 : ¬ hasP (rs 0) m → Q (some (.int (zI (-9)))) (HX rs pi psz lt lsz tn tsz g1 g2 sd rf im hM)) : Con M_Re_fateOf [.ref 0, .int (zI m)] (HX rs pi psz lt lsz tn tsz g1 g2 sd rf im hM) Q := by
  refine conN_of (con_fateOf (r := 6 * 0) hm hG (fun c => ?_) (fun c => ?_))
  · rw [conN_back]
    exact h1 c
  · rw [conN_back]
    exact h0 c
theorem conMN_fateOf {q : Nat} {m : Int} (hq : mq q) (hm : inI m) (hG : GR (rs 0)) (h1 : hasP (rs 0) m → Q (some (.int (zI (rFa (rs 0) m.toNat)))) (HX (upR rs q A) pi psz lt lsz tn tsz g1 g2 sd rf im hM)) (h0 : ¬ hasP (rs 0) m → Q (some (.int (zI (-9)))) (HX (upR rs q A) pi psz lt lsz tn tsz g1 g2 sd rf im hM)) : Con M_Re_fateOf [.ref 0, .int (zI m)] (HX (upR rs q A) pi psz lt lsz tn tsz g1 g2 sd rf im hM) Q := by
  have e : upR rs q A 0 = rs 0 := upR_n _ _ (by omega)
  refine conN_fateOf hm (by rw [e]; exact hG) (fun c => ?_) (fun c => ?_)
  · rw [e] at c ⊢
    exact h1 c
  · rw [e] at c
    exact h0 c
theorem conN_menWhoAre {w : Int} (hw : inI w) (hG : GR (rs 0)) (hQ : Q (some (.int (zI (mask (isF (rs 0) w) (nMen (rs 0)) : Nat)))) (HX rs pi psz lt lsz tn tsz g1 g2 sd rf im hM)) : Con M_Re_menWhoAre [.ref 0, .int (zI w)] (HX rs pi psz lt lsz tn tsz g1 g2 sd rf im hM) Q := by
  refine conN_of (con_menWhoAre (r := 6 * 0) hw hG ?_)
  rw [conN_back]
  exact hQ
theorem conN_strengthOf {b : Nat} (hb : b < 256) (hG : GR (rs 0)) (hQ : Q (some (.int (zI (stN (rs 0) b 8)))) (HX rs pi psz lt lsz tn tsz g1 g2 sd rf im hM)) : Con M_Re_strengthOf [.ref 0, .int (zI b)] (HX rs pi psz lt lsz tn tsz g1 g2 sd rf im hM) Q := by
  refine conN_of (con_strengthOf (r := 6 * 0) hb hG ?_)
  rw [conN_back]
  exact hQ
theorem conN_needed (hG : GR (rs 0)) (hQ : Q (some (.int (zI (needed (rs 0))))) (HX rs pi psz lt lsz tn tsz g1 g2 sd rf im hM)) : Con M_Re_needed [.ref 0] (HX rs pi psz lt lsz tn tsz g1 g2 sd rf im hM) Q := by
  refine conN_of (con_needed (r := 6 * 0) hG ?_)
  rw [conN_back]
  exact hQ
end C6
/-! counts of bits -/
def pop8 (b : Nat) : Nat := (if b.testBit 0 then 1 else 0) + (if b.testBit 1 then 1 else 0) + (if b.testBit 2 then 1 else 0) + (if b.testBit 3 then 1 else 0) + (if b.testBit 4 then 1 else 0) + (if b.testBit 5 then 1 else 0) + (if b.testBit 6 then 1 else 0) + (if b.testBit 7 then 1 else 0)
theorem pop8_le (b : Nat) : pop8 b ≤ 8 := by
  simp only [pop8]
  repeat' split
  all_goals omega
def bcF (x : Int32) : Int32 :=
  let a := x - ((x.toUInt32 >>> ((zI 1).toUInt32 &&& Int32.toUInt32 31)).toInt32 &&& zI 1431655765)
  let b := (a &&& zI 858993459) + ((a.toUInt32 >>> ((zI 2).toUInt32 &&& Int32.toUInt32 31)).toInt32 &&& zI 858993459)
  let c := (b + (b.toUInt32 >>> ((zI 4).toUInt32 &&& Int32.toUInt32 31)).toInt32) &&& zI 252645135
  let d := c + (c.toUInt32 >>> ((zI 8).toUInt32 &&& Int32.toUInt32 31)).toInt32
  let e := d + (d.toUInt32 >>> ((zI 16).toUInt32 &&& Int32.toUInt32 31)).toInt32
  e &&& zI 63
theorem bcF_pop : ∀ b : Fin 256, bcF (zI ((b.val : Nat) : Int)) = zI ((pop8 b.val : Nat) : Int) := by decide +kernel
theorem con_bitCount {b : Nat} {h : AH} {Q : Option Value → AH → Prop} (hb : b < 256) (hQ : Q (some (.int (zI (pop8 b : Nat)))) h) : Con M_In_bitCount [.int (zI b)] h Q := by
  have e := bcF_pop ⟨b, hb⟩
  simp only at e
  rw [← e] at hQ
  generalize zI ((b : Nat) : Int) = x at hQ ⊢
  refine con_of (L := [some (.int (x))]) ok_In_bitCount (Nat.le_of_ble_eq_true rfl) rfl ?_
  refine w_In_bitCount_0 ?_
  simp only [wp_iload, wp_ldc, wp_bipush, wp_iushr, wp_iand, wp_isub, wp_iadd, wp_istore, wp_iret0, kI_i, ldV_0, stL_0]
  exact hQ
