/-! ===== the class's object and all that it reaches, by numbers: realm i at 6 i (0 now, 1 mind, 2 image, 3 .. 10 what is kept, 11 the counsel's, 12 the chances'); 78 .. 89 the others ===== -/
def cellX (rs : Nat → RR) (pi : Nat → Nat) (psz : Int) (lt : Nat → Int) (lsz : Int) (tn : Nat → Int) (tsz : Int) (g1 g2 : Nat → Int) (sd : Int) (rf : Nat → Int) (im : Int) (k : Nat) : Option AC :=
  if k = 78 then some (.inr (.inr (6, [.ref 0, .ref 6, .ref 12, .ref 79, .ref 81, .ref 83, .ref 85, .ref 88, .ref 89, .int (zI im)])))
  else if k = 79 then some (.inr (.inr (3, [.ref 80, .int (zI psz)])))
  else if k = 80 then some (.inr (.inl (8, fun j => some (6 * (3 + pi j)))))
  else if k = 81 then some (.inr (.inr (2, [.ref 82, .int (zI lsz)])))
  else if k = 82 then some (.inl (96, fun j => zI (lt j)))
  else if k = 83 then some (.inr (.inr (5, [.ref 84, .int (zI tsz)])))
  else if k = 84 then some (.inl (12, fun j => zI (tn j)))
  else if k = 85 then some (.inr (.inr (1, [.ref 66, .ref 86, .ref 87])))
  else if k = 86 then some (.inl (4, fun j => zI (g1 j)))
  else if k = 87 then some (.inl (4, fun j => zI (g2 j)))
  else if k = 88 then some (.inr (.inr (0, [.ref 72, .int (zI sd)])))
  else if k = 89 then some (.inl (7, fun j => zI (rf j)))
  else setR (fun _ => none) (6 * (k / 6)) (rs (k / 6)) k
def HX (rs : Nat → RR) (pi : Nat → Nat) (psz : Int) (lt : Nat → Int) (lsz : Int) (tn : Nat → Int) (tsz : Int) (g1 g2 : Nat → Int) (sd : Int) (rf : Nat → Int) (im : Int) (hM : AH) : AH := fun k =>
  if k < 90 then cellX rs pi psz lt lsz tn tsz g1 g2 sd rf im k else hM k
def upR (rs : Nat → RR) (i : Nat) (R : RR) : Nat → RR := fun j => if j = i then R else rs j
theorem upR_s (rs : Nat → RR) (i : Nat) (R : RR) : upR rs i R i = R := by simp [upR]
theorem upR_n (rs : Nat → RR) {i j : Nat} (R : RR) (h : j ≠ i) : upR rs i R j = rs j := by simp [upR, h]
section HXS
variable {rs : Nat → RR} {pi : Nat → Nat} {psz : Int} {lt : Nat → Int} {lsz : Int} {tn : Nat → Int} {tsz : Int} {g1 g2 : Nat → Int} {sd : Int} {rf : Nat → Int} {im : Int} {hM : AH}
theorem hX_78 : HX rs pi psz lt lsz tn tsz g1 g2 sd rf im hM 78 = some (.inr (.inr (6, [.ref 0, .ref 6, .ref 12, .ref 79, .ref 81, .ref 83, .ref 85, .ref 88, .ref 89, .int (zI im)]))) := by simp [HX, cellX]
theorem hX_79 : HX rs pi psz lt lsz tn tsz g1 g2 sd rf im hM 79 = some (.inr (.inr (3, [.ref 80, .int (zI psz)]))) := by simp [HX, cellX]
theorem hX_80 : HX rs pi psz lt lsz tn tsz g1 g2 sd rf im hM 80 = some (.inr (.inl (8, fun j => some (6 * (3 + pi j))))) := by simp [HX, cellX]
theorem hX_81 : HX rs pi psz lt lsz tn tsz g1 g2 sd rf im hM 81 = some (.inr (.inr (2, [.ref 82, .int (zI lsz)]))) := by simp [HX, cellX]
theorem hX_82 : HX rs pi psz lt lsz tn tsz g1 g2 sd rf im hM 82 = some (.inl (96, fun j => zI (lt j))) := by simp [HX, cellX]
theorem hX_83 : HX rs pi psz lt lsz tn tsz g1 g2 sd rf im hM 83 = some (.inr (.inr (5, [.ref 84, .int (zI tsz)]))) := by simp [HX, cellX]
theorem hX_84 : HX rs pi psz lt lsz tn tsz g1 g2 sd rf im hM 84 = some (.inl (12, fun j => zI (tn j))) := by simp [HX, cellX]
theorem hX_85 : HX rs pi psz lt lsz tn tsz g1 g2 sd rf im hM 85 = some (.inr (.inr (1, [.ref 66, .ref 86, .ref 87]))) := by simp [HX, cellX]
theorem hX_86 : HX rs pi psz lt lsz tn tsz g1 g2 sd rf im hM 86 = some (.inl (4, fun j => zI (g1 j))) := by simp [HX, cellX]
theorem hX_87 : HX rs pi psz lt lsz tn tsz g1 g2 sd rf im hM 87 = some (.inl (4, fun j => zI (g2 j))) := by simp [HX, cellX]
theorem hX_88 : HX rs pi psz lt lsz tn tsz g1 g2 sd rf im hM 88 = some (.inr (.inr (0, [.ref 72, .int (zI sd)]))) := by simp [HX, cellX]
theorem hX_89 : HX rs pi psz lt lsz tn tsz g1 g2 sd rf im hM 89 = some (.inl (7, fun j => zI (rf j))) := by simp [HX, cellX]
theorem hX_R {i j : Nat} (hi : i < 13) (hj : j < 6) : HX rs pi psz lt lsz tn tsz g1 g2 sd rf im hM (6 * i + j) = setR (fun _ => none) (6 * i) (rs i) (6 * i + j) := by
  have e : (6 * i + j) / 6 = i := by omega
  simp only [HX, cellX]
  rw [if_pos (by omega), if_neg (by omega), if_neg (by omega), if_neg (by omega), if_neg (by omega), if_neg (by omega), if_neg (by omega), if_neg (by omega), if_neg (by omega), if_neg (by omega), if_neg (by omega), if_neg (by omega), if_neg (by omega), e]
/-- a realm of it, taken in hand and put back -/
theorem hX_get {i : Nat} (hi : i < 13) : setR (HX rs pi psz lt lsz tn tsz g1 g2 sd rf im hM) (6 * i) (rs i) = HX rs pi psz lt lsz tn tsz g1 g2 sd rf im hM := by
  funext k
  by_cases hk : 6 * i ≤ k ∧ k ≤ 6 * i + 5
  · obtain ⟨j, hj, rfl⟩ : ∃ j, j < 6 ∧ k = 6 * i + j := ⟨k - 6 * i, by omega, by omega⟩
    rw [hX_R hi hj]
    match j, hj with
    | 0, _ => rw [Nat.add_zero, sR_0, sR_0]
    | 1, _ => rw [sR_1, sR_1]
    | 2, _ => rw [sR_2, sR_2]
    | 3, _ => rw [sR_3, sR_3]
    | 4, _ => rw [sR_4, sR_4]
    | 5, _ => rw [sR_5, sR_5]
  · rw [sR_o (by omega)]
theorem hX_set {i : Nat} (hi : i < 13) {R : RR} : setR (HX rs pi psz lt lsz tn tsz g1 g2 sd rf im hM) (6 * i) R = HX (upR rs i R) pi psz lt lsz tn tsz g1 g2 sd rf im hM := by
  rw [← hX_get (rs := upR rs i R) hi, upR_s]
  funext k
  by_cases hk : 6 * i ≤ k ∧ k ≤ 6 * i + 5
  · obtain ⟨j, hj, rfl⟩ : ∃ j, j < 6 ∧ k = 6 * i + j := ⟨k - 6 * i, by omega, by omega⟩
    match j, hj with
    | 0, _ => rw [Nat.add_zero, sR_0, sR_0]
    | 1, _ => rw [sR_1, sR_1]
    | 2, _ => rw [sR_2, sR_2]
    | 3, _ => rw [sR_3, sR_3]
    | 4, _ => rw [sR_4, sR_4]
    | 5, _ => rw [sR_5, sR_5]
  · rw [sR_o (by omega), sR_o (by omega)]
    simp only [HX, cellX]
    have e : upR rs i R (k / 6) = rs (k / 6) := upR_n _ _ (by omega)
    rw [e]
theorem hX_0 : HX rs pi psz lt lsz tn tsz g1 g2 sd rf im hM 0 = some (.inr (.inr (4, [.ref 1, .ref 2, .ref 3, .ref 4, .ref 5, .int (zI (rMen (rs 0))), .int (zI (rKing (rs 0))), .int (zI (rLoad (rs 0))), .int (zI (rSnow (rs 0))), .int (zI (rDay (rs 0)))]))) := by
  have := hX_R (rs := rs) (pi := pi) (psz := psz) (lt := lt) (lsz := lsz) (tn := tn) (tsz := tsz) (g1 := g1) (g2 := g2) (sd := sd) (rf := rf) (im := im) (hM := hM) (i := 0) (j := 0) (by omega) (by omega)
  rw [this]
  exact sR_0
theorem hX_6 : HX rs pi psz lt lsz tn tsz g1 g2 sd rf im hM 6 = some (.inr (.inr (4, [.ref 7, .ref 8, .ref 9, .ref 10, .ref 11, .int (zI (rMen (rs 1))), .int (zI (rKing (rs 1))), .int (zI (rLoad (rs 1))), .int (zI (rSnow (rs 1))), .int (zI (rDay (rs 1)))]))) := by
  have := hX_R (rs := rs) (pi := pi) (psz := psz) (lt := lt) (lsz := lsz) (tn := tn) (tsz := tsz) (g1 := g1) (g2 := g2) (sd := sd) (rf := rf) (im := im) (hM := hM) (i := 1) (j := 0) (by omega) (by omega)
  rw [this]
  exact sR_0
theorem hX_12 : HX rs pi psz lt lsz tn tsz g1 g2 sd rf im hM 12 = some (.inr (.inr (4, [.ref 13, .ref 14, .ref 15, .ref 16, .ref 17, .int (zI (rMen (rs 2))), .int (zI (rKing (rs 2))), .int (zI (rLoad (rs 2))), .int (zI (rSnow (rs 2))), .int (zI (rDay (rs 2)))]))) := by
  have := hX_R (rs := rs) (pi := pi) (psz := psz) (lt := lt) (lsz := lsz) (tn := tn) (tsz := tsz) (g1 := g1) (g2 := g2) (sd := sd) (rf := rf) (im := im) (hM := hM) (i := 2) (j := 0) (by omega) (by omega)
  rw [this]
  exact sR_0
theorem hX_66 : HX rs pi psz lt lsz tn tsz g1 g2 sd rf im hM 66 = some (.inr (.inr (4, [.ref 67, .ref 68, .ref 69, .ref 70, .ref 71, .int (zI (rMen (rs 11))), .int (zI (rKing (rs 11))), .int (zI (rLoad (rs 11))), .int (zI (rSnow (rs 11))), .int (zI (rDay (rs 11)))]))) := by
  have := hX_R (rs := rs) (pi := pi) (psz := psz) (lt := lt) (lsz := lsz) (tn := tn) (tsz := tsz) (g1 := g1) (g2 := g2) (sd := sd) (rf := rf) (im := im) (hM := hM) (i := 11) (j := 0) (by omega) (by omega)
  rw [this]
  exact sR_0
theorem hX_72 : HX rs pi psz lt lsz tn tsz g1 g2 sd rf im hM 72 = some (.inr (.inr (4, [.ref 73, .ref 74, .ref 75, .ref 76, .ref 77, .int (zI (rMen (rs 12))), .int (zI (rKing (rs 12))), .int (zI (rLoad (rs 12))), .int (zI (rSnow (rs 12))), .int (zI (rDay (rs 12)))]))) := by
  have := hX_R (rs := rs) (pi := pi) (psz := psz) (lt := lt) (lsz := lsz) (tn := tn) (tsz := tsz) (g1 := g1) (g2 := g2) (sd := sd) (rf := rf) (im := im) (hM := hM) (i := 12) (j := 0) (by omega) (by omega)
  rw [this]
  exact sR_0
/-- a kept one -/
theorem hX_K {i : Nat} (hi : i < 8) : HX rs pi psz lt lsz tn tsz g1 g2 sd rf im hM (6 * (3 + i)) = some (.inr (.inr (4, [.ref (6 * (3 + i) + 1), .ref (6 * (3 + i) + 2), .ref (6 * (3 + i) + 3), .ref (6 * (3 + i) + 4), .ref (6 * (3 + i) + 5), .int (zI (rMen (rs (3 + i)))), .int (zI (rKing (rs (3 + i)))), .int (zI (rLoad (rs (3 + i)))), .int (zI (rSnow (rs (3 + i)))), .int (zI (rDay (rs (3 + i))))]))) := by
  have := hX_R (rs := rs) (pi := pi) (psz := psz) (lt := lt) (lsz := lsz) (tn := tn) (tsz := tsz) (g1 := g1) (g2 := g2) (sd := sd) (rf := rf) (im := im) (hM := hM) (i := 3 + i) (j := 0) (by omega) (by omega)
  rw [Nat.add_zero] at this
  rw [this]
  exact sR_0
theorem hUX_78 {x : Int} : hU (HX rs pi psz lt lsz tn tsz g1 g2 sd rf im hM) 78 (.inr (.inr (6, [.ref 0, .ref 6, .ref 12, .ref 79, .ref 81, .ref 83, .ref 85, .ref 88, .ref 89, .int (zI x)]))) = HX rs pi psz lt lsz tn tsz g1 g2 sd rf x hM := by
  funext k
  by_cases e : k = 78
  · subst e; simp [hU, HX, cellX]
  · simp only [hU, if_neg e, HX, cellX]
theorem hUX_79 {x : Int} : hU (HX rs pi psz lt lsz tn tsz g1 g2 sd rf im hM) 79 (.inr (.inr (3, [.ref 80, .int (zI x)]))) = HX rs pi x lt lsz tn tsz g1 g2 sd rf im hM := by
  funext k
  by_cases e : k = 79
  · subst e; simp [hU, HX, cellX]
  · simp only [hU, if_neg e, HX, cellX]
theorem hUX_81 {x : Int} : hU (HX rs pi psz lt lsz tn tsz g1 g2 sd rf im hM) 81 (.inr (.inr (2, [.ref 82, .int (zI x)]))) = HX rs pi psz lt x tn tsz g1 g2 sd rf im hM := by
  funext k
  by_cases e : k = 81
  · subst e; simp [hU, HX, cellX]
  · simp only [hU, if_neg e, HX, cellX]
theorem hUX_82 {x : Nat → Int} : hU (HX rs pi psz lt lsz tn tsz g1 g2 sd rf im hM) 82 (.inl (96, fun j => zI (x j))) = HX rs pi psz x lsz tn tsz g1 g2 sd rf im hM := by
  funext k
  by_cases e : k = 82
  · subst e; simp [hU, HX, cellX]
  · simp only [hU, if_neg e, HX, cellX]
theorem hUX_83 {x : Int} : hU (HX rs pi psz lt lsz tn tsz g1 g2 sd rf im hM) 83 (.inr (.inr (5, [.ref 84, .int (zI x)]))) = HX rs pi psz lt lsz tn x g1 g2 sd rf im hM := by
  funext k
  by_cases e : k = 83
  · subst e; simp [hU, HX, cellX]
  · simp only [hU, if_neg e, HX, cellX]
theorem hUX_84 {x : Nat → Int} : hU (HX rs pi psz lt lsz tn tsz g1 g2 sd rf im hM) 84 (.inl (12, fun j => zI (x j))) = HX rs pi psz lt lsz x tsz g1 g2 sd rf im hM := by
  funext k
  by_cases e : k = 84
  · subst e; simp [hU, HX, cellX]
  · simp only [hU, if_neg e, HX, cellX]
theorem hUX_86 {x : Nat → Int} : hU (HX rs pi psz lt lsz tn tsz g1 g2 sd rf im hM) 86 (.inl (4, fun j => zI (x j))) = HX rs pi psz lt lsz tn tsz x g2 sd rf im hM := by
  funext k
  by_cases e : k = 86
  · subst e; simp [hU, HX, cellX]
  · simp only [hU, if_neg e, HX, cellX]
theorem hUX_87 {x : Nat → Int} : hU (HX rs pi psz lt lsz tn tsz g1 g2 sd rf im hM) 87 (.inl (4, fun j => zI (x j))) = HX rs pi psz lt lsz tn tsz g1 x sd rf im hM := by
  funext k
  by_cases e : k = 87
  · subst e; simp [hU, HX, cellX]
  · simp only [hU, if_neg e, HX, cellX]
theorem hUX_88 {x : Int} : hU (HX rs pi psz lt lsz tn tsz g1 g2 sd rf im hM) 88 (.inr (.inr (0, [.ref 72, .int (zI x)]))) = HX rs pi psz lt lsz tn tsz g1 g2 x rf im hM := by
  funext k
  by_cases e : k = 88
  · subst e; simp [hU, HX, cellX]
  · simp only [hU, if_neg e, HX, cellX]
theorem hUX_89 {x : Nat → Int} : hU (HX rs pi psz lt lsz tn tsz g1 g2 sd rf im hM) 89 (.inl (7, fun j => zI (x j))) = HX rs pi psz lt lsz tn tsz g1 g2 sd x im hM := by
  funext k
  by_cases e : k = 89
  · subst e; simp [hU, HX, cellX]
  · simp only [hU, if_neg e, HX, cellX]
theorem hUX_80 {x : Nat → Nat} : hU (HX rs pi psz lt lsz tn tsz g1 g2 sd rf im hM) 80 (.inr (.inl (8, fun j => some (6 * (3 + x j))))) = HX rs x psz lt lsz tn tsz g1 g2 sd rf im hM := by
  funext k
  by_cases e : k = 80
  · subst e; simp [hU, HX, cellX]
  · simp only [hU, if_neg e, HX, cellX]
theorem up_pi (i v : Nat) : va_up (fun j => some (6 * (3 + pi j))) i (some (6 * (3 + v))) = fun j => some (6 * (3 + (if j = i then v else pi j))) := by
  funext j
  simp only [va_up]
  split <;> rfl
theorem hUX_r0 {i : Nat} (hi : i < 13) {a b c d e : Int} : hU (HX rs pi psz lt lsz tn tsz g1 g2 sd rf im hM) (6 * i) (.inr (.inr (4, [.ref (6 * i + 1), .ref (6 * i + 2), .ref (6 * i + 3), .ref (6 * i + 4), .ref (6 * i + 5), .int (zI a), .int (zI b), .int (zI c), .int (zI d), .int (zI e)]))) = HX (upR rs i (mkR (rSl (rs i)) (rKi (rs i)) (rFi (rs i)) (rFa (rs i)) (rWo (rs i)) a b c d e)) pi psz lt lsz tn tsz g1 g2 sd rf im hM := by
  rw [← hX_set hi, ← hU_R0, hX_get hi]
theorem hUX_r0_ {a b c d e : Int} : hU (HX rs pi psz lt lsz tn tsz g1 g2 sd rf im hM) 0 (.inr (.inr (4, [.ref 1, .ref 2, .ref 3, .ref 4, .ref 5, .int (zI a), .int (zI b), .int (zI c), .int (zI d), .int (zI e)]))) = HX (upR rs 0 (mkR (rSl (rs 0)) (rKi (rs 0)) (rFi (rs 0)) (rFa (rs 0)) (rWo (rs 0)) a b c d e)) pi psz lt lsz tn tsz g1 g2 sd rf im hM := hUX_r0 (i := 0) (by omega)
theorem hUX_r1_ {a b c d e : Int} : hU (HX rs pi psz lt lsz tn tsz g1 g2 sd rf im hM) 6 (.inr (.inr (4, [.ref 7, .ref 8, .ref 9, .ref 10, .ref 11, .int (zI a), .int (zI b), .int (zI c), .int (zI d), .int (zI e)]))) = HX (upR rs 1 (mkR (rSl (rs 1)) (rKi (rs 1)) (rFi (rs 1)) (rFa (rs 1)) (rWo (rs 1)) a b c d e)) pi psz lt lsz tn tsz g1 g2 sd rf im hM := hUX_r0 (i := 1) (by omega)
theorem hUX_r11_ {a b c d e : Int} : hU (HX rs pi psz lt lsz tn tsz g1 g2 sd rf im hM) 66 (.inr (.inr (4, [.ref 67, .ref 68, .ref 69, .ref 70, .ref 71, .int (zI a), .int (zI b), .int (zI c), .int (zI d), .int (zI e)]))) = HX (upR rs 11 (mkR (rSl (rs 11)) (rKi (rs 11)) (rFi (rs 11)) (rFa (rs 11)) (rWo (rs 11)) a b c d e)) pi psz lt lsz tn tsz g1 g2 sd rf im hM := hUX_r0 (i := 11) (by omega)
theorem hUX_r12_ {a b c d e : Int} : hU (HX rs pi psz lt lsz tn tsz g1 g2 sd rf im hM) 72 (.inr (.inr (4, [.ref 73, .ref 74, .ref 75, .ref 76, .ref 77, .int (zI a), .int (zI b), .int (zI c), .int (zI d), .int (zI e)]))) = HX (upR rs 12 (mkR (rSl (rs 12)) (rKi (rs 12)) (rFi (rs 12)) (rFa (rs 12)) (rWo (rs 12)) a b c d e)) pi psz lt lsz tn tsz g1 g2 sd rf im hM := hUX_r0 (i := 12) (by omega)
end HXS
