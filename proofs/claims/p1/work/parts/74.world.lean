/-! ===== the world at the law's start, by its numbers ===== -/
theorem cQ_eq {cR : ClassId} {n : Nat} {f g : Nat → Option Nat} (h : ∀ j, j < n → f j = g j) : vp_cell cR (n, .inr (.inr (.inr (.inr f)))) = vp_cell cR (n, .inr (.inr (.inr (.inr g)))) := by
  rw [vp_cell_q, vp_cell_q]
  simp only [arrV]
  congr 1
  apply Array.ext
  · simp
  · intro i h1 h2
    simp only [Array.getElem_ofFn]
    rw [h i (by simpa using h1)]
theorem va_P_swap {G : va_G} {cl : List vw_C} {cR : ClassId} {ws : va_W} {H : Heap} {k a n : Nat} {f g : Nat → Option Nat} (hk : ws[k]? = some (a, cQ cR n f)) (h : ∀ j, j < n → f j = g j) (hP : va_P G cl ws H) : va_P G cl (ws.set k (a, cQ cR n g)) H := by
  intro j q hq
  by_cases e : j = k
  · subst e
    have hl := (List.getElem?_eq_some_iff.mp hk).1
    rw [List.getElem?_set_self hl] at hq
    cases hq
    have h1 : H[a]? = some (vp_cell cR (n, .inr (.inr (.inr (.inr f))))) := hP j _ hk
    show H[a]? = some (vp_cell cR (n, .inr (.inr (.inr (.inr g)))))
    rw [h1, cQ_eq h]
  · rw [List.getElem?_set_ne (fun q => e q.symm)] at hq
    exact hP j q hq
def nul : Nat → Int := fun _ => 0
def R0 : RR := mkR (fun j => if j < 12 then 1 else 0) nul nul nul nul 0 0 12 0 0
def hM0 (bb : AH) : AH := HM R0 nul nul 0 0 0 0 nul nul nul nul nul 0 0 0 .null nul 0 nul nul 0 nul 0 bb
def hX0 (hM : AH) : AH := HX (fun _ => R0) id 0 nul 0 nul 0 nul nul 0 nul 0 hM
def hI0 : AH := hX0 (hM0 (fun _ => none))
def sg (r1 r2 r3 : Nat → Nat) (b : Nat → Nat → Nat) (rc rh v : Nat → Nat) : Nat → Nat := fun k =>
  if k < 6 then r1 k else if k < 12 then r2 (k - 6) else if k < 18 then r3 (k - 12) else if k < 66 then b ((k - 18) / 6) ((k - 18) % 6) else if k < 72 then rc (k - 66) else if k < 78 then rh (k - 72) else v (k - 78)
def pls : List Nat := [1, 2, 3, 4, 5, 6, 7, 8, 9, 10, 11, 12, 13, 14, 15, 16, 17, 18, 21, 22, 23, 24, 25, 26, 27, 28, 29, 30, 31, 32, 33, 34, 35, 36, 37, 38, 39, 40, 41, 42, 43, 44, 45, 46, 47, 48, 49, 50, 51, 52, 53, 54, 55, 56, 57, 58, 59, 60, 61, 62, 63, 64, 65, 66, 67, 68, 74, 75, 76, 77, 78, 79, 83, 84, 85, 86, 87, 88, 0, 19, 20, 69, 70, 71, 72, 73, 80, 81, 82, 89, 90, 91, 92, 93, 94, 95, 96, 97, 98, 99, 100, 101, 102, 103, 104, 105, 106]
theorem pls_nd : va_nd pls = true := by decide +kernel
theorem hI0_hi {k : Nat} (h : ¬ k < 90) : hI0 k = hM0 (fun _ => none) k := by
  show (if k < 90 then _ else hM0 (fun _ => none) k) = _
  rw [if_neg h]
theorem wd_at {cI cR : ClassId} {σ : Nat → Nat} {N k : Nat} {h : AH} {q : Nat × va_E} (hk : (wd cI cR σ N h)[k]? = some q) : k < N ∧ q = (σ k, ce cI cR σ ((h k).getD (.inl (0, fun _ => 0)))) := by
  by_cases hl : k < N
  · simp [wd, hl] at hk
    exact ⟨hl, hk.symm⟩
  · simp [wd, Nat.not_lt.mp hl] at hk
theorem R0_men : rMen R0 = 0 := id rfl
theorem R0_king : rKing R0 = 0 := id rfl
theorem R0_load : rLoad R0 = 12 := id rfl
theorem R0_snow : rSnow R0 = 0 := id rfl
theorem R0_day : rDay R0 = 0 := id rfl
theorem R0_sl : (fun j => zI (rSl R0 j)) = onesF 12 := id rfl
theorem R0_ki : (fun j => zI (rKi R0 j)) = zr := id rfl
theorem R0_fi : (fun j => zI (rFi R0 j)) = zr := id rfl
theorem R0_fa : (fun j => zI (rFa R0 j)) = zr := id rfl
theorem R0_wo : (fun j => zI (rWo R0 j)) = zr := id rfl
theorem nul_z : (fun j => zI (nul j)) = zr := id rfl
theorem hI0_R {i j : Nat} (hi : i < 13) (hj : j < 6) : hI0 (6 * i + j) = setR (fun _ => none) (6 * i) R0 (6 * i + j) := by
  unfold hI0 hX0
  exact hX_R hi hj
theorem hI0_lo {k : Nat} (h : k < 90) : hI0 k = cellX (fun _ => R0) id 0 nul 0 nul 0 nul nul 0 nul 0 k := by
  unfold hI0 hX0 HX
  rw [if_pos h]
theorem ci_0 : hI0 0 = some (.inr (.inr (4, [.ref 1, .ref 2, .ref 3, .ref 4, .ref 5, .int (zI 0), .int (zI 0), .int (zI 12), .int (zI 0), .int (zI 0)]))) := by
  rw [show 0 = 6 * 0 + 0 from rfl, hI0_R (by omega) (by omega), Nat.add_zero, sR_0]
  simp only [R0_men, R0_king, R0_load, R0_snow, R0_day, R0_sl, R0_ki, R0_fi, R0_fa, R0_wo, Nat.reduceMul, Nat.reduceAdd]
theorem ci_1 : hI0 1 = some (.inl (12, onesF 12)) := by
  rw [show 1 = 6 * 0 + 1 from rfl, hI0_R (by omega) (by omega), sR_1]
  simp only [R0_men, R0_king, R0_load, R0_snow, R0_day, R0_sl, R0_ki, R0_fi, R0_fa, R0_wo, Nat.reduceMul, Nat.reduceAdd]
theorem ci_2 : hI0 2 = some (.inl (8, zr)) := by
  rw [show 2 = 6 * 0 + 2 from rfl, hI0_R (by omega) (by omega), sR_2]
  simp only [R0_men, R0_king, R0_load, R0_snow, R0_day, R0_sl, R0_ki, R0_fi, R0_fa, R0_wo, Nat.reduceMul, Nat.reduceAdd]
theorem ci_3 : hI0 3 = some (.inl (8, zr)) := by
  rw [show 3 = 6 * 0 + 3 from rfl, hI0_R (by omega) (by omega), sR_3]
  simp only [R0_men, R0_king, R0_load, R0_snow, R0_day, R0_sl, R0_ki, R0_fi, R0_fa, R0_wo, Nat.reduceMul, Nat.reduceAdd]
theorem ci_4 : hI0 4 = some (.inl (8, zr)) := by
  rw [show 4 = 6 * 0 + 4 from rfl, hI0_R (by omega) (by omega), sR_4]
  simp only [R0_men, R0_king, R0_load, R0_snow, R0_day, R0_sl, R0_ki, R0_fi, R0_fa, R0_wo, Nat.reduceMul, Nat.reduceAdd]
theorem ci_5 : hI0 5 = some (.inl (8, zr)) := by
  rw [show 5 = 6 * 0 + 5 from rfl, hI0_R (by omega) (by omega), sR_5]
  simp only [R0_men, R0_king, R0_load, R0_snow, R0_day, R0_sl, R0_ki, R0_fi, R0_fa, R0_wo, Nat.reduceMul, Nat.reduceAdd]
theorem ci_6 : hI0 6 = some (.inr (.inr (4, [.ref 7, .ref 8, .ref 9, .ref 10, .ref 11, .int (zI 0), .int (zI 0), .int (zI 12), .int (zI 0), .int (zI 0)]))) := by
  rw [show 6 = 6 * 1 + 0 from rfl, hI0_R (by omega) (by omega), Nat.add_zero, sR_0]
  simp only [R0_men, R0_king, R0_load, R0_snow, R0_day, R0_sl, R0_ki, R0_fi, R0_fa, R0_wo, Nat.reduceMul, Nat.reduceAdd]
theorem ci_7 : hI0 7 = some (.inl (12, onesF 12)) := by
  rw [show 7 = 6 * 1 + 1 from rfl, hI0_R (by omega) (by omega), sR_1]
  simp only [R0_men, R0_king, R0_load, R0_snow, R0_day, R0_sl, R0_ki, R0_fi, R0_fa, R0_wo, Nat.reduceMul, Nat.reduceAdd]
theorem ci_8 : hI0 8 = some (.inl (8, zr)) := by
  rw [show 8 = 6 * 1 + 2 from rfl, hI0_R (by omega) (by omega), sR_2]
  simp only [R0_men, R0_king, R0_load, R0_snow, R0_day, R0_sl, R0_ki, R0_fi, R0_fa, R0_wo, Nat.reduceMul, Nat.reduceAdd]
theorem ci_9 : hI0 9 = some (.inl (8, zr)) := by
  rw [show 9 = 6 * 1 + 3 from rfl, hI0_R (by omega) (by omega), sR_3]
  simp only [R0_men, R0_king, R0_load, R0_snow, R0_day, R0_sl, R0_ki, R0_fi, R0_fa, R0_wo, Nat.reduceMul, Nat.reduceAdd]
theorem ci_10 : hI0 10 = some (.inl (8, zr)) := by
  rw [show 10 = 6 * 1 + 4 from rfl, hI0_R (by omega) (by omega), sR_4]
  simp only [R0_men, R0_king, R0_load, R0_snow, R0_day, R0_sl, R0_ki, R0_fi, R0_fa, R0_wo, Nat.reduceMul, Nat.reduceAdd]
theorem ci_11 : hI0 11 = some (.inl (8, zr)) := by
  rw [show 11 = 6 * 1 + 5 from rfl, hI0_R (by omega) (by omega), sR_5]
  simp only [R0_men, R0_king, R0_load, R0_snow, R0_day, R0_sl, R0_ki, R0_fi, R0_fa, R0_wo, Nat.reduceMul, Nat.reduceAdd]
theorem ci_12 : hI0 12 = some (.inr (.inr (4, [.ref 13, .ref 14, .ref 15, .ref 16, .ref 17, .int (zI 0), .int (zI 0), .int (zI 12), .int (zI 0), .int (zI 0)]))) := by
  rw [show 12 = 6 * 2 + 0 from rfl, hI0_R (by omega) (by omega), Nat.add_zero, sR_0]
  simp only [R0_men, R0_king, R0_load, R0_snow, R0_day, R0_sl, R0_ki, R0_fi, R0_fa, R0_wo, Nat.reduceMul, Nat.reduceAdd]
theorem ci_13 : hI0 13 = some (.inl (12, onesF 12)) := by
  rw [show 13 = 6 * 2 + 1 from rfl, hI0_R (by omega) (by omega), sR_1]
  simp only [R0_men, R0_king, R0_load, R0_snow, R0_day, R0_sl, R0_ki, R0_fi, R0_fa, R0_wo, Nat.reduceMul, Nat.reduceAdd]
theorem ci_14 : hI0 14 = some (.inl (8, zr)) := by
  rw [show 14 = 6 * 2 + 2 from rfl, hI0_R (by omega) (by omega), sR_2]
  simp only [R0_men, R0_king, R0_load, R0_snow, R0_day, R0_sl, R0_ki, R0_fi, R0_fa, R0_wo, Nat.reduceMul, Nat.reduceAdd]
theorem ci_15 : hI0 15 = some (.inl (8, zr)) := by
  rw [show 15 = 6 * 2 + 3 from rfl, hI0_R (by omega) (by omega), sR_3]
  simp only [R0_men, R0_king, R0_load, R0_snow, R0_day, R0_sl, R0_ki, R0_fi, R0_fa, R0_wo, Nat.reduceMul, Nat.reduceAdd]
theorem ci_16 : hI0 16 = some (.inl (8, zr)) := by
  rw [show 16 = 6 * 2 + 4 from rfl, hI0_R (by omega) (by omega), sR_4]
  simp only [R0_men, R0_king, R0_load, R0_snow, R0_day, R0_sl, R0_ki, R0_fi, R0_fa, R0_wo, Nat.reduceMul, Nat.reduceAdd]
theorem ci_17 : hI0 17 = some (.inl (8, zr)) := by
  rw [show 17 = 6 * 2 + 5 from rfl, hI0_R (by omega) (by omega), sR_5]
  simp only [R0_men, R0_king, R0_load, R0_snow, R0_day, R0_sl, R0_ki, R0_fi, R0_fa, R0_wo, Nat.reduceMul, Nat.reduceAdd]
theorem ci_18 : hI0 18 = some (.inr (.inr (4, [.ref 19, .ref 20, .ref 21, .ref 22, .ref 23, .int (zI 0), .int (zI 0), .int (zI 12), .int (zI 0), .int (zI 0)]))) := by
  rw [show 18 = 6 * 3 + 0 from rfl, hI0_R (by omega) (by omega), Nat.add_zero, sR_0]
  simp only [R0_men, R0_king, R0_load, R0_snow, R0_day, R0_sl, R0_ki, R0_fi, R0_fa, R0_wo, Nat.reduceMul, Nat.reduceAdd]
theorem ci_19 : hI0 19 = some (.inl (12, onesF 12)) := by
  rw [show 19 = 6 * 3 + 1 from rfl, hI0_R (by omega) (by omega), sR_1]
  simp only [R0_men, R0_king, R0_load, R0_snow, R0_day, R0_sl, R0_ki, R0_fi, R0_fa, R0_wo, Nat.reduceMul, Nat.reduceAdd]
theorem ci_20 : hI0 20 = some (.inl (8, zr)) := by
  rw [show 20 = 6 * 3 + 2 from rfl, hI0_R (by omega) (by omega), sR_2]
  simp only [R0_men, R0_king, R0_load, R0_snow, R0_day, R0_sl, R0_ki, R0_fi, R0_fa, R0_wo, Nat.reduceMul, Nat.reduceAdd]
theorem ci_21 : hI0 21 = some (.inl (8, zr)) := by
  rw [show 21 = 6 * 3 + 3 from rfl, hI0_R (by omega) (by omega), sR_3]
  simp only [R0_men, R0_king, R0_load, R0_snow, R0_day, R0_sl, R0_ki, R0_fi, R0_fa, R0_wo, Nat.reduceMul, Nat.reduceAdd]
theorem ci_22 : hI0 22 = some (.inl (8, zr)) := by
  rw [show 22 = 6 * 3 + 4 from rfl, hI0_R (by omega) (by omega), sR_4]
  simp only [R0_men, R0_king, R0_load, R0_snow, R0_day, R0_sl, R0_ki, R0_fi, R0_fa, R0_wo, Nat.reduceMul, Nat.reduceAdd]
theorem ci_23 : hI0 23 = some (.inl (8, zr)) := by
  rw [show 23 = 6 * 3 + 5 from rfl, hI0_R (by omega) (by omega), sR_5]
  simp only [R0_men, R0_king, R0_load, R0_snow, R0_day, R0_sl, R0_ki, R0_fi, R0_fa, R0_wo, Nat.reduceMul, Nat.reduceAdd]
theorem ci_24 : hI0 24 = some (.inr (.inr (4, [.ref 25, .ref 26, .ref 27, .ref 28, .ref 29, .int (zI 0), .int (zI 0), .int (zI 12), .int (zI 0), .int (zI 0)]))) := by
  rw [show 24 = 6 * 4 + 0 from rfl, hI0_R (by omega) (by omega), Nat.add_zero, sR_0]
  simp only [R0_men, R0_king, R0_load, R0_snow, R0_day, R0_sl, R0_ki, R0_fi, R0_fa, R0_wo, Nat.reduceMul, Nat.reduceAdd]
theorem ci_25 : hI0 25 = some (.inl (12, onesF 12)) := by
  rw [show 25 = 6 * 4 + 1 from rfl, hI0_R (by omega) (by omega), sR_1]
  simp only [R0_men, R0_king, R0_load, R0_snow, R0_day, R0_sl, R0_ki, R0_fi, R0_fa, R0_wo, Nat.reduceMul, Nat.reduceAdd]
theorem ci_26 : hI0 26 = some (.inl (8, zr)) := by
  rw [show 26 = 6 * 4 + 2 from rfl, hI0_R (by omega) (by omega), sR_2]
  simp only [R0_men, R0_king, R0_load, R0_snow, R0_day, R0_sl, R0_ki, R0_fi, R0_fa, R0_wo, Nat.reduceMul, Nat.reduceAdd]
theorem ci_27 : hI0 27 = some (.inl (8, zr)) := by
  rw [show 27 = 6 * 4 + 3 from rfl, hI0_R (by omega) (by omega), sR_3]
  simp only [R0_men, R0_king, R0_load, R0_snow, R0_day, R0_sl, R0_ki, R0_fi, R0_fa, R0_wo, Nat.reduceMul, Nat.reduceAdd]
theorem ci_28 : hI0 28 = some (.inl (8, zr)) := by
  rw [show 28 = 6 * 4 + 4 from rfl, hI0_R (by omega) (by omega), sR_4]
  simp only [R0_men, R0_king, R0_load, R0_snow, R0_day, R0_sl, R0_ki, R0_fi, R0_fa, R0_wo, Nat.reduceMul, Nat.reduceAdd]
theorem ci_29 : hI0 29 = some (.inl (8, zr)) := by
  rw [show 29 = 6 * 4 + 5 from rfl, hI0_R (by omega) (by omega), sR_5]
  simp only [R0_men, R0_king, R0_load, R0_snow, R0_day, R0_sl, R0_ki, R0_fi, R0_fa, R0_wo, Nat.reduceMul, Nat.reduceAdd]
theorem ci_30 : hI0 30 = some (.inr (.inr (4, [.ref 31, .ref 32, .ref 33, .ref 34, .ref 35, .int (zI 0), .int (zI 0), .int (zI 12), .int (zI 0), .int (zI 0)]))) := by
  rw [show 30 = 6 * 5 + 0 from rfl, hI0_R (by omega) (by omega), Nat.add_zero, sR_0]
  simp only [R0_men, R0_king, R0_load, R0_snow, R0_day, R0_sl, R0_ki, R0_fi, R0_fa, R0_wo, Nat.reduceMul, Nat.reduceAdd]
theorem ci_31 : hI0 31 = some (.inl (12, onesF 12)) := by
  rw [show 31 = 6 * 5 + 1 from rfl, hI0_R (by omega) (by omega), sR_1]
  simp only [R0_men, R0_king, R0_load, R0_snow, R0_day, R0_sl, R0_ki, R0_fi, R0_fa, R0_wo, Nat.reduceMul, Nat.reduceAdd]
theorem ci_32 : hI0 32 = some (.inl (8, zr)) := by
  rw [show 32 = 6 * 5 + 2 from rfl, hI0_R (by omega) (by omega), sR_2]
  simp only [R0_men, R0_king, R0_load, R0_snow, R0_day, R0_sl, R0_ki, R0_fi, R0_fa, R0_wo, Nat.reduceMul, Nat.reduceAdd]
theorem ci_33 : hI0 33 = some (.inl (8, zr)) := by
  rw [show 33 = 6 * 5 + 3 from rfl, hI0_R (by omega) (by omega), sR_3]
  simp only [R0_men, R0_king, R0_load, R0_snow, R0_day, R0_sl, R0_ki, R0_fi, R0_fa, R0_wo, Nat.reduceMul, Nat.reduceAdd]
theorem ci_34 : hI0 34 = some (.inl (8, zr)) := by
  rw [show 34 = 6 * 5 + 4 from rfl, hI0_R (by omega) (by omega), sR_4]
  simp only [R0_men, R0_king, R0_load, R0_snow, R0_day, R0_sl, R0_ki, R0_fi, R0_fa, R0_wo, Nat.reduceMul, Nat.reduceAdd]
theorem ci_35 : hI0 35 = some (.inl (8, zr)) := by
  rw [show 35 = 6 * 5 + 5 from rfl, hI0_R (by omega) (by omega), sR_5]
  simp only [R0_men, R0_king, R0_load, R0_snow, R0_day, R0_sl, R0_ki, R0_fi, R0_fa, R0_wo, Nat.reduceMul, Nat.reduceAdd]
theorem ci_36 : hI0 36 = some (.inr (.inr (4, [.ref 37, .ref 38, .ref 39, .ref 40, .ref 41, .int (zI 0), .int (zI 0), .int (zI 12), .int (zI 0), .int (zI 0)]))) := by
  rw [show 36 = 6 * 6 + 0 from rfl, hI0_R (by omega) (by omega), Nat.add_zero, sR_0]
  simp only [R0_men, R0_king, R0_load, R0_snow, R0_day, R0_sl, R0_ki, R0_fi, R0_fa, R0_wo, Nat.reduceMul, Nat.reduceAdd]
theorem ci_37 : hI0 37 = some (.inl (12, onesF 12)) := by
  rw [show 37 = 6 * 6 + 1 from rfl, hI0_R (by omega) (by omega), sR_1]
  simp only [R0_men, R0_king, R0_load, R0_snow, R0_day, R0_sl, R0_ki, R0_fi, R0_fa, R0_wo, Nat.reduceMul, Nat.reduceAdd]
theorem ci_38 : hI0 38 = some (.inl (8, zr)) := by
  rw [show 38 = 6 * 6 + 2 from rfl, hI0_R (by omega) (by omega), sR_2]
  simp only [R0_men, R0_king, R0_load, R0_snow, R0_day, R0_sl, R0_ki, R0_fi, R0_fa, R0_wo, Nat.reduceMul, Nat.reduceAdd]
theorem ci_39 : hI0 39 = some (.inl (8, zr)) := by
  rw [show 39 = 6 * 6 + 3 from rfl, hI0_R (by omega) (by omega), sR_3]
  simp only [R0_men, R0_king, R0_load, R0_snow, R0_day, R0_sl, R0_ki, R0_fi, R0_fa, R0_wo, Nat.reduceMul, Nat.reduceAdd]
theorem ci_40 : hI0 40 = some (.inl (8, zr)) := by
  rw [show 40 = 6 * 6 + 4 from rfl, hI0_R (by omega) (by omega), sR_4]
  simp only [R0_men, R0_king, R0_load, R0_snow, R0_day, R0_sl, R0_ki, R0_fi, R0_fa, R0_wo, Nat.reduceMul, Nat.reduceAdd]
theorem ci_41 : hI0 41 = some (.inl (8, zr)) := by
  rw [show 41 = 6 * 6 + 5 from rfl, hI0_R (by omega) (by omega), sR_5]
  simp only [R0_men, R0_king, R0_load, R0_snow, R0_day, R0_sl, R0_ki, R0_fi, R0_fa, R0_wo, Nat.reduceMul, Nat.reduceAdd]
theorem ci_42 : hI0 42 = some (.inr (.inr (4, [.ref 43, .ref 44, .ref 45, .ref 46, .ref 47, .int (zI 0), .int (zI 0), .int (zI 12), .int (zI 0), .int (zI 0)]))) := by
  rw [show 42 = 6 * 7 + 0 from rfl, hI0_R (by omega) (by omega), Nat.add_zero, sR_0]
  simp only [R0_men, R0_king, R0_load, R0_snow, R0_day, R0_sl, R0_ki, R0_fi, R0_fa, R0_wo, Nat.reduceMul, Nat.reduceAdd]
theorem ci_43 : hI0 43 = some (.inl (12, onesF 12)) := by
  rw [show 43 = 6 * 7 + 1 from rfl, hI0_R (by omega) (by omega), sR_1]
  simp only [R0_men, R0_king, R0_load, R0_snow, R0_day, R0_sl, R0_ki, R0_fi, R0_fa, R0_wo, Nat.reduceMul, Nat.reduceAdd]
theorem ci_44 : hI0 44 = some (.inl (8, zr)) := by
  rw [show 44 = 6 * 7 + 2 from rfl, hI0_R (by omega) (by omega), sR_2]
  simp only [R0_men, R0_king, R0_load, R0_snow, R0_day, R0_sl, R0_ki, R0_fi, R0_fa, R0_wo, Nat.reduceMul, Nat.reduceAdd]
theorem ci_45 : hI0 45 = some (.inl (8, zr)) := by
  rw [show 45 = 6 * 7 + 3 from rfl, hI0_R (by omega) (by omega), sR_3]
  simp only [R0_men, R0_king, R0_load, R0_snow, R0_day, R0_sl, R0_ki, R0_fi, R0_fa, R0_wo, Nat.reduceMul, Nat.reduceAdd]
theorem ci_46 : hI0 46 = some (.inl (8, zr)) := by
  rw [show 46 = 6 * 7 + 4 from rfl, hI0_R (by omega) (by omega), sR_4]
  simp only [R0_men, R0_king, R0_load, R0_snow, R0_day, R0_sl, R0_ki, R0_fi, R0_fa, R0_wo, Nat.reduceMul, Nat.reduceAdd]
theorem ci_47 : hI0 47 = some (.inl (8, zr)) := by
  rw [show 47 = 6 * 7 + 5 from rfl, hI0_R (by omega) (by omega), sR_5]
  simp only [R0_men, R0_king, R0_load, R0_snow, R0_day, R0_sl, R0_ki, R0_fi, R0_fa, R0_wo, Nat.reduceMul, Nat.reduceAdd]
theorem ci_48 : hI0 48 = some (.inr (.inr (4, [.ref 49, .ref 50, .ref 51, .ref 52, .ref 53, .int (zI 0), .int (zI 0), .int (zI 12), .int (zI 0), .int (zI 0)]))) := by
  rw [show 48 = 6 * 8 + 0 from rfl, hI0_R (by omega) (by omega), Nat.add_zero, sR_0]
  simp only [R0_men, R0_king, R0_load, R0_snow, R0_day, R0_sl, R0_ki, R0_fi, R0_fa, R0_wo, Nat.reduceMul, Nat.reduceAdd]
theorem ci_49 : hI0 49 = some (.inl (12, onesF 12)) := by
  rw [show 49 = 6 * 8 + 1 from rfl, hI0_R (by omega) (by omega), sR_1]
  simp only [R0_men, R0_king, R0_load, R0_snow, R0_day, R0_sl, R0_ki, R0_fi, R0_fa, R0_wo, Nat.reduceMul, Nat.reduceAdd]
theorem ci_50 : hI0 50 = some (.inl (8, zr)) := by
  rw [show 50 = 6 * 8 + 2 from rfl, hI0_R (by omega) (by omega), sR_2]
  simp only [R0_men, R0_king, R0_load, R0_snow, R0_day, R0_sl, R0_ki, R0_fi, R0_fa, R0_wo, Nat.reduceMul, Nat.reduceAdd]
theorem ci_51 : hI0 51 = some (.inl (8, zr)) := by
  rw [show 51 = 6 * 8 + 3 from rfl, hI0_R (by omega) (by omega), sR_3]
  simp only [R0_men, R0_king, R0_load, R0_snow, R0_day, R0_sl, R0_ki, R0_fi, R0_fa, R0_wo, Nat.reduceMul, Nat.reduceAdd]
theorem ci_52 : hI0 52 = some (.inl (8, zr)) := by
  rw [show 52 = 6 * 8 + 4 from rfl, hI0_R (by omega) (by omega), sR_4]
  simp only [R0_men, R0_king, R0_load, R0_snow, R0_day, R0_sl, R0_ki, R0_fi, R0_fa, R0_wo, Nat.reduceMul, Nat.reduceAdd]
theorem ci_53 : hI0 53 = some (.inl (8, zr)) := by
  rw [show 53 = 6 * 8 + 5 from rfl, hI0_R (by omega) (by omega), sR_5]
  simp only [R0_men, R0_king, R0_load, R0_snow, R0_day, R0_sl, R0_ki, R0_fi, R0_fa, R0_wo, Nat.reduceMul, Nat.reduceAdd]
theorem ci_54 : hI0 54 = some (.inr (.inr (4, [.ref 55, .ref 56, .ref 57, .ref 58, .ref 59, .int (zI 0), .int (zI 0), .int (zI 12), .int (zI 0), .int (zI 0)]))) := by
  rw [show 54 = 6 * 9 + 0 from rfl, hI0_R (by omega) (by omega), Nat.add_zero, sR_0]
  simp only [R0_men, R0_king, R0_load, R0_snow, R0_day, R0_sl, R0_ki, R0_fi, R0_fa, R0_wo, Nat.reduceMul, Nat.reduceAdd]
theorem ci_55 : hI0 55 = some (.inl (12, onesF 12)) := by
  rw [show 55 = 6 * 9 + 1 from rfl, hI0_R (by omega) (by omega), sR_1]
  simp only [R0_men, R0_king, R0_load, R0_snow, R0_day, R0_sl, R0_ki, R0_fi, R0_fa, R0_wo, Nat.reduceMul, Nat.reduceAdd]
theorem ci_56 : hI0 56 = some (.inl (8, zr)) := by
  rw [show 56 = 6 * 9 + 2 from rfl, hI0_R (by omega) (by omega), sR_2]
  simp only [R0_men, R0_king, R0_load, R0_snow, R0_day, R0_sl, R0_ki, R0_fi, R0_fa, R0_wo, Nat.reduceMul, Nat.reduceAdd]
theorem ci_57 : hI0 57 = some (.inl (8, zr)) := by
  rw [show 57 = 6 * 9 + 3 from rfl, hI0_R (by omega) (by omega), sR_3]
  simp only [R0_men, R0_king, R0_load, R0_snow, R0_day, R0_sl, R0_ki, R0_fi, R0_fa, R0_wo, Nat.reduceMul, Nat.reduceAdd]
theorem ci_58 : hI0 58 = some (.inl (8, zr)) := by
  rw [show 58 = 6 * 9 + 4 from rfl, hI0_R (by omega) (by omega), sR_4]
  simp only [R0_men, R0_king, R0_load, R0_snow, R0_day, R0_sl, R0_ki, R0_fi, R0_fa, R0_wo, Nat.reduceMul, Nat.reduceAdd]
theorem ci_59 : hI0 59 = some (.inl (8, zr)) := by
  rw [show 59 = 6 * 9 + 5 from rfl, hI0_R (by omega) (by omega), sR_5]
  simp only [R0_men, R0_king, R0_load, R0_snow, R0_day, R0_sl, R0_ki, R0_fi, R0_fa, R0_wo, Nat.reduceMul, Nat.reduceAdd]
theorem ci_60 : hI0 60 = some (.inr (.inr (4, [.ref 61, .ref 62, .ref 63, .ref 64, .ref 65, .int (zI 0), .int (zI 0), .int (zI 12), .int (zI 0), .int (zI 0)]))) := by
  rw [show 60 = 6 * 10 + 0 from rfl, hI0_R (by omega) (by omega), Nat.add_zero, sR_0]
  simp only [R0_men, R0_king, R0_load, R0_snow, R0_day, R0_sl, R0_ki, R0_fi, R0_fa, R0_wo, Nat.reduceMul, Nat.reduceAdd]
theorem ci_61 : hI0 61 = some (.inl (12, onesF 12)) := by
  rw [show 61 = 6 * 10 + 1 from rfl, hI0_R (by omega) (by omega), sR_1]
  simp only [R0_men, R0_king, R0_load, R0_snow, R0_day, R0_sl, R0_ki, R0_fi, R0_fa, R0_wo, Nat.reduceMul, Nat.reduceAdd]
theorem ci_62 : hI0 62 = some (.inl (8, zr)) := by
  rw [show 62 = 6 * 10 + 2 from rfl, hI0_R (by omega) (by omega), sR_2]
  simp only [R0_men, R0_king, R0_load, R0_snow, R0_day, R0_sl, R0_ki, R0_fi, R0_fa, R0_wo, Nat.reduceMul, Nat.reduceAdd]
theorem ci_63 : hI0 63 = some (.inl (8, zr)) := by
  rw [show 63 = 6 * 10 + 3 from rfl, hI0_R (by omega) (by omega), sR_3]
  simp only [R0_men, R0_king, R0_load, R0_snow, R0_day, R0_sl, R0_ki, R0_fi, R0_fa, R0_wo, Nat.reduceMul, Nat.reduceAdd]
theorem ci_64 : hI0 64 = some (.inl (8, zr)) := by
  rw [show 64 = 6 * 10 + 4 from rfl, hI0_R (by omega) (by omega), sR_4]
  simp only [R0_men, R0_king, R0_load, R0_snow, R0_day, R0_sl, R0_ki, R0_fi, R0_fa, R0_wo, Nat.reduceMul, Nat.reduceAdd]
theorem ci_65 : hI0 65 = some (.inl (8, zr)) := by
  rw [show 65 = 6 * 10 + 5 from rfl, hI0_R (by omega) (by omega), sR_5]
  simp only [R0_men, R0_king, R0_load, R0_snow, R0_day, R0_sl, R0_ki, R0_fi, R0_fa, R0_wo, Nat.reduceMul, Nat.reduceAdd]
theorem ci_66 : hI0 66 = some (.inr (.inr (4, [.ref 67, .ref 68, .ref 69, .ref 70, .ref 71, .int (zI 0), .int (zI 0), .int (zI 12), .int (zI 0), .int (zI 0)]))) := by
  rw [show 66 = 6 * 11 + 0 from rfl, hI0_R (by omega) (by omega), Nat.add_zero, sR_0]
  simp only [R0_men, R0_king, R0_load, R0_snow, R0_day, R0_sl, R0_ki, R0_fi, R0_fa, R0_wo, Nat.reduceMul, Nat.reduceAdd]
theorem ci_67 : hI0 67 = some (.inl (12, onesF 12)) := by
  rw [show 67 = 6 * 11 + 1 from rfl, hI0_R (by omega) (by omega), sR_1]
  simp only [R0_men, R0_king, R0_load, R0_snow, R0_day, R0_sl, R0_ki, R0_fi, R0_fa, R0_wo, Nat.reduceMul, Nat.reduceAdd]
theorem ci_68 : hI0 68 = some (.inl (8, zr)) := by
  rw [show 68 = 6 * 11 + 2 from rfl, hI0_R (by omega) (by omega), sR_2]
  simp only [R0_men, R0_king, R0_load, R0_snow, R0_day, R0_sl, R0_ki, R0_fi, R0_fa, R0_wo, Nat.reduceMul, Nat.reduceAdd]
theorem ci_69 : hI0 69 = some (.inl (8, zr)) := by
  rw [show 69 = 6 * 11 + 3 from rfl, hI0_R (by omega) (by omega), sR_3]
  simp only [R0_men, R0_king, R0_load, R0_snow, R0_day, R0_sl, R0_ki, R0_fi, R0_fa, R0_wo, Nat.reduceMul, Nat.reduceAdd]
theorem ci_70 : hI0 70 = some (.inl (8, zr)) := by
  rw [show 70 = 6 * 11 + 4 from rfl, hI0_R (by omega) (by omega), sR_4]
  simp only [R0_men, R0_king, R0_load, R0_snow, R0_day, R0_sl, R0_ki, R0_fi, R0_fa, R0_wo, Nat.reduceMul, Nat.reduceAdd]
theorem ci_71 : hI0 71 = some (.inl (8, zr)) := by
  rw [show 71 = 6 * 11 + 5 from rfl, hI0_R (by omega) (by omega), sR_5]
  simp only [R0_men, R0_king, R0_load, R0_snow, R0_day, R0_sl, R0_ki, R0_fi, R0_fa, R0_wo, Nat.reduceMul, Nat.reduceAdd]
theorem ci_72 : hI0 72 = some (.inr (.inr (4, [.ref 73, .ref 74, .ref 75, .ref 76, .ref 77, .int (zI 0), .int (zI 0), .int (zI 12), .int (zI 0), .int (zI 0)]))) := by
  rw [show 72 = 6 * 12 + 0 from rfl, hI0_R (by omega) (by omega), Nat.add_zero, sR_0]
  simp only [R0_men, R0_king, R0_load, R0_snow, R0_day, R0_sl, R0_ki, R0_fi, R0_fa, R0_wo, Nat.reduceMul, Nat.reduceAdd]
theorem ci_73 : hI0 73 = some (.inl (12, onesF 12)) := by
  rw [show 73 = 6 * 12 + 1 from rfl, hI0_R (by omega) (by omega), sR_1]
  simp only [R0_men, R0_king, R0_load, R0_snow, R0_day, R0_sl, R0_ki, R0_fi, R0_fa, R0_wo, Nat.reduceMul, Nat.reduceAdd]
theorem ci_74 : hI0 74 = some (.inl (8, zr)) := by
  rw [show 74 = 6 * 12 + 2 from rfl, hI0_R (by omega) (by omega), sR_2]
  simp only [R0_men, R0_king, R0_load, R0_snow, R0_day, R0_sl, R0_ki, R0_fi, R0_fa, R0_wo, Nat.reduceMul, Nat.reduceAdd]
theorem ci_75 : hI0 75 = some (.inl (8, zr)) := by
  rw [show 75 = 6 * 12 + 3 from rfl, hI0_R (by omega) (by omega), sR_3]
  simp only [R0_men, R0_king, R0_load, R0_snow, R0_day, R0_sl, R0_ki, R0_fi, R0_fa, R0_wo, Nat.reduceMul, Nat.reduceAdd]
theorem ci_76 : hI0 76 = some (.inl (8, zr)) := by
  rw [show 76 = 6 * 12 + 4 from rfl, hI0_R (by omega) (by omega), sR_4]
  simp only [R0_men, R0_king, R0_load, R0_snow, R0_day, R0_sl, R0_ki, R0_fi, R0_fa, R0_wo, Nat.reduceMul, Nat.reduceAdd]
theorem ci_77 : hI0 77 = some (.inl (8, zr)) := by
  rw [show 77 = 6 * 12 + 5 from rfl, hI0_R (by omega) (by omega), sR_5]
  simp only [R0_men, R0_king, R0_load, R0_snow, R0_day, R0_sl, R0_ki, R0_fi, R0_fa, R0_wo, Nat.reduceMul, Nat.reduceAdd]
theorem ci_78 : hI0 78 = some (.inr (.inr (6, [.ref 0, .ref 6, .ref 12, .ref 79, .ref 81, .ref 83, .ref 85, .ref 88, .ref 89, .int (zI 0)]))) := by
  rw [hI0_lo (by omega)]
  simp [cellX, nul_z]
theorem ci_79 : hI0 79 = some (.inr (.inr (3, [.ref 80, .int (zI 0)]))) := by
  rw [hI0_lo (by omega)]
  simp [cellX, nul_z]
theorem ci_80 : hI0 80 = some (.inr (.inl (8, fun j => some (6 * (3 + j))))) := by
  rw [hI0_lo (by omega)]
  simp [cellX, nul_z]
theorem ci_81 : hI0 81 = some (.inr (.inr (2, [.ref 82, .int (zI 0)]))) := by
  rw [hI0_lo (by omega)]
  simp [cellX, nul_z]
theorem ci_82 : hI0 82 = some (.inl (96, zr)) := by
  rw [hI0_lo (by omega)]
  simp [cellX, nul_z]
theorem ci_83 : hI0 83 = some (.inr (.inr (5, [.ref 84, .int (zI 0)]))) := by
  rw [hI0_lo (by omega)]
  simp [cellX, nul_z]
theorem ci_84 : hI0 84 = some (.inl (12, zr)) := by
  rw [hI0_lo (by omega)]
  simp [cellX, nul_z]
theorem ci_85 : hI0 85 = some (.inr (.inr (1, [.ref 66, .ref 86, .ref 87]))) := by
  rw [hI0_lo (by omega)]
  simp [cellX, nul_z]
theorem ci_86 : hI0 86 = some (.inl (4, zr)) := by
  rw [hI0_lo (by omega)]
  simp [cellX, nul_z]
theorem ci_87 : hI0 87 = some (.inl (4, zr)) := by
  rw [hI0_lo (by omega)]
  simp [cellX, nul_z]
theorem ci_88 : hI0 88 = some (.inr (.inr (0, [.ref 72, .int (zI 0)]))) := by
  rw [hI0_lo (by omega)]
  simp [cellX, nul_z]
theorem ci_89 : hI0 89 = some (.inl (7, zr)) := by
  rw [hI0_lo (by omega)]
  simp [cellX, nul_z]
theorem ci_90 : hI0 90 = some (.inr (.inr (7, [.ref 91, .int (zI 0), .int (zI 12), .int (zI 0), .ref 92, .ref 93, .ref 94, .ref 95, .int (zI 0), .int (zI 0), .int (zI 0), .ref 96, .ref 97, .int (zI 0), .int (zI 0), .int (zI 0), .int (zI 0), .ref 98, .ref 99, .ref 100, .ref 101, .ref 102, .int (zI 0), .int (zI 0), .int (zI 0), .null, .ref 103, .ref 104, .int (zI 0), .ref 105, .int (zI 0), .ref 106, .int (zI 0)]))) := by
  rw [hI0_hi (by omega)]
  unfold hM0
  rw [hM_90]
  simp only [R0_men, R0_king, R0_load, R0_snow, R0_day, R0_sl, R0_ki, R0_fi, R0_fa, R0_wo, nul_z]
theorem ci_91 : hI0 91 = some (.inl (12, onesF 12)) := by
  rw [hI0_hi (by omega)]
  unfold hM0
  rw [hM_91]
  simp only [R0_men, R0_king, R0_load, R0_snow, R0_day, R0_sl, R0_ki, R0_fi, R0_fa, R0_wo, nul_z]
theorem ci_92 : hI0 92 = some (.inl (8, zr)) := by
  rw [hI0_hi (by omega)]
  unfold hM0
  rw [hM_92]
  simp only [R0_men, R0_king, R0_load, R0_snow, R0_day, R0_sl, R0_ki, R0_fi, R0_fa, R0_wo, nul_z]
theorem ci_93 : hI0 93 = some (.inl (8, zr)) := by
  rw [hI0_hi (by omega)]
  unfold hM0
  rw [hM_93]
  simp only [R0_men, R0_king, R0_load, R0_snow, R0_day, R0_sl, R0_ki, R0_fi, R0_fa, R0_wo, nul_z]
theorem ci_94 : hI0 94 = some (.inl (8, zr)) := by
  rw [hI0_hi (by omega)]
  unfold hM0
  rw [hM_94]
  simp only [R0_men, R0_king, R0_load, R0_snow, R0_day, R0_sl, R0_ki, R0_fi, R0_fa, R0_wo, nul_z]
theorem ci_95 : hI0 95 = some (.inl (8, zr)) := by
  rw [hI0_hi (by omega)]
  unfold hM0
  rw [hM_95]
  simp only [R0_men, R0_king, R0_load, R0_snow, R0_day, R0_sl, R0_ki, R0_fi, R0_fa, R0_wo, nul_z]
theorem ci_96 : hI0 96 = some (.inl (7, zr)) := by
  rw [hI0_hi (by omega)]
  unfold hM0
  rw [hM_96]
  simp only [R0_men, R0_king, R0_load, R0_snow, R0_day, R0_sl, R0_ki, R0_fi, R0_fa, R0_wo, nul_z]
theorem ci_97 : hI0 97 = some (.inl (96, zr)) := by
  rw [hI0_hi (by omega)]
  unfold hM0
  rw [hM_97]
  simp only [R0_men, R0_king, R0_load, R0_snow, R0_day, R0_sl, R0_ki, R0_fi, R0_fa, R0_wo, nul_z]
theorem ci_98 : hI0 98 = some (.inl (49, zr)) := by
  rw [hI0_hi (by omega)]
  unfold hM0
  rw [hM_98]
  simp only [R0_men, R0_king, R0_load, R0_snow, R0_day, R0_sl, R0_ki, R0_fi, R0_fa, R0_wo, nul_z]
theorem ci_99 : hI0 99 = some (.inl (49, zr)) := by
  rw [hI0_hi (by omega)]
  unfold hM0
  rw [hM_99]
  simp only [R0_men, R0_king, R0_load, R0_snow, R0_day, R0_sl, R0_ki, R0_fi, R0_fa, R0_wo, nul_z]
theorem ci_100 : hI0 100 = some (.inl (98, zr)) := by
  rw [hI0_hi (by omega)]
  unfold hM0
  rw [hM_100]
  simp only [R0_men, R0_king, R0_load, R0_snow, R0_day, R0_sl, R0_ki, R0_fi, R0_fa, R0_wo, nul_z]
theorem ci_101 : hI0 101 = some (.inl (49, zr)) := by
  rw [hI0_hi (by omega)]
  unfold hM0
  rw [hM_101]
  simp only [R0_men, R0_king, R0_load, R0_snow, R0_day, R0_sl, R0_ki, R0_fi, R0_fa, R0_wo, nul_z]
theorem ci_102 : hI0 102 = some (.inl (49, zr)) := by
  rw [hI0_hi (by omega)]
  unfold hM0
  rw [hM_102]
  simp only [R0_men, R0_king, R0_load, R0_snow, R0_day, R0_sl, R0_ki, R0_fi, R0_fa, R0_wo, nul_z]
theorem ci_103 : hI0 103 = some (.inl (392, zr)) := by
  rw [hI0_hi (by omega)]
  unfold hM0
  rw [hM_103]
  simp only [R0_men, R0_king, R0_load, R0_snow, R0_day, R0_sl, R0_ki, R0_fi, R0_fa, R0_wo, nul_z]
theorem ci_104 : hI0 104 = some (.inl (49, zr)) := by
  rw [hI0_hi (by omega)]
  unfold hM0
  rw [hM_104]
  simp only [R0_men, R0_king, R0_load, R0_snow, R0_day, R0_sl, R0_ki, R0_fi, R0_fa, R0_wo, nul_z]
theorem ci_105 : hI0 105 = some (.inl (12, zr)) := by
  rw [hI0_hi (by omega)]
  unfold hM0
  rw [hM_105]
  simp only [R0_men, R0_king, R0_load, R0_snow, R0_day, R0_sl, R0_ki, R0_fi, R0_fa, R0_wo, nul_z]
theorem ci_106 : hI0 106 = some (.inl (8, zr)) := by
  rw [hI0_hi (by omega)]
  unfold hM0
  rw [hM_106]
  simp only [R0_men, R0_king, R0_load, R0_snow, R0_day, R0_sl, R0_ki, R0_fi, R0_fa, R0_wo, nul_z]
def ordW : List Nat := [78, 0, 1, 2, 3, 4, 5, 6, 7, 8, 9, 10, 11, 12, 13, 14, 15, 16, 17, 79, 80, 18, 19, 20, 21, 22, 23, 24, 25, 26, 27, 28, 29, 30, 31, 32, 33, 34, 35, 36, 37, 38, 39, 40, 41, 42, 43, 44, 45, 46, 47, 48, 49, 50, 51, 52, 53, 54, 55, 56, 57, 58, 59, 60, 61, 62, 63, 64, 65, 81, 82, 83, 84, 85, 66, 67, 68, 69, 70, 71, 86, 87, 88, 72, 73, 74, 75, 76, 77, 89, 90, 91, 92, 93, 94, 95, 96, 97, 98, 99, 100, 101, 102, 103, 104, 105, 106]
theorem ordW_at : (List.range 107).all (fun k => decide (ordW[pls.getD k 0]? = some k)) = true := by decide +kernel
theorem cons2 {a b : Nat × va_E} {l l' : va_W} (h : a = b) (h' : l = l') : a :: l = b :: l' := by rw [h, h']
theorem wf0 {cI cR : ClassId} {σ : Nat → Nat} {k a : Nat} {c : AC} {x : va_E} (h : hI0 k = some c) (ha : a = σ k) (hx : x = ce cI cR σ c) : (a, x) = (σ k, ce cI cR σ ((hI0 k).getD (.inl (0, fun _ => 0)))) := by
  rw [h, ha, hx]
  rfl
theorem world1 {G : va_G} {cI cR : ClassId} {A : Nat → Prop} {H : Heap} {h0 h1 : Nat} {ws2 : va_W} {σ : Nat → Nat} (e1 : σ 78 = h0) (e2 : σ 90 = h1) (hP1 : va_P G vwCl ws2 H) (hD1 : va_D A ws2) (hE : ws2 = ordW.map (fun k => (σ k, ce cI cR σ ((hI0 k).getD (.inl (0, fun _ => 0)))))) : ∃ σ : Nat → Nat, σ 78 = h0 ∧ σ 90 = h1 ∧ va_P G vwCl (wd cI cR σ 107 hI0) H ∧ va_D A (wd cI cR σ 107 hI0) := by
  have hP2 : va_P G vwCl (ordW.map (fun k => (σ k, ce cI cR σ ((hI0 k).getD (.inl (0, fun _ => 0)))))) H := hE ▸ hP1
  have hD2 : va_D A (ordW.map (fun k => (σ k, ce cI cR σ ((hI0 k).getD (.inl (0, fun _ => 0)))))) := hE ▸ hD1
  clear hP1 hD1 hE
  have hall : ∀ k, k < 107 → (ordW.map (fun k => (σ k, ce cI cR (σ) ((hI0 k).getD (.inl (0, fun _ => 0))))))[pls.getD k 0]? = some (σ k, ce cI cR (σ) ((hI0 k).getD (.inl (0, fun _ => 0)))) := by
    intro k hk
    have h1 := List.all_eq_true.mp ordW_at k (List.mem_range.mpr hk)
    rw [decide_eq_true_eq] at h1
    rw [List.getElem?_map, h1]
    rfl
  have at' : ∀ (k : Nat) (q : Nat × va_E), (wd cI cR (σ) 107 hI0)[k]? = some q → k < 107 ∧ (ordW.map (fun k => (σ k, ce cI cR (σ) ((hI0 k).getD (.inl (0, fun _ => 0))))))[pls.getD k 0]? = some q := by
    intro k q hq
    obtain ⟨h1, h2⟩ := wd_at hq
    rw [h2]
    exact ⟨h1, hall k h1⟩
  have hlen : pls.length = 107 := rfl
  refine ⟨σ, e1, e2, fun k q hq => hP2 _ q (at' k q hq).2, fun i j p q hi hj hpq => ?_, fun k q hq => hD2.2 _ q (at' k q hq).2⟩
  have hi := at' i p hi
  have hj := at' j q hj
  have h3 := hD2.1 _ _ p q hi.2 hj.2 hpq
  refine va_nd_inj pls pls_nd i j (pls.getD i 0) ?_ ?_
  · rw [List.getD_eq_getElem?_getD, List.getElem?_eq_getElem (by omega)]
    rfl
  · rw [h3, List.getD_eq_getElem?_getD, List.getElem?_eq_getElem (by omega)]
    rfl
theorem world0 {G : va_G} {cI cR : ClassId} {A : Nat → Prop} {H : Heap} {h0 h1 : Nat} {wx wm : va_W} (hx : Sh6 h0 cI cR wx) (hm : Sh7 h1 cI cR wm) (hP : va_P G vwCl (wx ++ wm) H) (hD : va_D A (wx ++ wm)) : ∃ σ : Nat → Nat, σ 78 = h0 ∧ σ 90 = h1 ∧ va_P G vwCl (wd cI cR σ 107 hI0) H ∧ va_D A (wd cI cR σ 107 hI0) := by
  obtain ⟨r1, r2, r3, q4, q5, q6, q7, q8, q9, w4, w5, w6, w7, w8, ⟨a3, b, rfl⟩, ⟨a2, rfl⟩, ⟨a5, rfl⟩, ⟨rc, a1, b1, rfl⟩, ⟨rh, rfl⟩, rfl⟩ := hx
  obtain ⟨m1, m2, m3, m4, m5, m6, m7, m8, m9, m10, m11, m12, m13, m14, m15, m16, rfl⟩ := hm
  obtain ⟨v, hv⟩ : ∃ v : Nat → Nat, v = fun k => match k with | 0 => h0 | 1 => q4 | 2 => a3 | 3 => q5 | 4 => a2 | 5 => q6 | 6 => a5 | 7 => q7 | 8 => a1 | 9 => b1 | 10 => q8 | 11 => q9 | 12 => h1 | 13 => m1 | 14 => m2 | 15 => m3 | 16 => m4 | 17 => m5 | 18 => m6 | 19 => m7 | 20 => m8 | 21 => m9 | 22 => m10 | 23 => m11 | 24 => m12 | 25 => m13 | 26 => m14 | 27 => m15 | _ => m16 := ⟨_, rfl⟩
  have hb8 : ∀ j, j < 8 → (if j < 8 then some (b j 0) else none) = some (sg r1 r2 r3 b rc rh v (6 * (3 + j))) := by
    intro j hj
    rw [if_pos hj]
    simp only [sg]
    rw [if_neg (by omega), if_neg (by omega), if_neg (by omega), if_pos (by omega), show (6 * (3 + j) - 18) / 6 = j by omega, show (6 * (3 + j) - 18) % 6 = 0 by omega]
  have hP2 := va_P_swap (k := 20) (g := fun j => some (sg r1 r2 r3 b rc rh v (6 * (3 + j)))) rfl hb8 hP
  have hD2 := va_D.set (e := cQ cR 8 (fun j => some (sg r1 r2 r3 b rc rh v (6 * (3 + j))))) (p := 20) hD rfl
  refine world1 (σ := sg r1 r2 r3 b rc rh v) (by rw [hv]; rfl) (by rw [hv]; rfl) hP2 hD2 ?_
  clear hP2 hD2 hb8 hP hD
  subst hv
  exact cons2 (wf0 ci_78 rfl rfl) (cons2 (wf0 ci_0 rfl rfl) (cons2 (wf0 ci_1 rfl rfl) (cons2 (wf0 ci_2 rfl rfl) (cons2 (wf0 ci_3 rfl rfl) (cons2 (wf0 ci_4 rfl rfl) (cons2 (wf0 ci_5 rfl rfl) (cons2 (wf0 ci_6 rfl rfl) (cons2 (wf0 ci_7 rfl rfl) (cons2 (wf0 ci_8 rfl rfl) (cons2 (wf0 ci_9 rfl rfl) (cons2 (wf0 ci_10 rfl rfl) (cons2 (wf0 ci_11 rfl rfl) (cons2 (wf0 ci_12 rfl rfl) (cons2 (wf0 ci_13 rfl rfl) (cons2 (wf0 ci_14 rfl rfl) (cons2 (wf0 ci_15 rfl rfl) (cons2 (wf0 ci_16 rfl rfl) (cons2 (wf0 ci_17 rfl rfl) (cons2 (wf0 ci_79 rfl rfl) (cons2 (wf0 ci_80 rfl rfl) (cons2 (wf0 ci_18 rfl rfl) (cons2 (wf0 ci_19 rfl rfl) (cons2 (wf0 ci_20 rfl rfl) (cons2 (wf0 ci_21 rfl rfl) (cons2 (wf0 ci_22 rfl rfl) (cons2 (wf0 ci_23 rfl rfl) (cons2 (wf0 ci_24 rfl rfl) (cons2 (wf0 ci_25 rfl rfl) (cons2 (wf0 ci_26 rfl rfl) (cons2 (wf0 ci_27 rfl rfl) (cons2 (wf0 ci_28 rfl rfl) (cons2 (wf0 ci_29 rfl rfl) (cons2 (wf0 ci_30 rfl rfl) (cons2 (wf0 ci_31 rfl rfl) (cons2 (wf0 ci_32 rfl rfl) (cons2 (wf0 ci_33 rfl rfl) (cons2 (wf0 ci_34 rfl rfl) (cons2 (wf0 ci_35 rfl rfl) (cons2 (wf0 ci_36 rfl rfl) (cons2 (wf0 ci_37 rfl rfl) (cons2 (wf0 ci_38 rfl rfl) (cons2 (wf0 ci_39 rfl rfl) (cons2 (wf0 ci_40 rfl rfl) (cons2 (wf0 ci_41 rfl rfl) (cons2 (wf0 ci_42 rfl rfl) (cons2 (wf0 ci_43 rfl rfl) (cons2 (wf0 ci_44 rfl rfl) (cons2 (wf0 ci_45 rfl rfl) (cons2 (wf0 ci_46 rfl rfl) (cons2 (wf0 ci_47 rfl rfl) (cons2 (wf0 ci_48 rfl rfl) (cons2 (wf0 ci_49 rfl rfl) (cons2 (wf0 ci_50 rfl rfl) (cons2 (wf0 ci_51 rfl rfl) (cons2 (wf0 ci_52 rfl rfl) (cons2 (wf0 ci_53 rfl rfl) (cons2 (wf0 ci_54 rfl rfl) (cons2 (wf0 ci_55 rfl rfl) (cons2 (wf0 ci_56 rfl rfl) (cons2 (wf0 ci_57 rfl rfl) (cons2 (wf0 ci_58 rfl rfl) (cons2 (wf0 ci_59 rfl rfl) (cons2 (wf0 ci_60 rfl rfl) (cons2 (wf0 ci_61 rfl rfl) (cons2 (wf0 ci_62 rfl rfl) (cons2 (wf0 ci_63 rfl rfl) (cons2 (wf0 ci_64 rfl rfl) (cons2 (wf0 ci_65 rfl rfl) (cons2 (wf0 ci_81 rfl rfl) (cons2 (wf0 ci_82 rfl rfl) (cons2 (wf0 ci_83 rfl rfl) (cons2 (wf0 ci_84 rfl rfl) (cons2 (wf0 ci_85 rfl rfl) (cons2 (wf0 ci_66 rfl rfl) (cons2 (wf0 ci_67 rfl rfl) (cons2 (wf0 ci_68 rfl rfl) (cons2 (wf0 ci_69 rfl rfl) (cons2 (wf0 ci_70 rfl rfl) (cons2 (wf0 ci_71 rfl rfl) (cons2 (wf0 ci_86 rfl rfl) (cons2 (wf0 ci_87 rfl rfl) (cons2 (wf0 ci_88 rfl rfl) (cons2 (wf0 ci_72 rfl rfl) (cons2 (wf0 ci_73 rfl rfl) (cons2 (wf0 ci_74 rfl rfl) (cons2 (wf0 ci_75 rfl rfl) (cons2 (wf0 ci_76 rfl rfl) (cons2 (wf0 ci_77 rfl rfl) (cons2 (wf0 ci_89 rfl rfl) (cons2 (wf0 ci_90 rfl rfl) (cons2 (wf0 ci_91 rfl rfl) (cons2 (wf0 ci_92 rfl rfl) (cons2 (wf0 ci_93 rfl rfl) (cons2 (wf0 ci_94 rfl rfl) (cons2 (wf0 ci_95 rfl rfl) (cons2 (wf0 ci_96 rfl rfl) (cons2 (wf0 ci_97 rfl rfl) (cons2 (wf0 ci_98 rfl rfl) (cons2 (wf0 ci_99 rfl rfl) (cons2 (wf0 ci_100 rfl rfl) (cons2 (wf0 ci_101 rfl rfl) (cons2 (wf0 ci_102 rfl rfl) (cons2 (wf0 ci_103 rfl rfl) (cons2 (wf0 ci_104 rfl rfl) (cons2 (wf0 ci_105 rfl rfl) (cons2 (wf0 ci_106 rfl rfl) (rfl)))))))))))))))))))))))))))))))))))))))))))))))))))))))))))))))))))))))))))))))))))))))))))))))))))))))))))
