/-! ===== the realm: what its six cells hold ===== -/
abbrev RR : Type := (Nat → Int) × (Nat → Int) × (Nat → Int) × (Nat → Int) × (Nat → Int) × Int × Int × Int × Int × Int
def mkR (sl ki fi fa wo : Nat → Int) (men king load snow day : Int) : RR := (sl, ki, fi, fa, wo, men, king, load, snow, day)
def rSl (R : RR) : Nat → Int := R.1
def rKi (R : RR) : Nat → Int := R.2.1
def rFi (R : RR) : Nat → Int := R.2.2.1
def rFa (R : RR) : Nat → Int := R.2.2.2.1
def rWo (R : RR) : Nat → Int := R.2.2.2.2.1
def rMen (R : RR) : Int := R.2.2.2.2.2.1
def rKing (R : RR) : Int := R.2.2.2.2.2.2.1
def rLoad (R : RR) : Int := R.2.2.2.2.2.2.2.1
def rSnow (R : RR) : Int := R.2.2.2.2.2.2.2.2.1
def rDay (R : RR) : Int := R.2.2.2.2.2.2.2.2.2
section RP
variable {sl ki fi fa wo : Nat → Int} {men king load snow day : Int}
theorem rSl_m : rSl (mkR sl ki fi fa wo men king load snow day) = sl := id rfl
theorem rKi_m : rKi (mkR sl ki fi fa wo men king load snow day) = ki := id rfl
theorem rFi_m : rFi (mkR sl ki fi fa wo men king load snow day) = fi := id rfl
theorem rFa_m : rFa (mkR sl ki fi fa wo men king load snow day) = fa := id rfl
theorem rWo_m : rWo (mkR sl ki fi fa wo men king load snow day) = wo := id rfl
theorem rMen_m : rMen (mkR sl ki fi fa wo men king load snow day) = men := id rfl
theorem rKing_m : rKing (mkR sl ki fi fa wo men king load snow day) = king := id rfl
theorem rLoad_m : rLoad (mkR sl ki fi fa wo men king load snow day) = load := id rfl
theorem rSnow_m : rSnow (mkR sl ki fi fa wo men king load snow day) = snow := id rfl
theorem rDay_m : rDay (mkR sl ki fi fa wo men king load snow day) = day := id rfl
end RP
theorem mkR_eta (R : RR) : mkR (rSl R) (rKi R) (rFi R) (rFa R) (rWo R) (rMen R) (rKing R) (rLoad R) (rSnow R) (rDay R) = R := rfl
def upI (f : Nat → Int) (k : Nat) (x : Int) : Nat → Int := fun j => if j = k then x else f j
theorem upd_zI (f : Nat → Int) (k : Nat) (x : Int) : upd (fun j => zI (f j)) k (zI x) = fun j => zI (upI f k x j) := by
  funext j
  simp only [upd, upI]
  split <;> rfl
def setR (h : AH) (r : Nat) (R : RR) : AH := fun k =>
  if k = r then some (.inr (.inr (4, [.ref (r + 1), .ref (r + 2), .ref (r + 3), .ref (r + 4), .ref (r + 5), .int (zI (rMen R)), .int (zI (rKing R)), .int (zI (rLoad R)), .int (zI (rSnow R)), .int (zI (rDay R))])))
  else if k = r + 1 then some (.inl (12, fun j => zI (rSl R j)))
  else if k = r + 2 then some (.inl (8, fun j => zI (rKi R j)))
  else if k = r + 3 then some (.inl (8, fun j => zI (rFi R j)))
  else if k = r + 4 then some (.inl (8, fun j => zI (rFa R j)))
  else if k = r + 5 then some (.inl (8, fun j => zI (rWo R j)))
  else h k
section SR
variable {h : AH} {r : Nat} {R : RR}
theorem sR_0 : setR h r R r = some (.inr (.inr (4, [.ref (r + 1), .ref (r + 2), .ref (r + 3), .ref (r + 4), .ref (r + 5), .int (zI (rMen R)), .int (zI (rKing R)), .int (zI (rLoad R)), .int (zI (rSnow R)), .int (zI (rDay R))]))) := by simp [setR]
theorem sR_1 : setR h r R (r + 1) = some (.inl (12, fun j => zI (rSl R j))) := by simp [setR]
theorem sR_2 : setR h r R (r + 2) = some (.inl (8, fun j => zI (rKi R j))) := by simp [setR]
theorem sR_3 : setR h r R (r + 3) = some (.inl (8, fun j => zI (rFi R j))) := by simp [setR]
theorem sR_4 : setR h r R (r + 4) = some (.inl (8, fun j => zI (rFa R j))) := by simp [setR]
theorem sR_5 : setR h r R (r + 5) = some (.inl (8, fun j => zI (rWo R j))) := by simp [setR]
theorem sR_o {k : Nat} (hk : k < r ∨ r + 5 < k) : setR h r R k = h k := by
  simp only [setR]
  rw [if_neg (by omega), if_neg (by omega), if_neg (by omega), if_neg (by omega), if_neg (by omega), if_neg (by omega)]
theorem sR_sR {R2 : RR} : setR (setR h r R) r R2 = setR h r R2 := by
  funext k
  by_cases e0 : k = r
  · subst e0; simp [ setR]
  by_cases e1 : k = r + 1
  · subst e1; simp [ setR]
  by_cases e2 : k = r + 2
  · subst e2; simp [ setR]
  by_cases e3 : k = r + 3
  · subst e3; simp [ setR]
  by_cases e4 : k = r + 4
  · subst e4; simp [ setR]
  by_cases e5 : k = r + 5
  · subst e5; simp [ setR]
  simp [ setR, e0, e1, e2, e3, e4, e5]
theorem sR_comm {r2 : Nat} {R2 : RR} (hr : r + 5 < r2 ∨ r2 + 5 < r) : setR (setR h r R) r2 R2 = setR (setR h r2 R2) r R := by
  funext k
  by_cases h1 : r ≤ k ∧ k ≤ r + 5
  · rw [sR_o (by omega)]
    have e : k = r ∨ k = r + 1 ∨ k = r + 2 ∨ k = r + 3 ∨ k = r + 4 ∨ k = r + 5 := by omega
    rcases e with rfl | rfl | rfl | rfl | rfl | rfl
    · rw [sR_0, sR_0]
    · rw [sR_1, sR_1]
    · rw [sR_2, sR_2]
    · rw [sR_3, sR_3]
    · rw [sR_4, sR_4]
    · rw [sR_5, sR_5]
  · rw [sR_o (r := r) (by omega)]
    by_cases h2 : r2 ≤ k ∧ k ≤ r2 + 5
    · have e : k = r2 ∨ k = r2 + 1 ∨ k = r2 + 2 ∨ k = r2 + 3 ∨ k = r2 + 4 ∨ k = r2 + 5 := by omega
      rcases e with rfl | rfl | rfl | rfl | rfl | rfl
      · rw [sR_0, sR_0]
      · rw [sR_1, sR_1]
      · rw [sR_2, sR_2]
      · rw [sR_3, sR_3]
      · rw [sR_4, sR_4]
      · rw [sR_5, sR_5]
    · rw [sR_o (by omega), sR_o (by omega), sR_o (by omega)]
theorem hU_R0 {a b c d e : Int} : hU (setR h r R) r (.inr (.inr (4, [.ref (r + 1), .ref (r + 2), .ref (r + 3), .ref (r + 4), .ref (r + 5), .int (zI a), .int (zI b), .int (zI c), .int (zI d), .int (zI e)]))) = setR h r (mkR (rSl R) (rKi R) (rFi R) (rFa R) (rWo R) a b c d e) := by
  funext k
  by_cases e0 : k = r
  · subst e0; simp [ hU, setR, rSl_m, rKi_m, rFi_m, rFa_m, rWo_m, rMen_m, rKing_m, rLoad_m, rSnow_m, rDay_m]
  by_cases e1 : k = r + 1
  · subst e1; simp [ hU, setR, rSl_m, rKi_m, rFi_m, rFa_m, rWo_m, rMen_m, rKing_m, rLoad_m, rSnow_m, rDay_m]
  by_cases e2 : k = r + 2
  · subst e2; simp [ hU, setR, rSl_m, rKi_m, rFi_m, rFa_m, rWo_m, rMen_m, rKing_m, rLoad_m, rSnow_m, rDay_m]
  by_cases e3 : k = r + 3
  · subst e3; simp [ hU, setR, rSl_m, rKi_m, rFi_m, rFa_m, rWo_m, rMen_m, rKing_m, rLoad_m, rSnow_m, rDay_m]
  by_cases e4 : k = r + 4
  · subst e4; simp [ hU, setR, rSl_m, rKi_m, rFi_m, rFa_m, rWo_m, rMen_m, rKing_m, rLoad_m, rSnow_m, rDay_m]
  by_cases e5 : k = r + 5
  · subst e5; simp [ hU, setR, rSl_m, rKi_m, rFi_m, rFa_m, rWo_m, rMen_m, rKing_m, rLoad_m, rSnow_m, rDay_m]
  simp [ hU, setR, rSl_m, rKi_m, rFi_m, rFa_m, rWo_m, rMen_m, rKing_m, rLoad_m, rSnow_m, rDay_m, e0, e1, e2, e3, e4, e5]
theorem hU_R1 {f : Nat → Int} : hU (setR h r R) (r + 1) (.inl (12, fun j => zI (f j))) = setR h r (mkR f (rKi R) (rFi R) (rFa R) (rWo R) (rMen R) (rKing R) (rLoad R) (rSnow R) (rDay R)) := by
  funext k
  by_cases e0 : k = r
  · subst e0; simp [ hU, setR, rSl_m, rKi_m, rFi_m, rFa_m, rWo_m, rMen_m, rKing_m, rLoad_m, rSnow_m, rDay_m]
  by_cases e1 : k = r + 1
  · subst e1; simp [ hU, setR, rSl_m, rKi_m, rFi_m, rFa_m, rWo_m, rMen_m, rKing_m, rLoad_m, rSnow_m, rDay_m]
  by_cases e2 : k = r + 2
  · subst e2; simp [ hU, setR, rSl_m, rKi_m, rFi_m, rFa_m, rWo_m, rMen_m, rKing_m, rLoad_m, rSnow_m, rDay_m]
  by_cases e3 : k = r + 3
  · subst e3; simp [ hU, setR, rSl_m, rKi_m, rFi_m, rFa_m, rWo_m, rMen_m, rKing_m, rLoad_m, rSnow_m, rDay_m]
  by_cases e4 : k = r + 4
  · subst e4; simp [ hU, setR, rSl_m, rKi_m, rFi_m, rFa_m, rWo_m, rMen_m, rKing_m, rLoad_m, rSnow_m, rDay_m]
  by_cases e5 : k = r + 5
  · subst e5; simp [ hU, setR, rSl_m, rKi_m, rFi_m, rFa_m, rWo_m, rMen_m, rKing_m, rLoad_m, rSnow_m, rDay_m]
  simp [ hU, setR, rSl_m, rKi_m, rFi_m, rFa_m, rWo_m, rMen_m, rKing_m, rLoad_m, rSnow_m, rDay_m, e0, e1, e2, e3, e4, e5]
theorem hU_R2 {f : Nat → Int} : hU (setR h r R) (r + 2) (.inl (8, fun j => zI (f j))) = setR h r (mkR (rSl R) f (rFi R) (rFa R) (rWo R) (rMen R) (rKing R) (rLoad R) (rSnow R) (rDay R)) := by
  funext k
  by_cases e0 : k = r
  · subst e0; simp [ hU, setR, rSl_m, rKi_m, rFi_m, rFa_m, rWo_m, rMen_m, rKing_m, rLoad_m, rSnow_m, rDay_m]
  by_cases e1 : k = r + 1
  · subst e1; simp [ hU, setR, rSl_m, rKi_m, rFi_m, rFa_m, rWo_m, rMen_m, rKing_m, rLoad_m, rSnow_m, rDay_m]
  by_cases e2 : k = r + 2
  · subst e2; simp [ hU, setR, rSl_m, rKi_m, rFi_m, rFa_m, rWo_m, rMen_m, rKing_m, rLoad_m, rSnow_m, rDay_m]
  by_cases e3 : k = r + 3
  · subst e3; simp [ hU, setR, rSl_m, rKi_m, rFi_m, rFa_m, rWo_m, rMen_m, rKing_m, rLoad_m, rSnow_m, rDay_m]
  by_cases e4 : k = r + 4
  · subst e4; simp [ hU, setR, rSl_m, rKi_m, rFi_m, rFa_m, rWo_m, rMen_m, rKing_m, rLoad_m, rSnow_m, rDay_m]
  by_cases e5 : k = r + 5
  · subst e5; simp [ hU, setR, rSl_m, rKi_m, rFi_m, rFa_m, rWo_m, rMen_m, rKing_m, rLoad_m, rSnow_m, rDay_m]
  simp [ hU, setR, rSl_m, rKi_m, rFi_m, rFa_m, rWo_m, rMen_m, rKing_m, rLoad_m, rSnow_m, rDay_m, e0, e1, e2, e3, e4, e5]
theorem hU_R3 {f : Nat → Int} : hU (setR h r R) (r + 3) (.inl (8, fun j => zI (f j))) = setR h r (mkR (rSl R) (rKi R) f (rFa R) (rWo R) (rMen R) (rKing R) (rLoad R) (rSnow R) (rDay R)) := by
  funext k
  by_cases e0 : k = r
  · subst e0; simp [ hU, setR, rSl_m, rKi_m, rFi_m, rFa_m, rWo_m, rMen_m, rKing_m, rLoad_m, rSnow_m, rDay_m]
  by_cases e1 : k = r + 1
  · subst e1; simp [ hU, setR, rSl_m, rKi_m, rFi_m, rFa_m, rWo_m, rMen_m, rKing_m, rLoad_m, rSnow_m, rDay_m]
  by_cases e2 : k = r + 2
  · subst e2; simp [ hU, setR, rSl_m, rKi_m, rFi_m, rFa_m, rWo_m, rMen_m, rKing_m, rLoad_m, rSnow_m, rDay_m]
  by_cases e3 : k = r + 3
  · subst e3; simp [ hU, setR, rSl_m, rKi_m, rFi_m, rFa_m, rWo_m, rMen_m, rKing_m, rLoad_m, rSnow_m, rDay_m]
  by_cases e4 : k = r + 4
  · subst e4; simp [ hU, setR, rSl_m, rKi_m, rFi_m, rFa_m, rWo_m, rMen_m, rKing_m, rLoad_m, rSnow_m, rDay_m]
  by_cases e5 : k = r + 5
  · subst e5; simp [ hU, setR, rSl_m, rKi_m, rFi_m, rFa_m, rWo_m, rMen_m, rKing_m, rLoad_m, rSnow_m, rDay_m]
  simp [ hU, setR, rSl_m, rKi_m, rFi_m, rFa_m, rWo_m, rMen_m, rKing_m, rLoad_m, rSnow_m, rDay_m, e0, e1, e2, e3, e4, e5]
theorem hU_R4 {f : Nat → Int} : hU (setR h r R) (r + 4) (.inl (8, fun j => zI (f j))) = setR h r (mkR (rSl R) (rKi R) (rFi R) f (rWo R) (rMen R) (rKing R) (rLoad R) (rSnow R) (rDay R)) := by
  funext k
  by_cases e0 : k = r
  · subst e0; simp [ hU, setR, rSl_m, rKi_m, rFi_m, rFa_m, rWo_m, rMen_m, rKing_m, rLoad_m, rSnow_m, rDay_m]
  by_cases e1 : k = r + 1
  · subst e1; simp [ hU, setR, rSl_m, rKi_m, rFi_m, rFa_m, rWo_m, rMen_m, rKing_m, rLoad_m, rSnow_m, rDay_m]
  by_cases e2 : k = r + 2
  · subst e2; simp [ hU, setR, rSl_m, rKi_m, rFi_m, rFa_m, rWo_m, rMen_m, rKing_m, rLoad_m, rSnow_m, rDay_m]
  by_cases e3 : k = r + 3
  · subst e3; simp [ hU, setR, rSl_m, rKi_m, rFi_m, rFa_m, rWo_m, rMen_m, rKing_m, rLoad_m, rSnow_m, rDay_m]
  by_cases e4 : k = r + 4
  · subst e4; simp [ hU, setR, rSl_m, rKi_m, rFi_m, rFa_m, rWo_m, rMen_m, rKing_m, rLoad_m, rSnow_m, rDay_m]
  by_cases e5 : k = r + 5
  · subst e5; simp [ hU, setR, rSl_m, rKi_m, rFi_m, rFa_m, rWo_m, rMen_m, rKing_m, rLoad_m, rSnow_m, rDay_m]
  simp [ hU, setR, rSl_m, rKi_m, rFi_m, rFa_m, rWo_m, rMen_m, rKing_m, rLoad_m, rSnow_m, rDay_m, e0, e1, e2, e3, e4, e5]
theorem hU_R5 {f : Nat → Int} : hU (setR h r R) (r + 5) (.inl (8, fun j => zI (f j))) = setR h r (mkR (rSl R) (rKi R) (rFi R) (rFa R) f (rMen R) (rKing R) (rLoad R) (rSnow R) (rDay R)) := by
  funext k
  by_cases e0 : k = r
  · subst e0; simp [ hU, setR, rSl_m, rKi_m, rFi_m, rFa_m, rWo_m, rMen_m, rKing_m, rLoad_m, rSnow_m, rDay_m]
  by_cases e1 : k = r + 1
  · subst e1; simp [ hU, setR, rSl_m, rKi_m, rFi_m, rFa_m, rWo_m, rMen_m, rKing_m, rLoad_m, rSnow_m, rDay_m]
  by_cases e2 : k = r + 2
  · subst e2; simp [ hU, setR, rSl_m, rKi_m, rFi_m, rFa_m, rWo_m, rMen_m, rKing_m, rLoad_m, rSnow_m, rDay_m]
  by_cases e3 : k = r + 3
  · subst e3; simp [ hU, setR, rSl_m, rKi_m, rFi_m, rFa_m, rWo_m, rMen_m, rKing_m, rLoad_m, rSnow_m, rDay_m]
  by_cases e4 : k = r + 4
  · subst e4; simp [ hU, setR, rSl_m, rKi_m, rFi_m, rFa_m, rWo_m, rMen_m, rKing_m, rLoad_m, rSnow_m, rDay_m]
  by_cases e5 : k = r + 5
  · subst e5; simp [ hU, setR, rSl_m, rKi_m, rFi_m, rFa_m, rWo_m, rMen_m, rKing_m, rLoad_m, rSnow_m, rDay_m]
  simp [ hU, setR, rSl_m, rKi_m, rFi_m, rFa_m, rWo_m, rMen_m, rKing_m, rLoad_m, rSnow_m, rDay_m, e0, e1, e2, e3, e4, e5]
end SR
def inI (a : Int) : Prop := -2147483648 ≤ a ∧ a < 2147483648
def b2i (b : Bool) : Int := if b then 1 else 0
theorem b2i_t : b2i true = 1 := id rfl
theorem b2i_f : b2i false = 0 := id rfl
theorem zI_b2i (b : Bool) : (zI (b2i b)).toInt = b2i b := by cases b <;> rfl
/-- numbers in their bounds -/
def GR (R : RR) : Prop := (0 ≤ rMen R ∧ rMen R ≤ 8) ∧ (0 ≤ rKing R ∧ rKing R ≤ 12) ∧ (1 ≤ rLoad R ∧ rLoad R ≤ 60) ∧ (0 ≤ rSnow R ∧ rSnow R ≤ 9) ∧ (∀ k, 0 ≤ rSl R k ∧ rSl R k ≤ 9) ∧ (∀ k, 0 ≤ rKi R k ∧ rKi R k ≤ 5) ∧ (∀ k, 0 ≤ rFi R k ∧ rFi R k ≤ 9) ∧ (∀ k, 0 ≤ rFa R k ∧ rFa R k ≤ 2) ∧ (∀ k, 0 ≤ rWo R k ∧ rWo R k ≤ 99)
theorem cst4 : ((4 : Nat) : Int) = 4 := id rfl
theorem cst7 : ((7 : Nat) : Int) = 7 := id rfl
theorem cst8 : ((8 : Nat) : Int) = 8 := id rfl
theorem cst12 : ((12 : Nat) : Int) = 12 := id rfl
theorem cst49 : ((49 : Nat) : Int) = 49 := id rfl
theorem cst96 : ((96 : Nat) : Int) = 96 := id rfl
theorem cst98 : ((98 : Nat) : Int) = 98 := id rfl
theorem cst392 : ((392 : Nat) : Int) = 392 := id rfl
