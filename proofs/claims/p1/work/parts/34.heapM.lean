/-! ===== the reference: its object (90) and its arrays (91 .. 106), by numbers ===== -/
def HM (R : RR) (rf : Nat → Int) (lt : Nat → Int) (lsz : Int) (a0 : Int) (ib : Int) (sm : Int) (pl : Nat → Int) (lo : Nat → Int) (nu : Nat → Int) (kp : Nat → Int) (ig : Nat → Int) (hmg : Int) (p0 : Int) (tk : Int) (ki : Value) (tu : Nat → Int) (tz : Int) (tf : Nat → Int) (tn : Nat → Int) (tsz : Int) (ga : Nat → Int) (sd : Int) (bb : AH) : AH := fun k =>
  if k < 90 then bb k
  else if k = 90 then some (.inr (.inr (7, [.ref 91, .int (zI (rKing R)), .int (zI (rLoad R)), .int (zI (rMen R)), .ref 92, .ref 93, .ref 94, .ref 95, .int (zI (rSnow R)), .int (zI (rDay R)), .int (zI 0), .ref 96, .ref 97, .int (zI lsz), .int (zI a0), .int (zI ib), .int (zI sm), .ref 98, .ref 99, .ref 100, .ref 101, .ref 102, .int (zI hmg), .int (zI p0), .int (zI tk), ki, .ref 103, .ref 104, .int (zI tz), .ref 105, .int (zI tsz), .ref 106, .int (zI sd)])))
  else if k = 91 then some (.inl (12, fun j => zI (rSl R j)))
  else if k = 92 then some (.inl (8, fun j => zI (rKi R j)))
  else if k = 93 then some (.inl (8, fun j => zI (rFi R j)))
  else if k = 94 then some (.inl (8, fun j => zI (rFa R j)))
  else if k = 95 then some (.inl (8, fun j => zI (rWo R j)))
  else if k = 96 then some (.inl (7, fun j => zI (rf j)))
  else if k = 97 then some (.inl (96, fun j => zI (lt j)))
  else if k = 98 then some (.inl (49, fun j => zI (pl j)))
  else if k = 99 then some (.inl (49, fun j => zI (lo j)))
  else if k = 100 then some (.inl (98, fun j => zI (nu j)))
  else if k = 101 then some (.inl (49, fun j => zI (kp j)))
  else if k = 102 then some (.inl (49, fun j => zI (ig j)))
  else if k = 103 then some (.inl (392, fun j => zI (tu j)))
  else if k = 104 then some (.inl (49, fun j => zI (tf j)))
  else if k = 105 then some (.inl (12, fun j => zI (tn j)))
  else if k = 106 then some (.inl (8, fun j => zI (ga j)))
  else none
section HMS
variable {R : RR} {rf : Nat → Int} {lt : Nat → Int} {lsz : Int} {a0 : Int} {ib : Int} {sm : Int} {pl : Nat → Int} {lo : Nat → Int} {nu : Nat → Int} {kp : Nat → Int} {ig : Nat → Int} {hmg : Int} {p0 : Int} {tk : Int} {ki : Value} {tu : Nat → Int} {tz : Int} {tf : Nat → Int} {tn : Nat → Int} {tsz : Int} {ga : Nat → Int} {sd : Int} {bb : AH}
theorem hM_90 : HM R rf lt lsz a0 ib sm pl lo nu kp ig hmg p0 tk ki tu tz tf tn tsz ga sd bb 90 = some (.inr (.inr (7, [.ref 91, .int (zI (rKing R)), .int (zI (rLoad R)), .int (zI (rMen R)), .ref 92, .ref 93, .ref 94, .ref 95, .int (zI (rSnow R)), .int (zI (rDay R)), .int (zI 0), .ref 96, .ref 97, .int (zI lsz), .int (zI a0), .int (zI ib), .int (zI sm), .ref 98, .ref 99, .ref 100, .ref 101, .ref 102, .int (zI hmg), .int (zI p0), .int (zI tk), ki, .ref 103, .ref 104, .int (zI tz), .ref 105, .int (zI tsz), .ref 106, .int (zI sd)]))) := by simp [HM]
theorem hM_91 : HM R rf lt lsz a0 ib sm pl lo nu kp ig hmg p0 tk ki tu tz tf tn tsz ga sd bb 91 = some (.inl (12, fun j => zI (rSl R j))) := by simp [HM]
theorem hM_92 : HM R rf lt lsz a0 ib sm pl lo nu kp ig hmg p0 tk ki tu tz tf tn tsz ga sd bb 92 = some (.inl (8, fun j => zI (rKi R j))) := by simp [HM]
theorem hM_93 : HM R rf lt lsz a0 ib sm pl lo nu kp ig hmg p0 tk ki tu tz tf tn tsz ga sd bb 93 = some (.inl (8, fun j => zI (rFi R j))) := by simp [HM]
theorem hM_94 : HM R rf lt lsz a0 ib sm pl lo nu kp ig hmg p0 tk ki tu tz tf tn tsz ga sd bb 94 = some (.inl (8, fun j => zI (rFa R j))) := by simp [HM]
theorem hM_95 : HM R rf lt lsz a0 ib sm pl lo nu kp ig hmg p0 tk ki tu tz tf tn tsz ga sd bb 95 = some (.inl (8, fun j => zI (rWo R j))) := by simp [HM]
theorem hM_96 : HM R rf lt lsz a0 ib sm pl lo nu kp ig hmg p0 tk ki tu tz tf tn tsz ga sd bb 96 = some (.inl (7, fun j => zI (rf j))) := by simp [HM]
theorem hM_97 : HM R rf lt lsz a0 ib sm pl lo nu kp ig hmg p0 tk ki tu tz tf tn tsz ga sd bb 97 = some (.inl (96, fun j => zI (lt j))) := by simp [HM]
theorem hM_98 : HM R rf lt lsz a0 ib sm pl lo nu kp ig hmg p0 tk ki tu tz tf tn tsz ga sd bb 98 = some (.inl (49, fun j => zI (pl j))) := by simp [HM]
theorem hM_99 : HM R rf lt lsz a0 ib sm pl lo nu kp ig hmg p0 tk ki tu tz tf tn tsz ga sd bb 99 = some (.inl (49, fun j => zI (lo j))) := by simp [HM]
theorem hM_100 : HM R rf lt lsz a0 ib sm pl lo nu kp ig hmg p0 tk ki tu tz tf tn tsz ga sd bb 100 = some (.inl (98, fun j => zI (nu j))) := by simp [HM]
theorem hM_101 : HM R rf lt lsz a0 ib sm pl lo nu kp ig hmg p0 tk ki tu tz tf tn tsz ga sd bb 101 = some (.inl (49, fun j => zI (kp j))) := by simp [HM]
theorem hM_102 : HM R rf lt lsz a0 ib sm pl lo nu kp ig hmg p0 tk ki tu tz tf tn tsz ga sd bb 102 = some (.inl (49, fun j => zI (ig j))) := by simp [HM]
theorem hM_103 : HM R rf lt lsz a0 ib sm pl lo nu kp ig hmg p0 tk ki tu tz tf tn tsz ga sd bb 103 = some (.inl (392, fun j => zI (tu j))) := by simp [HM]
theorem hM_104 : HM R rf lt lsz a0 ib sm pl lo nu kp ig hmg p0 tk ki tu tz tf tn tsz ga sd bb 104 = some (.inl (49, fun j => zI (tf j))) := by simp [HM]
theorem hM_105 : HM R rf lt lsz a0 ib sm pl lo nu kp ig hmg p0 tk ki tu tz tf tn tsz ga sd bb 105 = some (.inl (12, fun j => zI (tn j))) := by simp [HM]
theorem hM_106 : HM R rf lt lsz a0 ib sm pl lo nu kp ig hmg p0 tk ki tu tz tf tn tsz ga sd bb 106 = some (.inl (8, fun j => zI (ga j))) := by simp [HM]
theorem hM_low {k : Nat} (hk : k < 90) : HM R rf lt lsz a0 ib sm pl lo nu kp ig hmg p0 tk ki tu tz tf tn tsz ga sd bb k = bb k := by simp [HM, hk]
theorem hUM_90 {x_king x_load x_men x_snow x_day x_lsz x_a0 x_ib x_sm x_hmg x_p0 x_tk x_tz x_tsz x_sd : Int} {x_ki : Value} : hU (HM R rf lt lsz a0 ib sm pl lo nu kp ig hmg p0 tk ki tu tz tf tn tsz ga sd bb) 90 (.inr (.inr (7, [.ref 91, .int (zI x_king), .int (zI x_load), .int (zI x_men), .ref 92, .ref 93, .ref 94, .ref 95, .int (zI x_snow), .int (zI x_day), .int (zI 0), .ref 96, .ref 97, .int (zI x_lsz), .int (zI x_a0), .int (zI x_ib), .int (zI x_sm), .ref 98, .ref 99, .ref 100, .ref 101, .ref 102, .int (zI x_hmg), .int (zI x_p0), .int (zI x_tk), x_ki, .ref 103, .ref 104, .int (zI x_tz), .ref 105, .int (zI x_tsz), .ref 106, .int (zI x_sd)]))) = HM (mkR (rSl R) (rKi R) (rFi R) (rFa R) (rWo R) x_men x_king x_load x_snow x_day) rf lt x_lsz x_a0 x_ib x_sm pl lo nu kp ig x_hmg x_p0 x_tk x_ki tu x_tz tf tn x_tsz ga x_sd bb := by
  funext k
  by_cases e : k = 90
  · subst e; simp [hU, HM, rMen_m, rKing_m, rLoad_m, rSnow_m, rDay_m]
  · simp only [hU, if_neg e, HM, rSl_m, rKi_m, rFi_m, rFa_m, rWo_m, rMen_m, rKing_m, rLoad_m, rSnow_m, rDay_m]
theorem hUM_91 {x : Nat → Int} : hU (HM R rf lt lsz a0 ib sm pl lo nu kp ig hmg p0 tk ki tu tz tf tn tsz ga sd bb) 91 (.inl (12, fun j => zI (x j))) = HM (sSl R x) rf lt lsz a0 ib sm pl lo nu kp ig hmg p0 tk ki tu tz tf tn tsz ga sd bb := by
  funext k
  by_cases e : k = 91
  · subst e; simp [hU, HM, sSl, sKi, sFi, sFa, sWo, rSl_m, rKi_m, rFi_m, rFa_m, rWo_m]
  · simp only [hU, if_neg e, HM, sSl, sKi, sFi, sFa, sWo, rSl_m, rKi_m, rFi_m, rFa_m, rWo_m, rMen_m, rKing_m, rLoad_m, rSnow_m, rDay_m]
theorem hUM_92 {x : Nat → Int} : hU (HM R rf lt lsz a0 ib sm pl lo nu kp ig hmg p0 tk ki tu tz tf tn tsz ga sd bb) 92 (.inl (8, fun j => zI (x j))) = HM (sKi R x) rf lt lsz a0 ib sm pl lo nu kp ig hmg p0 tk ki tu tz tf tn tsz ga sd bb := by
  funext k
  by_cases e : k = 92
  · subst e; simp [hU, HM, sSl, sKi, sFi, sFa, sWo, rSl_m, rKi_m, rFi_m, rFa_m, rWo_m]
  · simp only [hU, if_neg e, HM, sSl, sKi, sFi, sFa, sWo, rSl_m, rKi_m, rFi_m, rFa_m, rWo_m, rMen_m, rKing_m, rLoad_m, rSnow_m, rDay_m]
theorem hUM_93 {x : Nat → Int} : hU (HM R rf lt lsz a0 ib sm pl lo nu kp ig hmg p0 tk ki tu tz tf tn tsz ga sd bb) 93 (.inl (8, fun j => zI (x j))) = HM (sFi R x) rf lt lsz a0 ib sm pl lo nu kp ig hmg p0 tk ki tu tz tf tn tsz ga sd bb := by
  funext k
  by_cases e : k = 93
  · subst e; simp [hU, HM, sSl, sKi, sFi, sFa, sWo, rSl_m, rKi_m, rFi_m, rFa_m, rWo_m]
  · simp only [hU, if_neg e, HM, sSl, sKi, sFi, sFa, sWo, rSl_m, rKi_m, rFi_m, rFa_m, rWo_m, rMen_m, rKing_m, rLoad_m, rSnow_m, rDay_m]
theorem hUM_94 {x : Nat → Int} : hU (HM R rf lt lsz a0 ib sm pl lo nu kp ig hmg p0 tk ki tu tz tf tn tsz ga sd bb) 94 (.inl (8, fun j => zI (x j))) = HM (sFa R x) rf lt lsz a0 ib sm pl lo nu kp ig hmg p0 tk ki tu tz tf tn tsz ga sd bb := by
  funext k
  by_cases e : k = 94
  · subst e; simp [hU, HM, sSl, sKi, sFi, sFa, sWo, rSl_m, rKi_m, rFi_m, rFa_m, rWo_m]
  · simp only [hU, if_neg e, HM, sSl, sKi, sFi, sFa, sWo, rSl_m, rKi_m, rFi_m, rFa_m, rWo_m, rMen_m, rKing_m, rLoad_m, rSnow_m, rDay_m]
theorem hUM_95 {x : Nat → Int} : hU (HM R rf lt lsz a0 ib sm pl lo nu kp ig hmg p0 tk ki tu tz tf tn tsz ga sd bb) 95 (.inl (8, fun j => zI (x j))) = HM (sWo R x) rf lt lsz a0 ib sm pl lo nu kp ig hmg p0 tk ki tu tz tf tn tsz ga sd bb := by
  funext k
  by_cases e : k = 95
  · subst e; simp [hU, HM, sSl, sKi, sFi, sFa, sWo, rSl_m, rKi_m, rFi_m, rFa_m, rWo_m]
  · simp only [hU, if_neg e, HM, sSl, sKi, sFi, sFa, sWo, rSl_m, rKi_m, rFi_m, rFa_m, rWo_m, rMen_m, rKing_m, rLoad_m, rSnow_m, rDay_m]
theorem hUM_96 {x : Nat → Int} : hU (HM R rf lt lsz a0 ib sm pl lo nu kp ig hmg p0 tk ki tu tz tf tn tsz ga sd bb) 96 (.inl (7, fun j => zI (x j))) = HM R x lt lsz a0 ib sm pl lo nu kp ig hmg p0 tk ki tu tz tf tn tsz ga sd bb := by
  funext k
  by_cases e : k = 96
  · subst e; simp [hU, HM, sSl, sKi, sFi, sFa, sWo, rSl_m, rKi_m, rFi_m, rFa_m, rWo_m]
  · simp only [hU, if_neg e, HM, sSl, sKi, sFi, sFa, sWo, rSl_m, rKi_m, rFi_m, rFa_m, rWo_m, rMen_m, rKing_m, rLoad_m, rSnow_m, rDay_m]
theorem hUM_97 {x : Nat → Int} : hU (HM R rf lt lsz a0 ib sm pl lo nu kp ig hmg p0 tk ki tu tz tf tn tsz ga sd bb) 97 (.inl (96, fun j => zI (x j))) = HM R rf x lsz a0 ib sm pl lo nu kp ig hmg p0 tk ki tu tz tf tn tsz ga sd bb := by
  funext k
  by_cases e : k = 97
  · subst e; simp [hU, HM, sSl, sKi, sFi, sFa, sWo, rSl_m, rKi_m, rFi_m, rFa_m, rWo_m]
  · simp only [hU, if_neg e, HM, sSl, sKi, sFi, sFa, sWo, rSl_m, rKi_m, rFi_m, rFa_m, rWo_m, rMen_m, rKing_m, rLoad_m, rSnow_m, rDay_m]
theorem hUM_98 {x : Nat → Int} : hU (HM R rf lt lsz a0 ib sm pl lo nu kp ig hmg p0 tk ki tu tz tf tn tsz ga sd bb) 98 (.inl (49, fun j => zI (x j))) = HM R rf lt lsz a0 ib sm x lo nu kp ig hmg p0 tk ki tu tz tf tn tsz ga sd bb := by
  funext k
  by_cases e : k = 98
  · subst e; simp [hU, HM, sSl, sKi, sFi, sFa, sWo, rSl_m, rKi_m, rFi_m, rFa_m, rWo_m]
  · simp only [hU, if_neg e, HM, sSl, sKi, sFi, sFa, sWo, rSl_m, rKi_m, rFi_m, rFa_m, rWo_m, rMen_m, rKing_m, rLoad_m, rSnow_m, rDay_m]
theorem hUM_99 {x : Nat → Int} : hU (HM R rf lt lsz a0 ib sm pl lo nu kp ig hmg p0 tk ki tu tz tf tn tsz ga sd bb) 99 (.inl (49, fun j => zI (x j))) = HM R rf lt lsz a0 ib sm pl x nu kp ig hmg p0 tk ki tu tz tf tn tsz ga sd bb := by
  funext k
  by_cases e : k = 99
  · subst e; simp [hU, HM, sSl, sKi, sFi, sFa, sWo, rSl_m, rKi_m, rFi_m, rFa_m, rWo_m]
  · simp only [hU, if_neg e, HM, sSl, sKi, sFi, sFa, sWo, rSl_m, rKi_m, rFi_m, rFa_m, rWo_m, rMen_m, rKing_m, rLoad_m, rSnow_m, rDay_m]
theorem hUM_100 {x : Nat → Int} : hU (HM R rf lt lsz a0 ib sm pl lo nu kp ig hmg p0 tk ki tu tz tf tn tsz ga sd bb) 100 (.inl (98, fun j => zI (x j))) = HM R rf lt lsz a0 ib sm pl lo x kp ig hmg p0 tk ki tu tz tf tn tsz ga sd bb := by
  funext k
  by_cases e : k = 100
  · subst e; simp [hU, HM, sSl, sKi, sFi, sFa, sWo, rSl_m, rKi_m, rFi_m, rFa_m, rWo_m]
  · simp only [hU, if_neg e, HM, sSl, sKi, sFi, sFa, sWo, rSl_m, rKi_m, rFi_m, rFa_m, rWo_m, rMen_m, rKing_m, rLoad_m, rSnow_m, rDay_m]
theorem hUM_101 {x : Nat → Int} : hU (HM R rf lt lsz a0 ib sm pl lo nu kp ig hmg p0 tk ki tu tz tf tn tsz ga sd bb) 101 (.inl (49, fun j => zI (x j))) = HM R rf lt lsz a0 ib sm pl lo nu x ig hmg p0 tk ki tu tz tf tn tsz ga sd bb := by
  funext k
  by_cases e : k = 101
  · subst e; simp [hU, HM, sSl, sKi, sFi, sFa, sWo, rSl_m, rKi_m, rFi_m, rFa_m, rWo_m]
  · simp only [hU, if_neg e, HM, sSl, sKi, sFi, sFa, sWo, rSl_m, rKi_m, rFi_m, rFa_m, rWo_m, rMen_m, rKing_m, rLoad_m, rSnow_m, rDay_m]
theorem hUM_102 {x : Nat → Int} : hU (HM R rf lt lsz a0 ib sm pl lo nu kp ig hmg p0 tk ki tu tz tf tn tsz ga sd bb) 102 (.inl (49, fun j => zI (x j))) = HM R rf lt lsz a0 ib sm pl lo nu kp x hmg p0 tk ki tu tz tf tn tsz ga sd bb := by
  funext k
  by_cases e : k = 102
  · subst e; simp [hU, HM, sSl, sKi, sFi, sFa, sWo, rSl_m, rKi_m, rFi_m, rFa_m, rWo_m]
  · simp only [hU, if_neg e, HM, sSl, sKi, sFi, sFa, sWo, rSl_m, rKi_m, rFi_m, rFa_m, rWo_m, rMen_m, rKing_m, rLoad_m, rSnow_m, rDay_m]
theorem hUM_103 {x : Nat → Int} : hU (HM R rf lt lsz a0 ib sm pl lo nu kp ig hmg p0 tk ki tu tz tf tn tsz ga sd bb) 103 (.inl (392, fun j => zI (x j))) = HM R rf lt lsz a0 ib sm pl lo nu kp ig hmg p0 tk ki x tz tf tn tsz ga sd bb := by
  funext k
  by_cases e : k = 103
  · subst e; simp [hU, HM, sSl, sKi, sFi, sFa, sWo, rSl_m, rKi_m, rFi_m, rFa_m, rWo_m]
  · simp only [hU, if_neg e, HM, sSl, sKi, sFi, sFa, sWo, rSl_m, rKi_m, rFi_m, rFa_m, rWo_m, rMen_m, rKing_m, rLoad_m, rSnow_m, rDay_m]
theorem hUM_104 {x : Nat → Int} : hU (HM R rf lt lsz a0 ib sm pl lo nu kp ig hmg p0 tk ki tu tz tf tn tsz ga sd bb) 104 (.inl (49, fun j => zI (x j))) = HM R rf lt lsz a0 ib sm pl lo nu kp ig hmg p0 tk ki tu tz x tn tsz ga sd bb := by
  funext k
  by_cases e : k = 104
  · subst e; simp [hU, HM, sSl, sKi, sFi, sFa, sWo, rSl_m, rKi_m, rFi_m, rFa_m, rWo_m]
  · simp only [hU, if_neg e, HM, sSl, sKi, sFi, sFa, sWo, rSl_m, rKi_m, rFi_m, rFa_m, rWo_m, rMen_m, rKing_m, rLoad_m, rSnow_m, rDay_m]
theorem hUM_105 {x : Nat → Int} : hU (HM R rf lt lsz a0 ib sm pl lo nu kp ig hmg p0 tk ki tu tz tf tn tsz ga sd bb) 105 (.inl (12, fun j => zI (x j))) = HM R rf lt lsz a0 ib sm pl lo nu kp ig hmg p0 tk ki tu tz tf x tsz ga sd bb := by
  funext k
  by_cases e : k = 105
  · subst e; simp [hU, HM, sSl, sKi, sFi, sFa, sWo, rSl_m, rKi_m, rFi_m, rFa_m, rWo_m]
  · simp only [hU, if_neg e, HM, sSl, sKi, sFi, sFa, sWo, rSl_m, rKi_m, rFi_m, rFa_m, rWo_m, rMen_m, rKing_m, rLoad_m, rSnow_m, rDay_m]
theorem hUM_106 {x : Nat → Int} : hU (HM R rf lt lsz a0 ib sm pl lo nu kp ig hmg p0 tk ki tu tz tf tn tsz ga sd bb) 106 (.inl (8, fun j => zI (x j))) = HM R rf lt lsz a0 ib sm pl lo nu kp ig hmg p0 tk ki tu tz tf tn tsz x sd bb := by
  funext k
  by_cases e : k = 106
  · subst e; simp [hU, HM, sSl, sKi, sFi, sFa, sWo, rSl_m, rKi_m, rFi_m, rFa_m, rWo_m]
  · simp only [hU, if_neg e, HM, sSl, sKi, sFi, sFa, sWo, rSl_m, rKi_m, rFi_m, rFa_m, rWo_m, rMen_m, rKing_m, rLoad_m, rSnow_m, rDay_m]
end HMS
