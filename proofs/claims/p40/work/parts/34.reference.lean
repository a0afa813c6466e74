/-! heapM -/
section
/-! ===== the reference: its object (90) and its arrays (91 .. 106), by numbers ===== -/
def HM (R : RR) (rf : Nat → Int) (lt : Nat → Int) (lsz : Int) (a0 : Int) (ib : Int) (sm : Int) (pl : Nat → Int) (lo : Nat → Int) (nu : Nat → Int) (kp : Nat → Int) (ig : Nat → Int) (hmg : Int) (p0 : Int) (tk : Int) (ki : Value) (tu : Nat → Int) (tz : Int) (tf : Nat → Int) (tn : Nat → Int) (tsz : Int) (ga : Nat → Int) (sd : Int) (bb : AH) : AH := fun k =>
  if k < 90 then bb k
  else if k = 90 then some (.inr (.inr (7, [.ref 91, .int (zI (hd_ R)), .int (zI (rLoad R)), .int (zI (rMen R)), .ref 92, .ref 93, .ref 94, .ref 95, .int (zI (rSnow R)), .int (zI (hh_ R)), .int (zI 0), .ref 96, .ref 97, .int (zI lsz), .int (zI a0), .int (zI ib), .int (zI sm), .ref 98, .ref 99, .ref 100, .ref 101, .ref 102, .int (zI hmg), .int (zI p0), .int (zI tk), ki, .ref 103, .ref 104, .int (zI tz), .ref 105, .int (zI tsz), .ref 106, .int (zI sd)])))
  else if k = 91 then some (.inl (12, fun j => zI (rSl R j)))
  else if k = 92 then some (.inl (8, fun j => zI (rKi R j)))
  else if k = 93 then some (.inl (8, fun j => zI (rFi R j)))
  else if k = 94 then some (.inl (8, fun j => zI (rFa R j)))
  else if k = 95 then some (.inl (8, fun j => zI (rWo R j)))
  else if k = 96 then some (.inl (7, fun j => zI (rf j)))
  else if k = 97 then some (.inl (96, fun j => zI (lt j)))
  else if k = 98 then some (.inl (49, fun j => zI (pl j)))
  else if k = 99 then some (.inl (49, fun j => zI (lo j)))
  else if k = 100 then some (.inl (98, fun j => zI (nu j)))
  else if k = 101 then some (.inl (49, fun j => zI (kp j)))
  else if k = 102 then some (.inl (49, fun j => zI (ig j)))
  else if k = 103 then some (.inl (392, fun j => zI (tu j)))
  else if k = 104 then some (.inl (49, fun j => zI (tf j)))
  else if k = 105 then some (.inl (12, fun j => zI (tn j)))
  else if k = 106 then some (.inl (8, fun j => zI (ga j)))
  else none
section HMS
variable {R : RR} {rf : Nat → Int} {lt : Nat → Int} {lsz : Int} {a0 : Int} {ib : Int} {sm : Int} {pl : Nat → Int} {lo : Nat → Int} {nu : Nat → Int} {kp : Nat → Int} {ig : Nat → Int} {hmg : Int} {p0 : Int} {tk : Int} {ki : Value} {tu : Nat → Int} {tz : Int} {tf : Nat → Int} {tn : Nat → Int} {tsz : Int} {ga : Nat → Int} {sd : Int} {bb : AH}
theorem gv_ : HM R rf lt lsz a0 ib sm pl lo nu kp ig hmg p0 tk ki tu tz tf tn tsz ga sd bb 90 = some (.inr (.inr (7, [.ref 91, .int (zI (hd_ R)), .int (zI (rLoad R)), .int (zI (rMen R)), .ref 92, .ref 93, .ref 94, .ref 95, .int (zI (rSnow R)), .int (zI (hh_ R)), .int (zI 0), .ref 96, .ref 97, .int (zI lsz), .int (zI a0), .int (zI ib), .int (zI sm), .ref 98, .ref 99, .ref 100, .ref 101, .ref 102, .int (zI hmg), .int (zI p0), .int (zI tk), ki, .ref 103, .ref 104, .int (zI tz), .ref 105, .int (zI tsz), .ref 106, .int (zI sd)]))) := by simp [HM]
theorem g1_ : HM R rf lt lsz a0 ib sm pl lo nu kp ig hmg p0 tk ki tu tz tf tn tsz ga sd bb 91 = some (.inl (12, fun j => zI (rSl R j))) := by simp [HM]
theorem g0_ : HM R rf lt lsz a0 ib sm pl lo nu kp ig hmg p0 tk ki tu tz tf tn tsz ga sd bb 92 = some (.inl (8, fun j => zI (rKi R j))) := by simp [HM]
theorem gz_ : HM R rf lt lsz a0 ib sm pl lo nu kp ig hmg p0 tk ki tu tz tf tn tsz ga sd bb 93 = some (.inl (8, fun j => zI (rFi R j))) := by simp [HM]
theorem g4_ : HM R rf lt lsz a0 ib sm pl lo nu kp ig hmg p0 tk ki tu tz tf tn tsz ga sd bb 94 = some (.inl (8, fun j => zI (rFa R j))) := by simp [HM]
theorem gx_ : HM R rf lt lsz a0 ib sm pl lo nu kp ig hmg p0 tk ki tu tz tf tn tsz ga sd bb 95 = some (.inl (8, fun j => zI (rWo R j))) := by simp [HM]
theorem g3_ : HM R rf lt lsz a0 ib sm pl lo nu kp ig hmg p0 tk ki tu tz tf tn tsz ga sd bb 96 = some (.inl (7, fun j => zI (rf j))) := by simp [HM]
theorem gy_ : HM R rf lt lsz a0 ib sm pl lo nu kp ig hmg p0 tk ki tu tz tf tn tsz ga sd bb 97 = some (.inl (96, fun j => zI (lt j))) := by simp [HM]
theorem g2_ : HM R rf lt lsz a0 ib sm pl lo nu kp ig hmg p0 tk ki tu tz tf tn tsz ga sd bb 98 = some (.inl (49, fun j => zI (pl j))) := by simp [HM]
theorem gw_ : HM R rf lt lsz a0 ib sm pl lo nu kp ig hmg p0 tk ki tu tz tf tn tsz ga sd bb 99 = some (.inl (49, fun j => zI (lo j))) := by simp [HM]
theorem gg_ : HM R rf lt lsz a0 ib sm pl lo nu kp ig hmg p0 tk ki tu tz tf tn tsz ga sd bb 100 = some (.inl (98, fun j => zI (nu j))) := by simp [HM]
theorem gk_ : HM R rf lt lsz a0 ib sm pl lo nu kp ig hmg p0 tk ki tu tz tf tn tsz ga sd bb 101 = some (.inl (49, fun j => zI (kp j))) := by simp [HM]
theorem gi_ : HM R rf lt lsz a0 ib sm pl lo nu kp ig hmg p0 tk ki tu tz tf tn tsz ga sd bb 102 = some (.inl (49, fun j => zI (ig j))) := by simp [HM]
theorem gh_ : HM R rf lt lsz a0 ib sm pl lo nu kp ig hmg p0 tk ki tu tz tf tn tsz ga sd bb 103 = some (.inl (392, fun j => zI (tu j))) := by simp [HM]
theorem gj_ : HM R rf lt lsz a0 ib sm pl lo nu kp ig hmg p0 tk ki tu tz tf tn tsz ga sd bb 104 = some (.inl (49, fun j => zI (tf j))) := by simp [HM]
theorem ge_ : HM R rf lt lsz a0 ib sm pl lo nu kp ig hmg p0 tk ki tu tz tf tn tsz ga sd bb 105 = some (.inl (12, fun j => zI (tn j))) := by simp [HM]
theorem gf_ : HM R rf lt lsz a0 ib sm pl lo nu kp ig hmg p0 tk ki tu tz tf tn tsz ga sd bb 106 = some (.inl (8, fun j => zI (ga j))) := by simp [HM]
theorem hM_low {k : Nat} (hk : k < 90) : HM R rf lt lsz a0 ib sm pl lo nu kp ig hmg p0 tk ki tu tz tf tn tsz ga sd bb k = bb k := by simp [HM, hk]
theorem gu_ {x_king x_load x_men x_snow x_day x_lsz x_a0 x_ib x_sm x_hmg x_p0 x_tk x_tz x_tsz x_sd : Int} {x_ki : Value} : hU (HM R rf lt lsz a0 ib sm pl lo nu kp ig hmg p0 tk ki tu tz tf tn tsz ga sd bb) 90 (.inr (.inr (7, [.ref 91, .int (zI x_king), .int (zI x_load), .int (zI x_men), .ref 92, .ref 93, .ref 94, .ref 95, .int (zI x_snow), .int (zI x_day), .int (zI 0), .ref 96, .ref 97, .int (zI x_lsz), .int (zI x_a0), .int (zI x_ib), .int (zI x_sm), .ref 98, .ref 99, .ref 100, .ref 101, .ref 102, .int (zI x_hmg), .int (zI x_p0), .int (zI x_tk), x_ki, .ref 103, .ref 104, .int (zI x_tz), .ref 105, .int (zI x_tsz), .ref 106, .int (zI x_sd)]))) = HM (mkR (rSl R) (rKi R) (rFi R) (rFa R) (rWo R) x_men x_king x_load x_snow x_day) rf lt x_lsz x_a0 x_ib x_sm pl lo nu kp ig x_hmg x_p0 x_tk x_ki tu x_tz tf tn x_tsz ga x_sd bb := by
  funext k
  by_cases e : k = 90
  · subst e; simp [hU, HM, cd_, a9_, a8_, a7_, ce_]
  · simp only [hU, if_neg e, HM, dt_, dv_, du_, dr_, ds_, cd_, a9_, a8_, a7_, ce_]
theorem gt_ {x : Nat → Int} : hU (HM R rf lt lsz a0 ib sm pl lo nu kp ig hmg p0 tk ki tu tz tf tn tsz ga sd bb) 91 (.inl (12, fun j => zI (x j))) = HM (sSl R x) rf lt lsz a0 ib sm pl lo nu kp ig hmg p0 tk ki tu tz tf tn tsz ga sd bb := by
  funext k
  by_cases e : k = 91
  · subst e; simp [hU, HM, sSl, sKi, sFi, sFa, sWo, dt_, dv_, du_, dr_, ds_]
  · simp only [hU, if_neg e, HM, sSl, sKi, sFi, sFa, sWo, dt_, dv_, du_, dr_, ds_, cd_, a9_, a8_, a7_, ce_]
theorem go_ {x : Nat → Int} : hU (HM R rf lt lsz a0 ib sm pl lo nu kp ig hmg p0 tk ki tu tz tf tn tsz ga sd bb) 92 (.inl (8, fun j => zI (x j))) = HM (sKi R x) rf lt lsz a0 ib sm pl lo nu kp ig hmg p0 tk ki tu tz tf tn tsz ga sd bb := by
  funext k
  by_cases e : k = 92
  · subst e; simp [hU, HM, sSl, sKi, sFi, sFa, sWo, dt_, dv_, du_, dr_, ds_]
  · simp only [hU, if_neg e, HM, sSl, sKi, sFi, sFa, sWo, dt_, dv_, du_, dr_, ds_, cd_, a9_, a8_, a7_, ce_]
theorem gn_ {x : Nat → Int} : hU (HM R rf lt lsz a0 ib sm pl lo nu kp ig hmg p0 tk ki tu tz tf tn tsz ga sd bb) 93 (.inl (8, fun j => zI (x j))) = HM (sFi R x) rf lt lsz a0 ib sm pl lo nu kp ig hmg p0 tk ki tu tz tf tn tsz ga sd bb := by
  funext k
  by_cases e : k = 93
  · subst e; simp [hU, HM, sSl, sKi, sFi, sFa, sWo, dt_, dv_, du_, dr_, ds_]
  · simp only [hU, if_neg e, HM, sSl, sKi, sFi, sFa, sWo, dt_, dv_, du_, dr_, ds_, cd_, a9_, a8_, a7_, ce_]
theorem gs_ {x : Nat → Int} : hU (HM R rf lt lsz a0 ib sm pl lo nu kp ig hmg p0 tk ki tu tz tf tn tsz ga sd bb) 94 (.inl (8, fun j => zI (x j))) = HM (sFa R x) rf lt lsz a0 ib sm pl lo nu kp ig hmg p0 tk ki tu tz tf tn tsz ga sd bb := by
  funext k
  by_cases e : k = 94
  · subst e; simp [hU, HM, sSl, sKi, sFi, sFa, sWo, dt_, dv_, du_, dr_, ds_]
  · simp only [hU, if_neg e, HM, sSl, sKi, sFi, sFa, sWo, dt_, dv_, du_, dr_, ds_, cd_, a9_, a8_, a7_, ce_]
theorem gm_ {x : Nat → Int} : hU (HM R rf lt lsz a0 ib sm pl lo nu kp ig hmg p0 tk ki tu tz tf tn tsz ga sd bb) 95 (.inl (8, fun j => zI (x j))) = HM (sWo R x) rf lt lsz a0 ib sm pl lo nu kp ig hmg p0 tk ki tu tz tf tn tsz ga sd bb := by
  funext k
  by_cases e : k = 95
  · subst e; simp [hU, HM, sSl, sKi, sFi, sFa, sWo, dt_, dv_, du_, dr_, ds_]
  · simp only [hU, if_neg e, HM, sSl, sKi, sFi, sFa, sWo, dt_, dv_, du_, dr_, ds_, cd_, a9_, a8_, a7_, ce_]
theorem gq_ {x : Nat → Int} : hU (HM R rf lt lsz a0 ib sm pl lo nu kp ig hmg p0 tk ki tu tz tf tn tsz ga sd bb) 96 (.inl (7, fun j => zI (x j))) = HM R x lt lsz a0 ib sm pl lo nu kp ig hmg p0 tk ki tu tz tf tn tsz ga sd bb := by
  funext k
  by_cases e : k = 96
  · subst e; simp [hU, HM, sSl, sKi, sFi, sFa, sWo, dt_, dv_, du_, dr_, ds_]
  · simp only [hU, if_neg e, HM, sSl, sKi, sFi, sFa, sWo, dt_, dv_, du_, dr_, ds_, cd_, a9_, a8_, a7_, ce_]
theorem gl_ {x : Nat → Int} : hU (HM R rf lt lsz a0 ib sm pl lo nu kp ig hmg p0 tk ki tu tz tf tn tsz ga sd bb) 97 (.inl (96, fun j => zI (x j))) = HM R rf x lsz a0 ib sm pl lo nu kp ig hmg p0 tk ki tu tz tf tn tsz ga sd bb := by
  funext k
  by_cases e : k = 97
  · subst e; simp [hU, HM, sSl, sKi, sFi, sFa, sWo, dt_, dv_, du_, dr_, ds_]
  · simp only [hU, if_neg e, HM, sSl, sKi, sFi, sFa, sWo, dt_, dv_, du_, dr_, ds_, cd_, a9_, a8_, a7_, ce_]
theorem gp_ {x : Nat → Int} : hU (HM R rf lt lsz a0 ib sm pl lo nu kp ig hmg p0 tk ki tu tz tf tn tsz ga sd bb) 98 (.inl (49, fun j => zI (x j))) = HM R rf lt lsz a0 ib sm x lo nu kp ig hmg p0 tk ki tu tz tf tn tsz ga sd bb := by
  funext k
  by_cases e : k = 98
  · subst e; simp [hU, HM, sSl, sKi, sFi, sFa, sWo, dt_, dv_, du_, dr_, ds_]
  · simp only [hU, if_neg e, HM, sSl, sKi, sFi, sFa, sWo, dt_, dv_, du_, dr_, ds_, cd_, a9_, a8_, a7_, ce_]
theorem gr_ {x : Nat → Int} : hU (HM R rf lt lsz a0 ib sm pl lo nu kp ig hmg p0 tk ki tu tz tf tn tsz ga sd bb) 99 (.inl (49, fun j => zI (x j))) = HM R rf lt lsz a0 ib sm pl x nu kp ig hmg p0 tk ki tu tz tf tn tsz ga sd bb := by
  funext k
  by_cases e : k = 99
  · subst e; simp [hU, HM, sSl, sKi, sFi, sFa, sWo, dt_, dv_, du_, dr_, ds_]
  · simp only [hU, if_neg e, HM, sSl, sKi, sFi, sFa, sWo, dt_, dv_, du_, dr_, ds_, cd_, a9_, a8_, a7_, ce_]
theorem f6_ {x : Nat → Int} : hU (HM R rf lt lsz a0 ib sm pl lo nu kp ig hmg p0 tk ki tu tz tf tn tsz ga sd bb) 100 (.inl (98, fun j => zI (x j))) = HM R rf lt lsz a0 ib sm pl lo x kp ig hmg p0 tk ki tu tz tf tn tsz ga sd bb := by
  funext k
  by_cases e : k = 100
  · subst e; simp [hU, HM, sSl, sKi, sFi, sFa, sWo, dt_, dv_, du_, dr_, ds_]
  · simp only [hU, if_neg e, HM, sSl, sKi, sFi, sFa, sWo, dt_, dv_, du_, dr_, ds_, cd_, a9_, a8_, a7_, ce_]
theorem f7_ {x : Nat → Int} : hU (HM R rf lt lsz a0 ib sm pl lo nu kp ig hmg p0 tk ki tu tz tf tn tsz ga sd bb) 101 (.inl (49, fun j => zI (x j))) = HM R rf lt lsz a0 ib sm pl lo nu x ig hmg p0 tk ki tu tz tf tn tsz ga sd bb := by
  funext k
  by_cases e : k = 101
  · subst e; simp [hU, HM, sSl, sKi, sFi, sFa, sWo, dt_, dv_, du_, dr_, ds_]
  · simp only [hU, if_neg e, HM, sSl, sKi, sFi, sFa, sWo, dt_, dv_, du_, dr_, ds_, cd_, a9_, a8_, a7_, ce_]
theorem f5_ {x : Nat → Int} : hU (HM R rf lt lsz a0 ib sm pl lo nu kp ig hmg p0 tk ki tu tz tf tn tsz ga sd bb) 102 (.inl (49, fun j => zI (x j))) = HM R rf lt lsz a0 ib sm pl lo nu kp x hmg p0 tk ki tu tz tf tn tsz ga sd bb := by
  funext k
  by_cases e : k = 102
  · subst e; simp [hU, HM, sSl, sKi, sFi, sFa, sWo, dt_, dv_, du_, dr_, ds_]
  · simp only [hU, if_neg e, HM, sSl, sKi, sFi, sFa, sWo, dt_, dv_, du_, dr_, ds_, cd_, a9_, a8_, a7_, ce_]
theorem gb_ {x : Nat → Int} : hU (HM R rf lt lsz a0 ib sm pl lo nu kp ig hmg p0 tk ki tu tz tf tn tsz ga sd bb) 103 (.inl (392, fun j => zI (x j))) = HM R rf lt lsz a0 ib sm pl lo nu kp ig hmg p0 tk ki x tz tf tn tsz ga sd bb := by
  funext k
  by_cases e : k = 103
  · subst e; simp [hU, HM, sSl, sKi, sFi, sFa, sWo, dt_, dv_, du_, dr_, ds_]
  · simp only [hU, if_neg e, HM, sSl, sKi, sFi, sFa, sWo, dt_, dv_, du_, dr_, ds_, cd_, a9_, a8_, a7_, ce_]
theorem f8_ {x : Nat → Int} : hU (HM R rf lt lsz a0 ib sm pl lo nu kp ig hmg p0 tk ki tu tz tf tn tsz ga sd bb) 104 (.inl (49, fun j => zI (x j))) = HM R rf lt lsz a0 ib sm pl lo nu kp ig hmg p0 tk ki tu tz x tn tsz ga sd bb := by
  funext k
  by_cases e : k = 104
  · subst e; simp [hU, HM, sSl, sKi, sFi, sFa, sWo, dt_, dv_, du_, dr_, ds_]
  · simp only [hU, if_neg e, HM, sSl, sKi, sFi, sFa, sWo, dt_, dv_, du_, dr_, ds_, cd_, a9_, a8_, a7_, ce_]
theorem ga_ {x : Nat → Int} : hU (HM R rf lt lsz a0 ib sm pl lo nu kp ig hmg p0 tk ki tu tz tf tn tsz ga sd bb) 105 (.inl (12, fun j => zI (x j))) = HM R rf lt lsz a0 ib sm pl lo nu kp ig hmg p0 tk ki tu tz tf x tsz ga sd bb := by
  funext k
  by_cases e : k = 105
  · subst e; simp [hU, HM, sSl, sKi, sFi, sFa, sWo, dt_, dv_, du_, dr_, ds_]
  · simp only [hU, if_neg e, HM, sSl, sKi, sFi, sFa, sWo, dt_, dv_, du_, dr_, ds_, cd_, a9_, a8_, a7_, ce_]
theorem f9_ {x : Nat → Int} : hU (HM R rf lt lsz a0 ib sm pl lo nu kp ig hmg p0 tk ki tu tz tf tn tsz ga sd bb) 106 (.inl (8, fun j => zI (x j))) = HM R rf lt lsz a0 ib sm pl lo nu kp ig hmg p0 tk ki tu tz tf tn tsz x sd bb := by
  funext k
  by_cases e : k = 106
  · subst e; simp [hU, HM, sSl, sKi, sFi, sFa, sWo, dt_, dv_, du_, dr_, ds_]
  · simp only [hU, if_neg e, HM, sSl, sKi, sFi, sFa, sWo, dt_, dv_, du_, dr_, ds_, cd_, a9_, a8_, a7_, ce_]
end HMS
end
/-! smallM -/
section
/-! ===== the reference's small helpers ===== -/
section D1
variable {h : AH} {Q : Option Value → AH → Prop}
theorem con_Min {v a b : Int} (hv : inI v) (ha : inI a) (hb : inI b) (h1 : a ≤ v ∧ v ≤ b → Q (some (.int (zI 1))) h) (h0 : ¬ (a ≤ v ∧ v ≤ b) → Q (some (.int (zI 0))) h) : Con M_M_in [.long (zJ v), .long (zJ a), .long (zJ b)] h Q := by
  obtain ⟨v1, v2⟩ := id hv
  obtain ⟨a1, a2⟩ := id ha
  obtain ⟨b1, b2⟩ := id hb
  refine g8_ (L := [some (.long (zJ v)), none, some (.long (zJ a)), none, some (.long (zJ b)), none]) ok_M_in (Nat.le_of_ble_eq_true rfl) rfl ?_
  refine w_M_in_0 ?_
  simp (disch := omega) only [cm_,aq_,a1_,ay_,ag_,b8_,af_,ah_,ba_,bc_,bx_,bb_,bv_,bh_,bo_,c0_,bz_,bu_,am_,ae_,ac_,bq_,ed_,bs_,a0_,ao_,as_,az_,a4_,aw_,dw_,d6_,ea_,d3_,b5_,fh_,fw_,fu_,fp_,fz_,fq_,fk_,ft_,fs_,f0_,c5_,bd_,ct_,cx_,co_,cr_,cz_,cj_,eb_,d5_,cf_,ch_,ci_,cy_,an_,cl_,cv_,fm_,fv_,d1_,cq_,Int.toNat_natCast,c7_,ej_,f3_,di_,dm_,dn_,er_,cc_,ek_,em_,gv_,g1_,g0_,gz_,gx_,g3_,gq_,f4_,Int.add_zero,Int.zero_add,Int.ediv_one,Nat.reduceAdd,Nat.reduceMul,Int.reduceNeg,Nat.reduceLeDiff,List.length_cons,List.length_nil,true_and,and_true,Nat.zero_add,eq_self,Nat.reduceEqDiff,Int.reduceAdd,Int.reduceSub,Int.reduceMul,not_true_eq_false,not_false_eq_true,Nat.reduceLT,Int.reduceToNat,Int.reduceEq,Int.reduceNe,Int.reduceLT,Int.reduceLE,or_true,true_or,or_false,false_or,and_self,false_implies,true_implies]
  repeat' (first | with_reducible refine And.intro ?_ ?_ | with_reducible intro _ | ((first | with_reducible refine w_M_in_17 ?_ | with_reducible refine w_M_in_18 ?_); simp (disch := omega) only [cm_,aq_,a1_,ay_,ag_,b8_,af_,ah_,ba_,bc_,bx_,bb_,bv_,bh_,bo_,c0_,bz_,bu_,am_,ae_,ac_,bq_,ed_,bs_,a0_,ao_,as_,az_,a4_,aw_,dw_,d6_,ea_,d3_,b5_,fh_,fw_,fu_,fp_,fz_,fq_,fk_,ft_,fs_,f0_,c5_,bd_,ct_,cx_,co_,cr_,cz_,cj_,eb_,d5_,cf_,ch_,ci_,cy_,an_,cl_,cv_,fm_,fv_,d1_,cq_,Int.toNat_natCast,c7_,ej_,f3_,di_,dm_,dn_,er_,cc_,ek_,em_,gv_,g1_,g0_,gz_,gx_,g3_,gq_,f4_,Int.add_zero,Int.zero_add,Int.ediv_one,Nat.reduceAdd,Nat.reduceMul,Int.reduceNeg,Nat.reduceLeDiff,List.length_cons,List.length_nil,true_and,and_true,Nat.zero_add,eq_self,Nat.reduceEqDiff,Int.reduceAdd,Int.reduceSub,Int.reduceMul,not_true_eq_false,not_false_eq_true,Nat.reduceLT,Int.reduceToNat,Int.reduceEq,Int.reduceNe,Int.reduceLT,Int.reduceLE,or_true,true_or,or_false,false_or,and_self,false_implies,true_implies]))
  all_goals first | omega | exact h1 (by omega) | exact h0 (by omega)
theorem con_MwrongNumber {v a b : Int} (hv : inI v) (ha : inI a) (hb : inI b) (h1 : v < a → Q (some (.int (zI (-4)))) h) (h2 : ¬ v < a → b < v → Q (some (.int (zI (-6)))) h) (h0 : ¬ v < a → ¬ b < v → Q (some (.int (zI 0))) h) : Con M_M_wrongNumber [.int (zI v), .int (zI a), .int (zI b)] h Q := by
  obtain ⟨v1, v2⟩ := id hv
  obtain ⟨a1, a2⟩ := id ha
  obtain ⟨b1, b2⟩ := id hb
  refine g8_ (L := [some (.int (zI v)), some (.int (zI a)), some (.int (zI b))]) ok_M_wrongNumber (Nat.le_of_ble_eq_true rfl) rfl ?_
  refine w_M_wrongNumber_0 ?_
  simp (disch := omega) only [cm_,aq_,a1_,ay_,ag_,b8_,af_,ah_,ba_,bc_,bx_,bb_,bv_,bh_,bo_,c0_,bz_,bu_,am_,ae_,ac_,bq_,ed_,bs_,a0_,ao_,as_,az_,a4_,aw_,dw_,d6_,ea_,d3_,b5_,fh_,fw_,fu_,fp_,fz_,fq_,fk_,ft_,fs_,f0_,c5_,bd_,ct_,cx_,co_,cr_,cz_,cj_,eb_,d5_,cf_,ch_,ci_,cy_,an_,cl_,cv_,fm_,fv_,d1_,cq_,Int.toNat_natCast,c7_,ej_,f3_,di_,dm_,dn_,er_,cc_,ek_,em_,gv_,g1_,g0_,gz_,gx_,g3_,gq_,f4_,Int.add_zero,Int.zero_add,Int.ediv_one,Nat.reduceAdd,Nat.reduceMul,Int.reduceNeg,Nat.reduceLeDiff,List.length_cons,List.length_nil,true_and,and_true,Nat.zero_add,eq_self,Nat.reduceEqDiff,Int.reduceAdd,Int.reduceSub,Int.reduceMul,not_true_eq_false,not_false_eq_true,Nat.reduceLT,Int.reduceToNat,Int.reduceEq,Int.reduceNe,Int.reduceLT,Int.reduceLE,or_true,true_or,or_false,false_or,and_self,false_implies,true_implies]
  repeat' (first | with_reducible refine And.intro ?_ ?_ | with_reducible intro _ | ((first | with_reducible refine w_M_wrongNumber_10 ?_ | with_reducible refine w_M_wrongNumber_20 ?_ | with_reducible refine w_M_wrongNumber_21 ?_); simp (disch := omega) only [cm_,aq_,a1_,ay_,ag_,b8_,af_,ah_,ba_,bc_,bx_,bb_,bv_,bh_,bo_,c0_,bz_,bu_,am_,ae_,ac_,bq_,ed_,bs_,a0_,ao_,as_,az_,a4_,aw_,dw_,d6_,ea_,d3_,b5_,fh_,fw_,fu_,fp_,fz_,fq_,fk_,ft_,fs_,f0_,c5_,bd_,ct_,cx_,co_,cr_,cz_,cj_,eb_,d5_,cf_,ch_,ci_,cy_,an_,cl_,cv_,fm_,fv_,d1_,cq_,Int.toNat_natCast,c7_,ej_,f3_,di_,dm_,dn_,er_,cc_,ek_,em_,gv_,g1_,g0_,gz_,gx_,g3_,gq_,f4_,Int.add_zero,Int.zero_add,Int.ediv_one,Nat.reduceAdd,Nat.reduceMul,Int.reduceNeg,Nat.reduceLeDiff,List.length_cons,List.length_nil,true_and,and_true,Nat.zero_add,eq_self,Nat.reduceEqDiff,Int.reduceAdd,Int.reduceSub,Int.reduceMul,not_true_eq_false,not_false_eq_true,Nat.reduceLT,Int.reduceToNat,Int.reduceEq,Int.reduceNe,Int.reduceLT,Int.reduceLE,or_true,true_or,or_false,false_or,and_self,false_implies,true_implies]))
  all_goals first | omega | exact h1 (by omega) | exact h2 (by omega) (by omega) | exact h0 (by omega) (by omega)
theorem con_MwrongBit {w v b : Int} (hw : inI w) (hv : inI v) (hb : inI b) (h2 : w = 0 → ¬ (0 ≤ v ∧ v ≤ b) → Q (some (.int (zI (-2)))) h) (h0 : (w = 0 → 0 ≤ v ∧ v ≤ b) → Q (some (.int (zI w))) h) : Con M_M_wrongBit [.int (zI w), .int (zI v), .int (zI b)] h Q := by
  obtain ⟨w1, w2⟩ := id hw
  obtain ⟨v1, v2⟩ := id hv
  obtain ⟨b1, b2⟩ := id hb
  refine g8_ (L := [some (.int (zI w)), some (.int (zI v)), some (.int (zI b))]) ok_M_wrongBit (Nat.le_of_ble_eq_true rfl) rfl ?_
  refine w_M_wrongBit_0 ?_
  simp (disch := omega) only [cm_,aq_,a1_,ay_,ag_,b8_,af_,ah_,ba_,bc_,bx_,bb_,bv_,bh_,bo_,c0_,bz_,bu_,am_,ae_,ac_,bq_,ed_,bs_,a0_,ao_,as_,az_,a4_,aw_,dw_,d6_,ea_,d3_,b5_,fh_,fw_,fu_,fp_,fz_,fq_,fk_,ft_,fs_,f0_,c5_,bd_,ct_,cx_,co_,cr_,cz_,cj_,eb_,d5_,cf_,ch_,ci_,cy_,an_,cl_,cv_,fm_,fv_,d1_,cq_,Int.toNat_natCast,c7_,ej_,f3_,di_,dm_,dn_,er_,cc_,ek_,em_,gv_,g1_,g0_,gz_,gx_,g3_,gq_,f4_,Int.add_zero,Int.zero_add,Int.ediv_one,Nat.reduceAdd,Nat.reduceMul,Int.reduceNeg,Nat.reduceLeDiff,List.length_cons,List.length_nil,true_and,and_true,Nat.zero_add,eq_self,Nat.reduceEqDiff,Int.reduceAdd,Int.reduceSub,Int.reduceMul,not_true_eq_false,not_false_eq_true,Nat.reduceLT,Int.reduceToNat,Int.reduceEq,Int.reduceNe,Int.reduceLT,Int.reduceLE,or_true,true_or,or_false,false_or,and_self,false_implies,true_implies]
  refine ⟨fun c => ?_, fun c => ?_⟩
  · skip
    repeat' (first | with_reducible refine And.intro ?_ ?_ | with_reducible intro _ | ((first | with_reducible refine w_M_wrongBit_20 ?_ | with_reducible refine w_M_wrongBit_21 ?_); simp (disch := omega) only [cm_,aq_,a1_,ay_,ag_,b8_,af_,ah_,ba_,bc_,bx_,bb_,bv_,bh_,bo_,c0_,bz_,bu_,am_,ae_,ac_,bq_,ed_,bs_,a0_,ao_,as_,az_,a4_,aw_,dw_,d6_,ea_,d3_,b5_,fh_,fw_,fu_,fp_,fz_,fq_,fk_,ft_,fs_,f0_,c5_,bd_,ct_,cx_,co_,cr_,cz_,cj_,eb_,d5_,cf_,ch_,ci_,cy_,an_,cl_,cv_,fm_,fv_,d1_,cq_,Int.toNat_natCast,c7_,ej_,f3_,di_,dm_,dn_,er_,cc_,ek_,em_,gv_,g1_,g0_,gz_,gx_,g3_,gq_,f4_,Int.add_zero,Int.zero_add,Int.ediv_one,Nat.reduceAdd,Nat.reduceMul,Int.reduceNeg,Nat.reduceLeDiff,List.length_cons,List.length_nil,true_and,and_true,Nat.zero_add,eq_self,Nat.reduceEqDiff,Int.reduceAdd,Int.reduceSub,Int.reduceMul,not_true_eq_false,not_false_eq_true,Nat.reduceLT,Int.reduceToNat,Int.reduceEq,Int.reduceNe,Int.reduceLT,Int.reduceLE,or_true,true_or,or_false,false_or,and_self,false_implies,true_implies]))
    all_goals exact h0 (fun q => absurd q c)
  · refine con_Min hv (by unfold inI; omega) hb (fun c2 => ?_) (fun c2 => ?_)
    · simp (disch := omega) only [cm_,aq_,a1_,ay_,ag_,b8_,af_,ah_,ba_,bc_,bx_,bb_,bv_,bh_,bo_,c0_,bz_,bu_,am_,ae_,ac_,bq_,ed_,bs_,a0_,ao_,as_,az_,a4_,aw_,dw_,d6_,ea_,d3_,b5_,fh_,fw_,fu_,fp_,fz_,fq_,fk_,ft_,fs_,f0_,c5_,bd_,ct_,cx_,co_,cr_,cz_,cj_,eb_,d5_,cf_,ch_,ci_,cy_,an_,cl_,cv_,fm_,fv_,d1_,cq_,Int.toNat_natCast,c7_,ej_,f3_,di_,dm_,dn_,er_,cc_,ek_,em_,gv_,g1_,g0_,gz_,gx_,g3_,gq_,f4_,Int.add_zero,Int.zero_add,Int.ediv_one,Nat.reduceAdd,Nat.reduceMul,Int.reduceNeg,Nat.reduceLeDiff,List.length_cons,List.length_nil,true_and,and_true,Nat.zero_add,eq_self,Nat.reduceEqDiff,Int.reduceAdd,Int.reduceSub,Int.reduceMul,not_true_eq_false,not_false_eq_true,Nat.reduceLT,Int.reduceToNat,Int.reduceEq,Int.reduceNe,Int.reduceLT,Int.reduceLE,or_true,true_or,or_false,false_or,and_self,false_implies,true_implies]
      repeat' (first | with_reducible refine And.intro ?_ ?_ | with_reducible intro _ | ((first | with_reducible refine w_M_wrongBit_20 ?_ | with_reducible refine w_M_wrongBit_21 ?_); simp (disch := omega) only [cm_,aq_,a1_,ay_,ag_,b8_,af_,ah_,ba_,bc_,bx_,bb_,bv_,bh_,bo_,c0_,bz_,bu_,am_,ae_,ac_,bq_,ed_,bs_,a0_,ao_,as_,az_,a4_,aw_,dw_,d6_,ea_,d3_,b5_,fh_,fw_,fu_,fp_,fz_,fq_,fk_,ft_,fs_,f0_,c5_,bd_,ct_,cx_,co_,cr_,cz_,cj_,eb_,d5_,cf_,ch_,ci_,cy_,an_,cl_,cv_,fm_,fv_,d1_,cq_,Int.toNat_natCast,c7_,ej_,f3_,di_,dm_,dn_,er_,cc_,ek_,em_,gv_,g1_,g0_,gz_,gx_,g3_,gq_,f4_,Int.add_zero,Int.zero_add,Int.ediv_one,Nat.reduceAdd,Nat.reduceMul,Int.reduceNeg,Nat.reduceLeDiff,List.length_cons,List.length_nil,true_and,and_true,Nat.zero_add,eq_self,Nat.reduceEqDiff,Int.reduceAdd,Int.reduceSub,Int.reduceMul,not_true_eq_false,not_false_eq_true,Nat.reduceLT,Int.reduceToNat,Int.reduceEq,Int.reduceNe,Int.reduceLT,Int.reduceLE,or_true,true_or,or_false,false_or,and_self,false_implies,true_implies]))
      all_goals exact h0 (fun _ => c2)
    · simp (disch := omega) only [cm_,aq_,a1_,ay_,ag_,b8_,af_,ah_,ba_,bc_,bx_,bb_,bv_,bh_,bo_,c0_,bz_,bu_,am_,ae_,ac_,bq_,ed_,bs_,a0_,ao_,as_,az_,a4_,aw_,dw_,d6_,ea_,d3_,b5_,fh_,fw_,fu_,fp_,fz_,fq_,fk_,ft_,fs_,f0_,c5_,bd_,ct_,cx_,co_,cr_,cz_,cj_,eb_,d5_,cf_,ch_,ci_,cy_,an_,cl_,cv_,fm_,fv_,d1_,cq_,Int.toNat_natCast,c7_,ej_,f3_,di_,dm_,dn_,er_,cc_,ek_,em_,gv_,g1_,g0_,gz_,gx_,g3_,gq_,f4_,Int.add_zero,Int.zero_add,Int.ediv_one,Nat.reduceAdd,Nat.reduceMul,Int.reduceNeg,Nat.reduceLeDiff,List.length_cons,List.length_nil,true_and,and_true,Nat.zero_add,eq_self,Nat.reduceEqDiff,Int.reduceAdd,Int.reduceSub,Int.reduceMul,not_true_eq_false,not_false_eq_true,Nat.reduceLT,Int.reduceToNat,Int.reduceEq,Int.reduceNe,Int.reduceLT,Int.reduceLE,or_true,true_or,or_false,false_or,and_self,false_implies,true_implies]
      repeat' (first | with_reducible refine And.intro ?_ ?_ | with_reducible intro _ | ((first | with_reducible refine w_M_wrongBit_20 ?_ | with_reducible refine w_M_wrongBit_21 ?_); simp (disch := omega) only [cm_,aq_,a1_,ay_,ag_,b8_,af_,ah_,ba_,bc_,bx_,bb_,bv_,bh_,bo_,c0_,bz_,bu_,am_,ae_,ac_,bq_,ed_,bs_,a0_,ao_,as_,az_,a4_,aw_,dw_,d6_,ea_,d3_,b5_,fh_,fw_,fu_,fp_,fz_,fq_,fk_,ft_,fs_,f0_,c5_,bd_,ct_,cx_,co_,cr_,cz_,cj_,eb_,d5_,cf_,ch_,ci_,cy_,an_,cl_,cv_,fm_,fv_,d1_,cq_,Int.toNat_natCast,c7_,ej_,f3_,di_,dm_,dn_,er_,cc_,ek_,em_,gv_,g1_,g0_,gz_,gx_,g3_,gq_,f4_,Int.add_zero,Int.zero_add,Int.ediv_one,Nat.reduceAdd,Nat.reduceMul,Int.reduceNeg,Nat.reduceLeDiff,List.length_cons,List.length_nil,true_and,and_true,Nat.zero_add,eq_self,Nat.reduceEqDiff,Int.reduceAdd,Int.reduceSub,Int.reduceMul,not_true_eq_false,not_false_eq_true,Nat.reduceLT,Int.reduceToNat,Int.reduceEq,Int.reduceNe,Int.reduceLT,Int.reduceLE,or_true,true_or,or_false,false_or,and_self,false_implies,true_implies]))
      all_goals exact h2 (by omega) c2
theorem con_MhasBit {b i : Nat} (hb : b < 2147483648) (hi : i < 31) (h1 : b.testBit i = true → Q (some (.int (zI 1))) h) (h0 : b.testBit i = false → Q (some (.int (zI 0))) h) : Con M_M_hasBit [.int (zI b), .int (zI i)] h Q := by
  refine g8_ (L := [some (.int (zI b)), some (.int (zI i))]) ok_M_hasBit (Nat.le_of_ble_eq_true rfl) rfl ?_
  refine w_M_hasBit_0 ?_
  simp (disch := omega) only [cm_,aq_,a1_,ay_,ag_,b8_,af_,ah_,ba_,bc_,bx_,bb_,bv_,bh_,bo_,c0_,bz_,bu_,am_,ae_,ac_,bq_,ed_,bs_,a0_,ao_,as_,az_,a4_,aw_,dw_,d6_,ea_,d3_,b5_,fh_,fw_,fu_,fp_,fz_,fq_,fk_,ft_,fs_,f0_,c5_,bd_,ct_,cx_,co_,cr_,cz_,cj_,eb_,d5_,cf_,ch_,ci_,cy_,an_,cl_,cv_,fm_,fv_,d1_,cq_,Int.toNat_natCast,c7_,ej_,f3_,di_,dm_,dn_,er_,cc_,ek_,em_,gv_,g1_,g0_,gz_,gx_,g3_,gq_,f4_,Int.add_zero,Int.zero_add,Int.ediv_one,Nat.reduceAdd,Nat.reduceMul,Int.reduceNeg,Nat.reduceLeDiff,List.length_cons,List.length_nil,true_and,and_true,Nat.zero_add,eq_self,Nat.reduceEqDiff,Int.reduceAdd,Int.reduceSub,Int.reduceMul,not_true_eq_false,not_false_eq_true,Nat.reduceLT,Int.reduceToNat,Int.reduceEq,Int.reduceNe,Int.reduceLT,Int.reduceLE,or_true,true_or,or_false,false_or,and_self,false_implies,true_implies]
  repeat' (first | with_reducible refine And.intro ?_ ?_ | with_reducible intro _ | ((first | with_reducible refine w_M_hasBit_13 ?_ | with_reducible refine w_M_hasBit_14 ?_); simp (disch := omega) only [cm_,aq_,a1_,ay_,ag_,b8_,af_,ah_,ba_,bc_,bx_,bb_,bv_,bh_,bo_,c0_,bz_,bu_,am_,ae_,ac_,bq_,ed_,bs_,a0_,ao_,as_,az_,a4_,aw_,dw_,d6_,ea_,d3_,b5_,fh_,fw_,fu_,fp_,fz_,fq_,fk_,ft_,fs_,f0_,c5_,bd_,ct_,cx_,co_,cr_,cz_,cj_,eb_,d5_,cf_,ch_,ci_,cy_,an_,cl_,cv_,fm_,fv_,d1_,cq_,Int.toNat_natCast,c7_,ej_,f3_,di_,dm_,dn_,er_,cc_,ek_,em_,gv_,g1_,g0_,gz_,gx_,g3_,gq_,f4_,Int.add_zero,Int.zero_add,Int.ediv_one,Nat.reduceAdd,Nat.reduceMul,Int.reduceNeg,Nat.reduceLeDiff,List.length_cons,List.length_nil,true_and,and_true,Nat.zero_add,eq_self,Nat.reduceEqDiff,Int.reduceAdd,Int.reduceSub,Int.reduceMul,not_true_eq_false,not_false_eq_true,Nat.reduceLT,Int.reduceToNat,Int.reduceEq,Int.reduceNe,Int.reduceLT,Int.reduceLE,or_true,true_or,or_false,false_or,and_self,false_implies,true_implies]))
  all_goals first | exact h1 (by assumption) | exact h0 (Bool.eq_false_iff.mpr (by assumption)) | exact h1 (Classical.not_not.mp (by assumption))
theorem pop8_and : ∀ b, b < 256 → b ≠ 0 → pop8 (b &&& (b - 1)) + 1 = pop8 b ∧ b &&& (b - 1) < b := by decide +kernel
theorem con_MonesOf {b : Nat} (hb : b < 256) (hQ : Q (some (.int (zI (pop8 b : Nat)))) h) : Con M_M_onesOf [.int (zI b)] h Q := by
  refine g8_ (L := [some (.int (zI b)), none, none]) ok_M_onesOf (Nat.le_of_ble_eq_true rfl) rfl ?_
  refine w_M_onesOf_0 ?_
  simp (disch := omega) only [cm_,aq_,a1_,ay_,ag_,b8_,af_,ah_,ba_,bc_,bx_,bb_,bv_,bh_,bo_,c0_,bz_,bu_,am_,ae_,ac_,bq_,ed_,bs_,a0_,ao_,as_,az_,a4_,aw_,dw_,d6_,ea_,d3_,b5_,fh_,fw_,fu_,fp_,fz_,fq_,fk_,ft_,fs_,f0_,c5_,bd_,ct_,cx_,co_,cr_,cz_,cj_,eb_,d5_,cf_,ch_,ci_,cy_,an_,cl_,cv_,fm_,fv_,d1_,cq_,Int.toNat_natCast,c7_,ej_,f3_,di_,dm_,dn_,er_,cc_,ek_,em_,gv_,g1_,g0_,gz_,gx_,g3_,gq_,f4_,Int.add_zero,Int.zero_add,Int.ediv_one,Nat.reduceAdd,Nat.reduceMul,Int.reduceNeg,Nat.reduceLeDiff,List.length_cons,List.length_nil,true_and,and_true,Nat.zero_add,eq_self,Nat.reduceEqDiff,Int.reduceAdd,Int.reduceSub,Int.reduceMul,not_true_eq_false,not_false_eq_true,Nat.reduceLT,Int.reduceToNat,Int.reduceEq,Int.reduceNe,Int.reduceLT,Int.reduceLE,or_true,true_or,or_false,false_or,and_self,false_implies,true_implies]
  have loop : ∀ m x n : Nat, x ≤ m → x < 256 → n + pop8 x = pop8 b → J M_M_onesOf 4 [some (.int (zI b)), some (.int (zI n)), some (.int (zI x))] [] h Q := by
    intro m
    induction m with
    | zero =>
      intro x n h1 h2 h3
      have e : x = 0 := by omega
      subst e
      have p0 : pop8 0 = 0 := by decide
      refine w_M_onesOf_4 ?_
      simp (disch := omega) only [cm_,aq_,a1_,ay_,ag_,b8_,af_,ah_,ba_,bc_,bx_,bb_,bv_,bh_,bo_,c0_,bz_,bu_,am_,ae_,ac_,bq_,ed_,bs_,a0_,ao_,as_,az_,a4_,aw_,dw_,d6_,ea_,d3_,b5_,fh_,fw_,fu_,fp_,fz_,fq_,fk_,ft_,fs_,f0_,c5_,bd_,ct_,cx_,co_,cr_,cz_,cj_,eb_,d5_,cf_,ch_,ci_,cy_,an_,cl_,cv_,fm_,fv_,d1_,cq_,Int.toNat_natCast,c7_,ej_,f3_,di_,dm_,dn_,er_,cc_,ek_,em_,gv_,g1_,g0_,gz_,gx_,g3_,gq_,f4_,Int.add_zero,Int.zero_add,Int.ediv_one,Nat.reduceAdd,Nat.reduceMul,Int.reduceNeg,Nat.reduceLeDiff,List.length_cons,List.length_nil,true_and,and_true,Nat.zero_add,eq_self,Nat.reduceEqDiff,Int.reduceAdd,Int.reduceSub,Int.reduceMul,not_true_eq_false,not_false_eq_true,Nat.reduceLT,Int.reduceToNat,Int.reduceEq,Int.reduceNe,Int.reduceLT,Int.reduceLE,or_true,true_or,or_false,false_or,and_self,false_implies,true_implies]
      repeat' (first | with_reducible refine And.intro ?_ ?_ | with_reducible intro _ | ((first | with_reducible refine w_M_onesOf_20 ?_); simp (disch := omega) only [cm_,aq_,a1_,ay_,ag_,b8_,af_,ah_,ba_,bc_,bx_,bb_,bv_,bh_,bo_,c0_,bz_,bu_,am_,ae_,ac_,bq_,ed_,bs_,a0_,ao_,as_,az_,a4_,aw_,dw_,d6_,ea_,d3_,b5_,fh_,fw_,fu_,fp_,fz_,fq_,fk_,ft_,fs_,f0_,c5_,bd_,ct_,cx_,co_,cr_,cz_,cj_,eb_,d5_,cf_,ch_,ci_,cy_,an_,cl_,cv_,fm_,fv_,d1_,cq_,Int.toNat_natCast,c7_,ej_,f3_,di_,dm_,dn_,er_,cc_,ek_,em_,gv_,g1_,g0_,gz_,gx_,g3_,gq_,f4_,Int.add_zero,Int.zero_add,Int.ediv_one,Nat.reduceAdd,Nat.reduceMul,Int.reduceNeg,Nat.reduceLeDiff,List.length_cons,List.length_nil,true_and,and_true,Nat.zero_add,eq_self,Nat.reduceEqDiff,Int.reduceAdd,Int.reduceSub,Int.reduceMul,not_true_eq_false,not_false_eq_true,Nat.reduceLT,Int.reduceToNat,Int.reduceEq,Int.reduceNe,Int.reduceLT,Int.reduceLE,or_true,true_or,or_false,false_or,and_self,false_implies,true_implies]))
      all_goals first | omega | (rw [show n = pop8 b by omega]; exact hQ)
    | succ m ih =>
      intro x n h1 h2 h3
      by_cases c : x = 0
      · exact ih x n (by omega) h2 h3
      · obtain ⟨k1, k2⟩ := pop8_and x h2 c
        have step := ih (x &&& (x - 1)) (n + 1) (by omega) (by omega) (by omega)
        have e : (x : Int) - 1 = ((x - 1 : Nat) : Int) := by omega
        refine w_M_onesOf_4 ?_
        simp (disch := omega) only [cm_,aq_,a1_,ay_,ag_,b8_,af_,ah_,ba_,bc_,bx_,bb_,bv_,bh_,bo_,c0_,bz_,bu_,am_,ae_,ac_,bq_,ed_,bs_,a0_,ao_,as_,az_,a4_,aw_,dw_,d6_,ea_,d3_,b5_,fh_,fw_,fu_,fp_,fz_,fq_,fk_,ft_,fs_,f0_,c5_,bd_,ct_,cx_,co_,cr_,cz_,cj_,eb_,d5_,cf_,ch_,ci_,cy_,an_,cl_,cv_,fm_,fv_,d1_,cq_,Int.toNat_natCast,c7_,ej_,f3_,di_,dm_,dn_,er_,cc_,ek_,em_,gv_,g1_,g0_,gz_,gx_,g3_,gq_,f4_,Int.add_zero,Int.zero_add,Int.ediv_one,Nat.reduceAdd,Nat.reduceMul,Int.reduceNeg,Nat.reduceLeDiff,List.length_cons,List.length_nil,true_and,and_true,Nat.zero_add,eq_self,Nat.reduceEqDiff,Int.reduceAdd,Int.reduceSub,Int.reduceMul,not_true_eq_false,not_false_eq_true,Nat.reduceLT,Int.reduceToNat,Int.reduceEq,Int.reduceNe,Int.reduceLT,Int.reduceLE,or_true,true_or,or_false,false_or,and_self,false_implies,true_implies,e]
        refine ⟨fun q => by omega, fun _ => ?_⟩
        rw [zI_and]
        exact step
  exact loop b b 0 (Nat.le_refl _) hb (Nat.zero_add _)
theorem con_Mheld {v b : Int} (hv : inI v) (hb : 0 ≤ b ∧ b < 2147483648) (hQ : Q (some (.int (zI (max 0 (min b v))))) h) : Con M_M_held [.int (zI v), .int (zI b)] h Q := by
  obtain ⟨v1, v2⟩ := id hv
  refine g8_ (L := [some (.int (zI v)), some (.int (zI b))]) ok_M_held (Nat.le_of_ble_eq_true rfl) rfl ?_
  refine w_M_held_0 ?_
  simp (disch := omega) only [cm_,aq_,a1_,ay_,ag_,b8_,af_,ah_,ba_,bc_,bx_,bb_,bv_,bh_,bo_,c0_,bz_,bu_,am_,ae_,ac_,bq_,ed_,bs_,a0_,ao_,as_,az_,a4_,aw_,dw_,d6_,ea_,d3_,b5_,fh_,fw_,fu_,fp_,fz_,fq_,fk_,ft_,fs_,f0_,c5_,bd_,ct_,cx_,co_,cr_,cz_,cj_,eb_,d5_,cf_,ch_,ci_,cy_,an_,cl_,cv_,fm_,fv_,d1_,cq_,Int.toNat_natCast,c7_,ej_,f3_,di_,dm_,dn_,er_,cc_,ek_,em_,gv_,g1_,g0_,gz_,gx_,g3_,gq_,f4_,Int.add_zero,Int.zero_add,Int.ediv_one,Nat.reduceAdd,Nat.reduceMul,Int.reduceNeg,Nat.reduceLeDiff,List.length_cons,List.length_nil,true_and,and_true,Nat.zero_add,eq_self,Nat.reduceEqDiff,Int.reduceAdd,Int.reduceSub,Int.reduceMul,not_true_eq_false,not_false_eq_true,Nat.reduceLT,Int.reduceToNat,Int.reduceEq,Int.reduceNe,Int.reduceLT,Int.reduceLE,or_true,true_or,or_false,false_or,and_self,false_implies,true_implies]
  repeat' (first | with_reducible refine And.intro ?_ ?_ | with_reducible intro _ | ((first | with_reducible refine w_M_held_8 ?_ | with_reducible refine w_M_held_17 ?_ | with_reducible refine w_M_held_18 ?_); simp (disch := omega) only [cm_,aq_,a1_,ay_,ag_,b8_,af_,ah_,ba_,bc_,bx_,bb_,bv_,bh_,bo_,c0_,bz_,bu_,am_,ae_,ac_,bq_,ed_,bs_,a0_,ao_,as_,az_,a4_,aw_,dw_,d6_,ea_,d3_,b5_,fh_,fw_,fu_,fp_,fz_,fq_,fk_,ft_,fs_,f0_,c5_,bd_,ct_,cx_,co_,cr_,cz_,cj_,eb_,d5_,cf_,ch_,ci_,cy_,an_,cl_,cv_,fm_,fv_,d1_,cq_,Int.toNat_natCast,c7_,ej_,f3_,di_,dm_,dn_,er_,cc_,ek_,em_,gv_,g1_,g0_,gz_,gx_,g3_,gq_,f4_,Int.add_zero,Int.zero_add,Int.ediv_one,Nat.reduceAdd,Nat.reduceMul,Int.reduceNeg,Nat.reduceLeDiff,List.length_cons,List.length_nil,true_and,and_true,Nat.zero_add,eq_self,Nat.reduceEqDiff,Int.reduceAdd,Int.reduceSub,Int.reduceMul,not_true_eq_false,not_false_eq_true,Nat.reduceLT,Int.reduceToNat,Int.reduceEq,Int.reduceNe,Int.reduceLT,Int.reduceLE,or_true,true_or,or_false,false_or,and_self,false_implies,true_implies]))
  all_goals first | omega | (rw [show max 0 (min b v) = 0 by omega] at hQ; exact hQ) | (rw [show max 0 (min b v) = b by omega] at hQ; exact hQ) | (rw [show max 0 (min b v) = v by omega] at hQ; exact hQ)
end D1
section D2
variable {R : RR} {rf : Nat → Int} {lt : Nat → Int} {lsz : Int} {a0 : Int} {ib : Int} {sm : Int} {pl : Nat → Int} {lo : Nat → Int} {nu : Nat → Int} {kp : Nat → Int} {ig : Nat → Int} {hmg : Int} {p0 : Int} {tk : Int} {ki : Value} {tu : Nat → Int} {tz : Int} {tf : Nat → Int} {tn : Nat → Int} {tsz : Int} {ga : Nat → Int} {sd : Int} {bb : AH} {Q : Option Value → AH → Prop}
theorem con_Mrefuse {k : Int} (hk : 1 ≤ k ∧ k ≤ 6) (hQ : Q (some (.int (zI (-k)))) (HM R (upI rf k.toNat (rf k.toNat + 1)) lt lsz a0 ib sm pl lo nu kp ig hmg p0 tk ki tu tz tf tn tsz ga sd bb)) : Con M_M_refuse [.ref 90, .int (zI (-k))] (HM R rf lt lsz a0 ib sm pl lo nu kp ig hmg p0 tk ki tu tz tf tn tsz ga sd bb) Q := by
  have e : - -k = k := by omega
  refine g8_ (L := [some (.ref 90), some (.int (zI (-k)))]) ok_M_refuse (Nat.le_of_ble_eq_true rfl) rfl ?_
  refine w_M_refuse_0 ?_
  simp (disch := omega) only [cm_,aq_,a1_,ay_,ag_,b8_,af_,ah_,ba_,bc_,bx_,bb_,bv_,bh_,bo_,c0_,bz_,bu_,am_,ae_,ac_,bq_,ed_,bs_,a0_,ao_,as_,az_,a4_,aw_,dw_,d6_,ea_,d3_,b5_,fh_,fw_,fu_,fp_,fz_,fq_,fk_,ft_,fs_,f0_,c5_,bd_,ct_,cx_,co_,cr_,cz_,cj_,eb_,d5_,cf_,ch_,ci_,cy_,an_,cl_,cv_,fm_,fv_,d1_,cq_,Int.toNat_natCast,c7_,ej_,f3_,di_,dm_,dn_,er_,cc_,ek_,em_,gv_,g1_,g0_,gz_,gx_,g3_,gq_,f4_,Int.add_zero,Int.zero_add,Int.ediv_one,Nat.reduceAdd,Nat.reduceMul,Int.reduceNeg,Nat.reduceLeDiff,List.length_cons,List.length_nil,true_and,and_true,Nat.zero_add,eq_self,Nat.reduceEqDiff,Int.reduceAdd,Int.reduceSub,Int.reduceMul,not_true_eq_false,not_false_eq_true,Nat.reduceLT,Int.reduceToNat,Int.reduceEq,Int.reduceNe,Int.reduceLT,Int.reduceLE,or_true,true_or,or_false,false_or,and_self,false_implies,true_implies,e]
  exact ⟨by omega, by omega, hQ⟩
theorem con_MisMan {m : Int} (hm : inI m) (hG : GR R) (h1 : g7_ R m → Q (some (.int (zI 1))) (HM R rf lt lsz a0 ib sm pl lo nu kp ig hmg p0 tk ki tu tz tf tn tsz ga sd bb)) (h0 : ¬ g7_ R m → Q (some (.int (zI 0))) (HM R rf lt lsz a0 ib sm pl lo nu kp ig hmg p0 tk ki tu tz tf tn tsz ga sd bb)) : Con M_M_isMan [.ref 90, .int (zI m)] (HM R rf lt lsz a0 ib sm pl lo nu kp ig hmg p0 tk ki tu tz tf tn tsz ga sd bb) Q := by
  obtain ⟨m1, m2⟩ := id hm
  have gm := hG.men
  refine g8_ (L := [some (.ref 90), some (.int (zI m))]) ok_M_isMan (Nat.le_of_ble_eq_true rfl) rfl ?_
  refine w_M_isMan_0 ?_
  simp (disch := omega) only [cm_,aq_,a1_,ay_,ag_,b8_,af_,ah_,ba_,bc_,bx_,bb_,bv_,bh_,bo_,c0_,bz_,bu_,am_,ae_,ac_,bq_,ed_,bs_,a0_,ao_,as_,az_,a4_,aw_,dw_,d6_,ea_,d3_,b5_,fh_,fw_,fu_,fp_,fz_,fq_,fk_,ft_,fs_,f0_,c5_,bd_,ct_,cx_,co_,cr_,cz_,cj_,eb_,d5_,cf_,ch_,ci_,cy_,an_,cl_,cv_,fm_,fv_,d1_,cq_,Int.toNat_natCast,c7_,ej_,f3_,di_,dm_,dn_,er_,cc_,ek_,em_,gv_,g1_,g0_,gz_,gx_,g3_,gq_,f4_,Int.add_zero,Int.zero_add,Int.ediv_one,Nat.reduceAdd,Nat.reduceMul,Int.reduceNeg,Nat.reduceLeDiff,List.length_cons,List.length_nil,true_and,and_true,Nat.zero_add,eq_self,Nat.reduceEqDiff,Int.reduceAdd,Int.reduceSub,Int.reduceMul,not_true_eq_false,not_false_eq_true,Nat.reduceLT,Int.reduceToNat,Int.reduceEq,Int.reduceNe,Int.reduceLT,Int.reduceLE,or_true,true_or,or_false,false_or,and_self,false_implies,true_implies]
  refine con_Min hm (by unfold inI; omega) (by unfold inI; omega) (fun c => ?_) (fun c => ?_)
  · simp (disch := omega) only [cm_,aq_,a1_,ay_,ag_,b8_,af_,ah_,ba_,bc_,bx_,bb_,bv_,bh_,bo_,c0_,bz_,bu_,am_,ae_,ac_,bq_,ed_,bs_,a0_,ao_,as_,az_,a4_,aw_,dw_,d6_,ea_,d3_,b5_,fh_,fw_,fu_,fp_,fz_,fq_,fk_,ft_,fs_,f0_,c5_,bd_,ct_,cx_,co_,cr_,cz_,cj_,eb_,d5_,cf_,ch_,ci_,cy_,an_,cl_,cv_,fm_,fv_,d1_,cq_,Int.toNat_natCast,c7_,ej_,f3_,di_,dm_,dn_,er_,cc_,ek_,em_,gv_,g1_,g0_,gz_,gx_,g3_,gq_,f4_,Int.add_zero,Int.zero_add,Int.ediv_one,Nat.reduceAdd,Nat.reduceMul,Int.reduceNeg,Nat.reduceLeDiff,List.length_cons,List.length_nil,true_and,and_true,Nat.zero_add,eq_self,Nat.reduceEqDiff,Int.reduceAdd,Int.reduceSub,Int.reduceMul,not_true_eq_false,not_false_eq_true,Nat.reduceLT,Int.reduceToNat,Int.reduceEq,Int.reduceNe,Int.reduceLT,Int.reduceLE,or_true,true_or,or_false,false_or,and_self,false_implies,true_implies]
    exact h1 ⟨c.1, by omega⟩
  · simp (disch := omega) only [cm_,aq_,a1_,ay_,ag_,b8_,af_,ah_,ba_,bc_,bx_,bb_,bv_,bh_,bo_,c0_,bz_,bu_,am_,ae_,ac_,bq_,ed_,bs_,a0_,ao_,as_,az_,a4_,aw_,dw_,d6_,ea_,d3_,b5_,fh_,fw_,fu_,fp_,fz_,fq_,fk_,ft_,fs_,f0_,c5_,bd_,ct_,cx_,co_,cr_,cz_,cj_,eb_,d5_,cf_,ch_,ci_,cy_,an_,cl_,cv_,fm_,fv_,d1_,cq_,Int.toNat_natCast,c7_,ej_,f3_,di_,dm_,dn_,er_,cc_,ek_,em_,gv_,g1_,g0_,gz_,gx_,g3_,gq_,f4_,Int.add_zero,Int.zero_add,Int.ediv_one,Nat.reduceAdd,Nat.reduceMul,Int.reduceNeg,Nat.reduceLeDiff,List.length_cons,List.length_nil,true_and,and_true,Nat.zero_add,eq_self,Nat.reduceEqDiff,Int.reduceAdd,Int.reduceSub,Int.reduceMul,not_true_eq_false,not_false_eq_true,Nat.reduceLT,Int.reduceToNat,Int.reduceEq,Int.reduceNe,Int.reduceLT,Int.reduceLE,or_true,true_or,or_false,false_or,and_self,false_implies,true_implies]
    exact h0 (fun q => c ⟨q.1, by have := q.2; omega⟩)
theorem con_MbearsOf {i : Nat} (hi : i < 8) (hG : GR R) (hQ : Q (some (.int (zI (bears R i)))) (HM R rf lt lsz a0 ib sm pl lo nu kp ig hmg p0 tk ki tu tz tf tn tsz ga sd bb)) : Con M_M_bearsOf [.ref 90, .int (zI i)] (HM R rf lt lsz a0 ib sm pl lo nu kp ig hmg p0 tk ki tu tz tf tn tsz ga sd bb) Q := by
  have gk := hG.ki i
  have gf := hG.fi i
  have gw := hG.wo i
  have hb : bears R i = beF (rKi R i) (rFi R i) (rWo R i) := rfl
  rw [hb] at hQ
  clear hb
  refine g8_ (L := [some (.ref 90), some (.int (zI i)), none, none]) ok_M_bearsOf (Nat.le_of_ble_eq_true rfl) rfl ?_
  refine w_M_bearsOf_0 ?_
  simp (disch := omega) only [cm_,aq_,a1_,ay_,ag_,b8_,af_,ah_,ba_,bc_,bx_,bb_,bv_,bh_,bo_,c0_,bz_,bu_,am_,ae_,ac_,bq_,ed_,bs_,a0_,ao_,as_,az_,a4_,aw_,dw_,d6_,ea_,d3_,b5_,fh_,fw_,fu_,fp_,fz_,fq_,fk_,ft_,fs_,f0_,c5_,bd_,ct_,cx_,co_,cr_,cz_,cj_,eb_,d5_,cf_,ch_,ci_,cy_,an_,cl_,cv_,fm_,fv_,d1_,cq_,Int.toNat_natCast,c7_,ej_,f3_,di_,dm_,dn_,er_,cc_,ek_,em_,gv_,g1_,g0_,gz_,gx_,g3_,gq_,f4_,Int.add_zero,Int.zero_add,Int.ediv_one,Nat.reduceAdd,Nat.reduceMul,Int.reduceNeg,Nat.reduceLeDiff,List.length_cons,List.length_nil,true_and,and_true,Nat.zero_add,eq_self,Nat.reduceEqDiff,Int.reduceAdd,Int.reduceSub,Int.reduceMul,not_true_eq_false,not_false_eq_true,Nat.reduceLT,Int.reduceToNat,Int.reduceEq,Int.reduceNe,Int.reduceLT,Int.reduceLE,or_true,true_or,or_false,false_or,and_self,false_implies,true_implies]
  repeat' (first | with_reducible refine And.intro ?_ ?_ | with_reducible intro _ | ((first | with_reducible refine w_M_bearsOf_52 ?_ | with_reducible refine w_M_bearsOf_56 ?_ | with_reducible refine w_M_bearsOf_60 ?_ | with_reducible refine w_M_bearsOf_66 ?_ | with_reducible refine w_M_bearsOf_72 ?_ | with_reducible refine w_M_bearsOf_92 ?_ | with_reducible refine w_M_bearsOf_93 ?_ | with_reducible refine w_M_bearsOf_95 ?_); simp (disch := omega) only [cm_,aq_,a1_,ay_,ag_,b8_,af_,ah_,ba_,bc_,bx_,bb_,bv_,bh_,bo_,c0_,bz_,bu_,am_,ae_,ac_,bq_,ed_,bs_,a0_,ao_,as_,az_,a4_,aw_,dw_,d6_,ea_,d3_,b5_,fh_,fw_,fu_,fp_,fz_,fq_,fk_,ft_,fs_,f0_,c5_,bd_,ct_,cx_,co_,cr_,cz_,cj_,eb_,d5_,cf_,ch_,ci_,cy_,an_,cl_,cv_,fm_,fv_,d1_,cq_,Int.toNat_natCast,c7_,ej_,f3_,di_,dm_,dn_,er_,cc_,ek_,em_,gv_,g1_,g0_,gz_,gx_,g3_,gq_,f4_,Int.add_zero,Int.zero_add,Int.ediv_one,Nat.reduceAdd,Nat.reduceMul,Int.reduceNeg,Nat.reduceLeDiff,List.length_cons,List.length_nil,true_and,and_true,Nat.zero_add,eq_self,Nat.reduceEqDiff,Int.reduceAdd,Int.reduceSub,Int.reduceMul,not_true_eq_false,not_false_eq_true,Nat.reduceLT,Int.reduceToNat,Int.reduceEq,Int.reduceNe,Int.reduceLT,Int.reduceLE,or_true,true_or,or_false,false_or,and_self,false_implies,true_implies]))
  all_goals first | omega | (rw [show rKi R i = 0 by omega, beF_0] at hQ; exact hQ) | (rw [show rKi R i = 1 by omega, beF_1] at hQ; exact hQ) | (rw [show rKi R i = 2 by omega, beF_2] at hQ; exact hQ) | (rw [show rKi R i = 3 by omega, beF_3] at hQ; exact hQ) | (rw [show rKi R i = 4 by omega, beF_4] at hQ; exact hQ) | (rw [show rKi R i = 5 by omega, beF_5, if_pos (by omega)] at hQ; exact hQ) | (rw [show rKi R i = 5 by omega, beF_5, if_neg (by omega)] at hQ; exact hQ)
theorem con_MlastsOf {i : Nat} (hi : i < 8) (hG : GR R) (hQ : Q (some (.int (zI (lasts R i)))) (HM R rf lt lsz a0 ib sm pl lo nu kp ig hmg p0 tk ki tu tz tf tn tsz ga sd bb)) : Con M_M_lastsOf [.ref 90, .int (zI i)] (HM R rf lt lsz a0 ib sm pl lo nu kp ig hmg p0 tk ki tu tz tf tn tsz ga sd bb) Q := by
  have gk := hG.ki i
  have gf := hG.fi i
  have hb : lasts R i = laF (rKi R i) (rFi R i) := rfl
  rw [hb] at hQ
  have gk : rKi R i = 0 ∨ rKi R i = 1 ∨ rKi R i = 2 ∨ rKi R i = 3 ∨ rKi R i = 4 ∨ rKi R i = 5 := by omega
  refine g8_ (L := [some (.ref 90), some (.int (zI i))]) ok_M_lastsOf (Nat.le_of_ble_eq_true rfl) rfl ?_
  refine w_M_lastsOf_0 ?_
  rcases gk with k | k | k | k | k | k
  all_goals rw [k] at hQ
  all_goals first | rw [laF_0] at hQ | rw [laF_1] at hQ | rw [laF_2] at hQ | rw [laF_3] at hQ | rw [laF_4] at hQ | rw [laF_5] at hQ
  all_goals simp (disch := omega) only [cm_,aq_,a1_,ay_,ag_,b8_,af_,ah_,ba_,bc_,bx_,bb_,bv_,bh_,bo_,c0_,bz_,bu_,am_,ae_,ac_,bq_,ed_,bs_,a0_,ao_,as_,az_,a4_,aw_,dw_,d6_,ea_,d3_,b5_,fh_,fw_,fu_,fp_,fz_,fq_,fk_,ft_,fs_,f0_,c5_,bd_,ct_,cx_,co_,cr_,cz_,cj_,eb_,d5_,cf_,ch_,ci_,cy_,an_,cl_,cv_,fm_,fv_,d1_,cq_,Int.toNat_natCast,c7_,ej_,f3_,di_,dm_,dn_,er_,cc_,ek_,em_,gv_,g1_,g0_,gz_,gx_,g3_,gq_,f4_,Int.add_zero,Int.zero_add,Int.ediv_one,Nat.reduceAdd,Nat.reduceMul,Int.reduceNeg,Nat.reduceLeDiff,List.length_cons,List.length_nil,true_and,and_true,Nat.zero_add,eq_self,Nat.reduceEqDiff,Int.reduceAdd,Int.reduceSub,Int.reduceMul,not_true_eq_false,not_false_eq_true,Nat.reduceLT,Int.reduceToNat,Int.reduceEq,Int.reduceNe,Int.reduceLT,Int.reduceLE,or_true,true_or,or_false,false_or,and_self,false_implies,true_implies,k]
  all_goals
    repeat' (first | with_reducible refine And.intro ?_ ?_ | with_reducible intro _ | ((first | with_reducible refine w_M_lastsOf_40 ?_ | with_reducible refine w_M_lastsOf_43 ?_ | with_reducible refine w_M_lastsOf_53 ?_ | with_reducible refine w_M_lastsOf_55 ?_ | with_reducible refine w_M_lastsOf_67 ?_); simp (disch := omega) only [cm_,aq_,a1_,ay_,ag_,b8_,af_,ah_,ba_,bc_,bx_,bb_,bv_,bh_,bo_,c0_,bz_,bu_,am_,ae_,ac_,bq_,ed_,bs_,a0_,ao_,as_,az_,a4_,aw_,dw_,d6_,ea_,d3_,b5_,fh_,fw_,fu_,fp_,fz_,fq_,fk_,ft_,fs_,f0_,c5_,bd_,ct_,cx_,co_,cr_,cz_,cj_,eb_,d5_,cf_,ch_,ci_,cy_,an_,cl_,cv_,fm_,fv_,d1_,cq_,Int.toNat_natCast,c7_,ej_,f3_,di_,dm_,dn_,er_,cc_,ek_,em_,gv_,g1_,g0_,gz_,gx_,g3_,gq_,f4_,Int.add_zero,Int.zero_add,Int.ediv_one,Nat.reduceAdd,Nat.reduceMul,Int.reduceNeg,Nat.reduceLeDiff,List.length_cons,List.length_nil,true_and,and_true,Nat.zero_add,eq_self,Nat.reduceEqDiff,Int.reduceAdd,Int.reduceSub,Int.reduceMul,not_true_eq_false,not_false_eq_true,Nat.reduceLT,Int.reduceToNat,Int.reduceEq,Int.reduceNe,Int.reduceLT,Int.reduceLE,or_true,true_or,or_false,false_or,and_self,false_implies,true_implies]))
  all_goals first | omega | exact hQ | (rw [Int.add_comm] at hQ; exact hQ) | (rw [Int.add_comm (rFi R i) 12] at hQ; exact hQ)
theorem con_MisFeuding {i : Nat} (hi : i < 8) (hG : GR R) (h1 : (rKi R i = 4 ∨ rKi R i = 5) → Q (some (.int (zI 1))) (HM R rf lt lsz a0 ib sm pl lo nu kp ig hmg p0 tk ki tu tz tf tn tsz ga sd bb)) (h0 : ¬ (rKi R i = 4 ∨ rKi R i = 5) → Q (some (.int (zI 0))) (HM R rf lt lsz a0 ib sm pl lo nu kp ig hmg p0 tk ki tu tz tf tn tsz ga sd bb)) : Con M_M_isFeuding [.ref 90, .int (zI i)] (HM R rf lt lsz a0 ib sm pl lo nu kp ig hmg p0 tk ki tu tz tf tn tsz ga sd bb) Q := by
  have gk := hG.ki i
  refine g8_ (L := [some (.ref 90), some (.int (zI i))]) ok_M_isFeuding (Nat.le_of_ble_eq_true rfl) rfl ?_
  refine w_M_isFeuding_0 ?_
  simp (disch := omega) only [cm_,aq_,a1_,ay_,ag_,b8_,af_,ah_,ba_,bc_,bx_,bb_,bv_,bh_,bo_,c0_,bz_,bu_,am_,ae_,ac_,bq_,ed_,bs_,a0_,ao_,as_,az_,a4_,aw_,dw_,d6_,ea_,d3_,b5_,fh_,fw_,fu_,fp_,fz_,fq_,fk_,ft_,fs_,f0_,c5_,bd_,ct_,cx_,co_,cr_,cz_,cj_,eb_,d5_,cf_,ch_,ci_,cy_,an_,cl_,cv_,fm_,fv_,d1_,cq_,Int.toNat_natCast,c7_,ej_,f3_,di_,dm_,dn_,er_,cc_,ek_,em_,gv_,g1_,g0_,gz_,gx_,g3_,gq_,f4_,Int.add_zero,Int.zero_add,Int.ediv_one,Nat.reduceAdd,Nat.reduceMul,Int.reduceNeg,Nat.reduceLeDiff,List.length_cons,List.length_nil,true_and,and_true,Nat.zero_add,eq_self,Nat.reduceEqDiff,Int.reduceAdd,Int.reduceSub,Int.reduceMul,not_true_eq_false,not_false_eq_true,Nat.reduceLT,Int.reduceToNat,Int.reduceEq,Int.reduceNe,Int.reduceLT,Int.reduceLE,or_true,true_or,or_false,false_or,and_self,false_implies,true_implies]
  repeat' (first | with_reducible refine And.intro ?_ ?_ | with_reducible intro _ | ((first | with_reducible refine w_M_isFeuding_20 ?_ | with_reducible refine w_M_isFeuding_24 ?_ | with_reducible refine w_M_isFeuding_25 ?_); simp (disch := omega) only [cm_,aq_,a1_,ay_,ag_,b8_,af_,ah_,ba_,bc_,bx_,bb_,bv_,bh_,bo_,c0_,bz_,bu_,am_,ae_,ac_,bq_,ed_,bs_,a0_,ao_,as_,az_,a4_,aw_,dw_,d6_,ea_,d3_,b5_,fh_,fw_,fu_,fp_,fz_,fq_,fk_,ft_,fs_,f0_,c5_,bd_,ct_,cx_,co_,cr_,cz_,cj_,eb_,d5_,cf_,ch_,ci_,cy_,an_,cl_,cv_,fm_,fv_,d1_,cq_,Int.toNat_natCast,c7_,ej_,f3_,di_,dm_,dn_,er_,cc_,ek_,em_,gv_,g1_,g0_,gz_,gx_,g3_,gq_,f4_,Int.add_zero,Int.zero_add,Int.ediv_one,Nat.reduceAdd,Nat.reduceMul,Int.reduceNeg,Nat.reduceLeDiff,List.length_cons,List.length_nil,true_and,and_true,Nat.zero_add,eq_self,Nat.reduceEqDiff,Int.reduceAdd,Int.reduceSub,Int.reduceMul,not_true_eq_false,not_false_eq_true,Nat.reduceLT,Int.reduceToNat,Int.reduceEq,Int.reduceNe,Int.reduceLT,Int.reduceLE,or_true,true_or,or_false,false_or,and_self,false_implies,true_implies]))
  all_goals first | omega | exact h1 (by omega) | exact h0 (by omega)
/-- the feudists and silent ones among these -/
def fcN (R : RR) (b : Nat) : Nat → Int
  | 0 => 0
  | n + 1 => if b.testBit n = true ∧ (rKi R n = 4 ∨ rKi R n = 5) then fcN R b n + 1 else fcN R b n
theorem fcN_rng (R : RR) (b n : Nat) : 0 ≤ fcN R b n ∧ fcN R b n ≤ n := by
  induction n with
  | zero => simp [fcN]
  | succ n ih =>
    simp only [fcN]
    split <;> omega
theorem con_MfeudingIn {b0 : Nat} (hb : b0 < 256) (hG : GR R) (hQ : Q (some (.int (zI (fcN R b0 (hb_ R))))) (HM R rf lt lsz a0 ib sm pl lo nu kp ig hmg p0 tk ki tu tz tf tn tsz ga sd bb)) : Con M_M_feudingIn [.ref 90, .int (zI b0)] (HM R rf lt lsz a0 ib sm pl lo nu kp ig hmg p0 tk ki tu tz tf tn tsz ga sd bb) Q := by
  have gm := hG.men
  have gn := hG.nM
  refine g8_ (L := [some (.ref 90), some (.int (zI b0)), none, none]) ok_M_feudingIn (Nat.le_of_ble_eq_true rfl) rfl ?_
  refine w_M_feudingIn_0 ?_
  simp (disch := omega) only [cm_,aq_,a1_,ay_,ag_,b8_,af_,ah_,ba_,bc_,bx_,bb_,bv_,bh_,bo_,c0_,bz_,bu_,am_,ae_,ac_,bq_,ed_,bs_,a0_,ao_,as_,az_,a4_,aw_,dw_,d6_,ea_,d3_,b5_,fh_,fw_,fu_,fp_,fz_,fq_,fk_,ft_,fs_,f0_,c5_,bd_,ct_,cx_,co_,cr_,cz_,cj_,eb_,d5_,cf_,ch_,ci_,cy_,an_,cl_,cv_,fm_,fv_,d1_,cq_,Int.toNat_natCast,c7_,ej_,f3_,di_,dm_,dn_,er_,cc_,ek_,em_,gv_,g1_,g0_,gz_,gx_,g3_,gq_,f4_,Int.add_zero,Int.zero_add,Int.ediv_one,Nat.reduceAdd,Nat.reduceMul,Int.reduceNeg,Nat.reduceLeDiff,List.length_cons,List.length_nil,true_and,and_true,Nat.zero_add,eq_self,Nat.reduceEqDiff,Int.reduceAdd,Int.reduceSub,Int.reduceMul,not_true_eq_false,not_false_eq_true,Nat.reduceLT,Int.reduceToNat,Int.reduceEq,Int.reduceNe,Int.reduceLT,Int.reduceLE,or_true,true_or,or_false,false_or,and_self,false_implies,true_implies]
  have loop : ∀ n i : Nat, i + n = hb_ R → J M_M_feudingIn 4 [some (.ref 90), some (.int (zI b0)), some (.int (zI (fcN R b0 i))), some (.int (zI i))] [] (HM R rf lt lsz a0 ib sm pl lo nu kp ig hmg p0 tk ki tu tz tf tn tsz ga sd bb) Q := by
    intro n
    induction n with
    | zero =>
      intro i hi
      have e : i = hb_ R := by omega
      subst e
      refine w_M_feudingIn_4 ?_
      simp (disch := omega) only [cm_,aq_,a1_,ay_,ag_,b8_,af_,ah_,ba_,bc_,bx_,bb_,bv_,bh_,bo_,c0_,bz_,bu_,am_,ae_,ac_,bq_,ed_,bs_,a0_,ao_,as_,az_,a4_,aw_,dw_,d6_,ea_,d3_,b5_,fh_,fw_,fu_,fp_,fz_,fq_,fk_,ft_,fs_,f0_,c5_,bd_,ct_,cx_,co_,cr_,cz_,cj_,eb_,d5_,cf_,ch_,ci_,cy_,an_,cl_,cv_,fm_,fv_,d1_,cq_,Int.toNat_natCast,c7_,ej_,f3_,di_,dm_,dn_,er_,cc_,ek_,em_,gv_,g1_,g0_,gz_,gx_,g3_,gq_,f4_,Int.add_zero,Int.zero_add,Int.ediv_one,Nat.reduceAdd,Nat.reduceMul,Int.reduceNeg,Nat.reduceLeDiff,List.length_cons,List.length_nil,true_and,and_true,Nat.zero_add,eq_self,Nat.reduceEqDiff,Int.reduceAdd,Int.reduceSub,Int.reduceMul,not_true_eq_false,not_false_eq_true,Nat.reduceLT,Int.reduceToNat,Int.reduceEq,Int.reduceNe,Int.reduceLT,Int.reduceLE,or_true,true_or,or_false,false_or,and_self,false_implies,true_implies]
      repeat' (first | with_reducible refine And.intro ?_ ?_ | with_reducible intro _ | ((first | with_reducible refine w_M_feudingIn_33 ?_ | with_reducible refine w_M_feudingIn_34 ?_ | with_reducible refine w_M_feudingIn_42 ?_); simp (disch := omega) only [cm_,aq_,a1_,ay_,ag_,b8_,af_,ah_,ba_,bc_,bx_,bb_,bv_,bh_,bo_,c0_,bz_,bu_,am_,ae_,ac_,bq_,ed_,bs_,a0_,ao_,as_,az_,a4_,aw_,dw_,d6_,ea_,d3_,b5_,fh_,fw_,fu_,fp_,fz_,fq_,fk_,ft_,fs_,f0_,c5_,bd_,ct_,cx_,co_,cr_,cz_,cj_,eb_,d5_,cf_,ch_,ci_,cy_,an_,cl_,cv_,fm_,fv_,d1_,cq_,Int.toNat_natCast,c7_,ej_,f3_,di_,dm_,dn_,er_,cc_,ek_,em_,gv_,g1_,g0_,gz_,gx_,g3_,gq_,f4_,Int.add_zero,Int.zero_add,Int.ediv_one,Nat.reduceAdd,Nat.reduceMul,Int.reduceNeg,Nat.reduceLeDiff,List.length_cons,List.length_nil,true_and,and_true,Nat.zero_add,eq_self,Nat.reduceEqDiff,Int.reduceAdd,Int.reduceSub,Int.reduceMul,not_true_eq_false,not_false_eq_true,Nat.reduceLT,Int.reduceToNat,Int.reduceEq,Int.reduceNe,Int.reduceLT,Int.reduceLE,or_true,true_or,or_false,false_or,and_self,false_implies,true_implies]))
      all_goals first | omega | exact hQ
    | succ n ih =>
      intro i hi
      have step := ih (i + 1) (by omega)
      simp only [fcN] at step
      refine w_M_feudingIn_4 ?_
      simp (disch := omega) only [cm_,aq_,a1_,ay_,ag_,b8_,af_,ah_,ba_,bc_,bx_,bb_,bv_,bh_,bo_,c0_,bz_,bu_,am_,ae_,ac_,bq_,ed_,bs_,a0_,ao_,as_,az_,a4_,aw_,dw_,d6_,ea_,d3_,b5_,fh_,fw_,fu_,fp_,fz_,fq_,fk_,ft_,fs_,f0_,c5_,bd_,ct_,cx_,co_,cr_,cz_,cj_,eb_,d5_,cf_,ch_,ci_,cy_,an_,cl_,cv_,fm_,fv_,d1_,cq_,Int.toNat_natCast,c7_,ej_,f3_,di_,dm_,dn_,er_,cc_,ek_,em_,gv_,g1_,g0_,gz_,gx_,g3_,gq_,f4_,Int.add_zero,Int.zero_add,Int.ediv_one,Nat.reduceAdd,Nat.reduceMul,Int.reduceNeg,Nat.reduceLeDiff,List.length_cons,List.length_nil,true_and,and_true,Nat.zero_add,eq_self,Nat.reduceEqDiff,Int.reduceAdd,Int.reduceSub,Int.reduceMul,not_true_eq_false,not_false_eq_true,Nat.reduceLT,Int.reduceToNat,Int.reduceEq,Int.reduceNe,Int.reduceLT,Int.reduceLE,or_true,true_or,or_false,false_or,and_self,false_implies,true_implies]
      refine ⟨fun _ => by omega, fun _ => ?_⟩
      refine con_MhasBit (by omega) (by omega) (fun c => ?_) (fun c => ?_)
      · simp (disch := omega) only [cm_,aq_,a1_,ay_,ag_,b8_,af_,ah_,ba_,bc_,bx_,bb_,bv_,bh_,bo_,c0_,bz_,bu_,am_,ae_,ac_,bq_,ed_,bs_,a0_,ao_,as_,az_,a4_,aw_,dw_,d6_,ea_,d3_,b5_,fh_,fw_,fu_,fp_,fz_,fq_,fk_,ft_,fs_,f0_,c5_,bd_,ct_,cx_,co_,cr_,cz_,cj_,eb_,d5_,cf_,ch_,ci_,cy_,an_,cl_,cv_,fm_,fv_,d1_,cq_,Int.toNat_natCast,c7_,ej_,f3_,di_,dm_,dn_,er_,cc_,ek_,em_,gv_,g1_,g0_,gz_,gx_,g3_,gq_,f4_,Int.add_zero,Int.zero_add,Int.ediv_one,Nat.reduceAdd,Nat.reduceMul,Int.reduceNeg,Nat.reduceLeDiff,List.length_cons,List.length_nil,true_and,and_true,Nat.zero_add,eq_self,Nat.reduceEqDiff,Int.reduceAdd,Int.reduceSub,Int.reduceMul,not_true_eq_false,not_false_eq_true,Nat.reduceLT,Int.reduceToNat,Int.reduceEq,Int.reduceNe,Int.reduceLT,Int.reduceLE,or_true,true_or,or_false,false_or,and_self,false_implies,true_implies]
        refine con_MisFeuding (by omega) hG (fun c2 => ?_) (fun c2 => ?_)
        · rw [if_pos ⟨c, c2⟩] at step
          simp (disch := omega) only [cm_,aq_,a1_,ay_,ag_,b8_,af_,ah_,ba_,bc_,bx_,bb_,bv_,bh_,bo_,c0_,bz_,bu_,am_,ae_,ac_,bq_,ed_,bs_,a0_,ao_,as_,az_,a4_,aw_,dw_,d6_,ea_,d3_,b5_,fh_,fw_,fu_,fp_,fz_,fq_,fk_,ft_,fs_,f0_,c5_,bd_,ct_,cx_,co_,cr_,cz_,cj_,eb_,d5_,cf_,ch_,ci_,cy_,an_,cl_,cv_,fm_,fv_,d1_,cq_,Int.toNat_natCast,c7_,ej_,f3_,di_,dm_,dn_,er_,cc_,ek_,em_,gv_,g1_,g0_,gz_,gx_,g3_,gq_,f4_,Int.add_zero,Int.zero_add,Int.ediv_one,Nat.reduceAdd,Nat.reduceMul,Int.reduceNeg,Nat.reduceLeDiff,List.length_cons,List.length_nil,true_and,and_true,Nat.zero_add,eq_self,Nat.reduceEqDiff,Int.reduceAdd,Int.reduceSub,Int.reduceMul,not_true_eq_false,not_false_eq_true,Nat.reduceLT,Int.reduceToNat,Int.reduceEq,Int.reduceNe,Int.reduceLT,Int.reduceLE,or_true,true_or,or_false,false_or,and_self,false_implies,true_implies]
          repeat' (first | with_reducible refine And.intro ?_ ?_ | with_reducible intro _ | ((first | with_reducible refine w_M_feudingIn_33 ?_ | with_reducible refine w_M_feudingIn_34 ?_ | with_reducible refine w_M_feudingIn_42 ?_); simp (disch := omega) only [cm_,aq_,a1_,ay_,ag_,b8_,af_,ah_,ba_,bc_,bx_,bb_,bv_,bh_,bo_,c0_,bz_,bu_,am_,ae_,ac_,bq_,ed_,bs_,a0_,ao_,as_,az_,a4_,aw_,dw_,d6_,ea_,d3_,b5_,fh_,fw_,fu_,fp_,fz_,fq_,fk_,ft_,fs_,f0_,c5_,bd_,ct_,cx_,co_,cr_,cz_,cj_,eb_,d5_,cf_,ch_,ci_,cy_,an_,cl_,cv_,fm_,fv_,d1_,cq_,Int.toNat_natCast,c7_,ej_,f3_,di_,dm_,dn_,er_,cc_,ek_,em_,gv_,g1_,g0_,gz_,gx_,g3_,gq_,f4_,Int.add_zero,Int.zero_add,Int.ediv_one,Nat.reduceAdd,Nat.reduceMul,Int.reduceNeg,Nat.reduceLeDiff,List.length_cons,List.length_nil,true_and,and_true,Nat.zero_add,eq_self,Nat.reduceEqDiff,Int.reduceAdd,Int.reduceSub,Int.reduceMul,not_true_eq_false,not_false_eq_true,Nat.reduceLT,Int.reduceToNat,Int.reduceEq,Int.reduceNe,Int.reduceLT,Int.reduceLE,or_true,true_or,or_false,false_or,and_self,false_implies,true_implies]))
          all_goals first | omega | exact step
        · rw [if_neg (fun q => c2 q.2)] at step
          simp (disch := omega) only [cm_,aq_,a1_,ay_,ag_,b8_,af_,ah_,ba_,bc_,bx_,bb_,bv_,bh_,bo_,c0_,bz_,bu_,am_,ae_,ac_,bq_,ed_,bs_,a0_,ao_,as_,az_,a4_,aw_,dw_,d6_,ea_,d3_,b5_,fh_,fw_,fu_,fp_,fz_,fq_,fk_,ft_,fs_,f0_,c5_,bd_,ct_,cx_,co_,cr_,cz_,cj_,eb_,d5_,cf_,ch_,ci_,cy_,an_,cl_,cv_,fm_,fv_,d1_,cq_,Int.toNat_natCast,c7_,ej_,f3_,di_,dm_,dn_,er_,cc_,ek_,em_,gv_,g1_,g0_,gz_,gx_,g3_,gq_,f4_,Int.add_zero,Int.zero_add,Int.ediv_one,Nat.reduceAdd,Nat.reduceMul,Int.reduceNeg,Nat.reduceLeDiff,List.length_cons,List.length_nil,true_and,and_true,Nat.zero_add,eq_self,Nat.reduceEqDiff,Int.reduceAdd,Int.reduceSub,Int.reduceMul,not_true_eq_false,not_false_eq_true,Nat.reduceLT,Int.reduceToNat,Int.reduceEq,Int.reduceNe,Int.reduceLT,Int.reduceLE,or_true,true_or,or_false,false_or,and_self,false_implies,true_implies]
          repeat' (first | with_reducible refine And.intro ?_ ?_ | with_reducible intro _ | ((first | with_reducible refine w_M_feudingIn_33 ?_ | with_reducible refine w_M_feudingIn_34 ?_ | with_reducible refine w_M_feudingIn_42 ?_); simp (disch := omega) only [cm_,aq_,a1_,ay_,ag_,b8_,af_,ah_,ba_,bc_,bx_,bb_,bv_,bh_,bo_,c0_,bz_,bu_,am_,ae_,ac_,bq_,ed_,bs_,a0_,ao_,as_,az_,a4_,aw_,dw_,d6_,ea_,d3_,b5_,fh_,fw_,fu_,fp_,fz_,fq_,fk_,ft_,fs_,f0_,c5_,bd_,ct_,cx_,co_,cr_,cz_,cj_,eb_,d5_,cf_,ch_,ci_,cy_,an_,cl_,cv_,fm_,fv_,d1_,cq_,Int.toNat_natCast,c7_,ej_,f3_,di_,dm_,dn_,er_,cc_,ek_,em_,gv_,g1_,g0_,gz_,gx_,g3_,gq_,f4_,Int.add_zero,Int.zero_add,Int.ediv_one,Nat.reduceAdd,Nat.reduceMul,Int.reduceNeg,Nat.reduceLeDiff,List.length_cons,List.length_nil,true_and,and_true,Nat.zero_add,eq_self,Nat.reduceEqDiff,Int.reduceAdd,Int.reduceSub,Int.reduceMul,not_true_eq_false,not_false_eq_true,Nat.reduceLT,Int.reduceToNat,Int.reduceEq,Int.reduceNe,Int.reduceLT,Int.reduceLE,or_true,true_or,or_false,false_or,and_self,false_implies,true_implies]))
          all_goals first | omega | exact step
      · rw [if_neg (fun q => by rw [c] at q; exact absurd q.1 (by decide))] at step
        simp (disch := omega) only [cm_,aq_,a1_,ay_,ag_,b8_,af_,ah_,ba_,bc_,bx_,bb_,bv_,bh_,bo_,c0_,bz_,bu_,am_,ae_,ac_,bq_,ed_,bs_,a0_,ao_,as_,az_,a4_,aw_,dw_,d6_,ea_,d3_,b5_,fh_,fw_,fu_,fp_,fz_,fq_,fk_,ft_,fs_,f0_,c5_,bd_,ct_,cx_,co_,cr_,cz_,cj_,eb_,d5_,cf_,ch_,ci_,cy_,an_,cl_,cv_,fm_,fv_,d1_,cq_,Int.toNat_natCast,c7_,ej_,f3_,di_,dm_,dn_,er_,cc_,ek_,em_,gv_,g1_,g0_,gz_,gx_,g3_,gq_,f4_,Int.add_zero,Int.zero_add,Int.ediv_one,Nat.reduceAdd,Nat.reduceMul,Int.reduceNeg,Nat.reduceLeDiff,List.length_cons,List.length_nil,true_and,and_true,Nat.zero_add,eq_self,Nat.reduceEqDiff,Int.reduceAdd,Int.reduceSub,Int.reduceMul,not_true_eq_false,not_false_eq_true,Nat.reduceLT,Int.reduceToNat,Int.reduceEq,Int.reduceNe,Int.reduceLT,Int.reduceLE,or_true,true_or,or_false,false_or,and_self,false_implies,true_implies]
        repeat' (first | with_reducible refine And.intro ?_ ?_ | with_reducible intro _ | ((first | with_reducible refine w_M_feudingIn_33 ?_ | with_reducible refine w_M_feudingIn_34 ?_ | with_reducible refine w_M_feudingIn_42 ?_); simp (disch := omega) only [cm_,aq_,a1_,ay_,ag_,b8_,af_,ah_,ba_,bc_,bx_,bb_,bv_,bh_,bo_,c0_,bz_,bu_,am_,ae_,ac_,bq_,ed_,bs_,a0_,ao_,as_,az_,a4_,aw_,dw_,d6_,ea_,d3_,b5_,fh_,fw_,fu_,fp_,fz_,fq_,fk_,ft_,fs_,f0_,c5_,bd_,ct_,cx_,co_,cr_,cz_,cj_,eb_,d5_,cf_,ch_,ci_,cy_,an_,cl_,cv_,fm_,fv_,d1_,cq_,Int.toNat_natCast,c7_,ej_,f3_,di_,dm_,dn_,er_,cc_,ek_,em_,gv_,g1_,g0_,gz_,gx_,g3_,gq_,f4_,Int.add_zero,Int.zero_add,Int.ediv_one,Nat.reduceAdd,Nat.reduceMul,Int.reduceNeg,Nat.reduceLeDiff,List.length_cons,List.length_nil,true_and,and_true,Nat.zero_add,eq_self,Nat.reduceEqDiff,Int.reduceAdd,Int.reduceSub,Int.reduceMul,not_true_eq_false,not_false_eq_true,Nat.reduceLT,Int.reduceToNat,Int.reduceEq,Int.reduceNe,Int.reduceLT,Int.reduceLE,or_true,true_or,or_false,false_or,and_self,false_implies,true_implies]))
        all_goals first | omega | exact step
  exact loop _ 0 (Nat.zero_add _)
theorem con_MneededHere (hG : GR R) (hQ : Q (some (.int (zI (needed R)))) (HM R rf lt lsz a0 ib sm pl lo nu kp ig hmg p0 tk ki tu tz tf tn tsz ga sd bb)) : Con M_M_neededHere [.ref 90] (HM R rf lt lsz a0 ib sm pl lo nu kp ig hmg p0 tk ki tu tz tf tn tsz ga sd bb) Q := by
  have gk := hG.king
  have gl := hG.load
  have gs := hG.snow
  have g2 := hG.sl (hd_ R).toNat
  simp only [needed, slH] at hQ
  refine g8_ (L := [some (.ref 90)]) ok_M_neededHere (Nat.le_of_ble_eq_true rfl) rfl ?_
  refine w_M_neededHere_0 ?_
  simp (disch := omega) only [cm_,aq_,a1_,ay_,ag_,b8_,af_,ah_,ba_,bc_,bx_,bb_,bv_,bh_,bo_,c0_,bz_,bu_,am_,ae_,ac_,bq_,ed_,bs_,a0_,ao_,as_,az_,a4_,aw_,dw_,d6_,ea_,d3_,b5_,fh_,fw_,fu_,fp_,fz_,fq_,fk_,ft_,fs_,f0_,c5_,bd_,ct_,cx_,co_,cr_,cz_,cj_,eb_,d5_,cf_,ch_,ci_,cy_,an_,cl_,cv_,fm_,fv_,d1_,cq_,Int.toNat_natCast,c7_,ej_,f3_,di_,dm_,dn_,er_,cc_,ek_,em_,gv_,g1_,g0_,gz_,gx_,g3_,gq_,f4_,Int.add_zero,Int.zero_add,Int.ediv_one,Nat.reduceAdd,Nat.reduceMul,Int.reduceNeg,Nat.reduceLeDiff,List.length_cons,List.length_nil,true_and,and_true,Nat.zero_add,eq_self,Nat.reduceEqDiff,Int.reduceAdd,Int.reduceSub,Int.reduceMul,not_true_eq_false,not_false_eq_true,Nat.reduceLT,Int.reduceToNat,Int.reduceEq,Int.reduceNe,Int.reduceLT,Int.reduceLE,or_true,true_or,or_false,false_or,and_self,false_implies,true_implies]
  refine ⟨fun c => ?_, fun c => ?_⟩
  · rw [if_neg (by omega), show rLoad R + 0 + rSnow R = rLoad R + rSnow R by omega] at hQ
    refine w_M_neededHere_30 ?_
    simp (disch := omega) only [cm_,aq_,a1_,ay_,ag_,b8_,af_,ah_,ba_,bc_,bx_,bb_,bv_,bh_,bo_,c0_,bz_,bu_,am_,ae_,ac_,bq_,ed_,bs_,a0_,ao_,as_,az_,a4_,aw_,dw_,d6_,ea_,d3_,b5_,fh_,fw_,fu_,fp_,fz_,fq_,fk_,ft_,fs_,f0_,c5_,bd_,ct_,cx_,co_,cr_,cz_,cj_,eb_,d5_,cf_,ch_,ci_,cy_,an_,cl_,cv_,fm_,fv_,d1_,cq_,Int.toNat_natCast,c7_,ej_,f3_,di_,dm_,dn_,er_,cc_,ek_,em_,gv_,g1_,g0_,gz_,gx_,g3_,gq_,f4_,Int.add_zero,Int.zero_add,Int.ediv_one,Nat.reduceAdd,Nat.reduceMul,Int.reduceNeg,Nat.reduceLeDiff,List.length_cons,List.length_nil,true_and,and_true,Nat.zero_add,eq_self,Nat.reduceEqDiff,Int.reduceAdd,Int.reduceSub,Int.reduceMul,not_true_eq_false,not_false_eq_true,Nat.reduceLT,Int.reduceToNat,Int.reduceEq,Int.reduceNe,Int.reduceLT,Int.reduceLE,or_true,true_or,or_false,false_or,and_self,false_implies,true_implies]
    refine w_M_neededHere_31 ?_
    simp (disch := omega) only [cm_,aq_,a1_,ay_,ag_,b8_,af_,ah_,ba_,bc_,bx_,bb_,bv_,bh_,bo_,c0_,bz_,bu_,am_,ae_,ac_,bq_,ed_,bs_,a0_,ao_,as_,az_,a4_,aw_,dw_,d6_,ea_,d3_,b5_,fh_,fw_,fu_,fp_,fz_,fq_,fk_,ft_,fs_,f0_,c5_,bd_,ct_,cx_,co_,cr_,cz_,cj_,eb_,d5_,cf_,ch_,ci_,cy_,an_,cl_,cv_,fm_,fv_,d1_,cq_,Int.toNat_natCast,c7_,ej_,f3_,di_,dm_,dn_,er_,cc_,ek_,em_,gv_,g1_,g0_,gz_,gx_,g3_,gq_,f4_,Int.add_zero,Int.zero_add,Int.ediv_one,Nat.reduceAdd,Nat.reduceMul,Int.reduceNeg,Nat.reduceLeDiff,List.length_cons,List.length_nil,true_and,and_true,Nat.zero_add,eq_self,Nat.reduceEqDiff,Int.reduceAdd,Int.reduceSub,Int.reduceMul,not_true_eq_false,not_false_eq_true,Nat.reduceLT,Int.reduceToNat,Int.reduceEq,Int.reduceNe,Int.reduceLT,Int.reduceLE,or_true,true_or,or_false,false_or,and_self,false_implies,true_implies]
    exact hQ
  · rw [if_pos (by omega), show rLoad R + rSl R (hd_ R).toNat + rSnow R = rLoad R + rSnow R + rSl R (hd_ R).toNat by omega] at hQ
    refine ⟨by omega, ?_⟩
    refine w_M_neededHere_31 ?_
    simp (disch := omega) only [cm_,aq_,a1_,ay_,ag_,b8_,af_,ah_,ba_,bc_,bx_,bb_,bv_,bh_,bo_,c0_,bz_,bu_,am_,ae_,ac_,bq_,ed_,bs_,a0_,ao_,as_,az_,a4_,aw_,dw_,d6_,ea_,d3_,b5_,fh_,fw_,fu_,fp_,fz_,fq_,fk_,ft_,fs_,f0_,c5_,bd_,ct_,cx_,co_,cr_,cz_,cj_,eb_,d5_,cf_,ch_,ci_,cy_,an_,cl_,cv_,fm_,fv_,d1_,cq_,Int.toNat_natCast,c7_,ej_,f3_,di_,dm_,dn_,er_,cc_,ek_,em_,gv_,g1_,g0_,gz_,gx_,g3_,gq_,f4_,Int.add_zero,Int.zero_add,Int.ediv_one,Nat.reduceAdd,Nat.reduceMul,Int.reduceNeg,Nat.reduceLeDiff,List.length_cons,List.length_nil,true_and,and_true,Nat.zero_add,eq_self,Nat.reduceEqDiff,Int.reduceAdd,Int.reduceSub,Int.reduceMul,not_true_eq_false,not_false_eq_true,Nat.reduceLT,Int.reduceToNat,Int.reduceEq,Int.reduceNe,Int.reduceLT,Int.reduceLE,or_true,true_or,or_false,false_or,and_self,false_implies,true_implies]
    exact hQ
end D2
end
/-! dayM -/
section
/-! ===== the reference's day ===== -/
theorem feud_fc (R : RR) (b n : Nat) : (feud R b n = true) ↔ 0 < fcN R b n := by
  induction n with
  | zero => simp [feud, fcN]
  | succ n ih =>
    have := fcN_rng R b n
    by_cases c : b.testBit n = true ∧ (rKi R n = 4 ∨ rKi R n = 5)
    · have e : feud R b (n + 1) = true := by
        simp only [feud, c.1, Bool.true_and]
        rcases c.2 with q | q <;> simp [q]
      simp only [fcN]
      rw [if_pos c]
      exact ⟨fun _ => by omega, fun _ => e⟩
    · have e : feud R b (n + 1) = feud R b n := by
        simp only [feud]
        rcases Classical.not_and_iff_not_or_not.mp c with q | q
        · simp [q]
        · have q1 : ¬ rKi R n = 4 := fun z => q (Or.inl z)
          have q2 : ¬ rKi R n = 5 := fun z => q (Or.inr z)
          simp [q1, q2]
      rw [e]
      simp only [fcN]
      rw [if_neg c]
      exact ih
theorem fc_anb (R : RR) {b i : Nat} (hb : b.testBit i = true) (hk : rKi R i = 4 ∨ rKi R i = 5) (n : Nat) : fcN R b n = fcN R (anb b (2 ^ i)) n + (if i < n then 1 else 0) := by
  induction n with
  | zero => simp [fcN]
  | succ n ih =>
    have hp : (2 ^ i).testBit n = decide (i = n) := Nat.testBit_two_pow
    have ha := anb_bit b (2 ^ i) n
    rw [hp] at ha
    simp only [fcN]
    by_cases e : i = n
    · subst e
      rw [if_pos ⟨hb, hk⟩, if_neg (fun q => by rw [ha] at q; simp at q)]
      rw [if_neg (by omega)] at ih
      rw [if_pos (by omega)]
      omega
    · have ha : (anb b (2 ^ i)).testBit n = b.testBit n := by rw [ha]; simp [e]
      rw [ha]
      have e2 : (if i < n + 1 then (1 : Int) else 0) = (if i < n then 1 else 0) := by
        by_cases q : i < n
        · rw [if_pos q, if_pos (by omega)]
        · rw [if_neg q, if_neg (by omega)]
      rw [e2]
      split <;> omega
/-- bits of none but the first n men -/
def lowB (b n : Nat) : Prop := ∀ j, n ≤ j → b.testBit j = false
theorem feud_low {R : RR} {b n : Nat} (h : lowB b n) (m : Nat) : feud R b (n + m) = feud R b n := by
  induction m with
  | zero => rfl
  | succ m ih =>
    show (feud R b (n + m) || (b.testBit (n + m) && _)) = _
    rw [h (n + m) (by omega), Bool.false_and, Bool.or_false]
    exact ih
theorem lowB_anb {b n : Nat} (h : lowB b n) (c : Nat) : lowB (anb b c) n := fun j hj => by
  rw [anb_bit, h j hj, Bool.false_and]
theorem brs_low (R : RR) (i : Nat) : lowB (brs R i).1 (hb_ R) := by
  induction i with
  | zero => intro j _; exact Nat.zero_testBit j
  | succ i ih =>
    simp only [brs]
    split
    · rename_i c
      intro j hj
      have gs : sbst R (brs R i).1 = -9 ∨ (0 ≤ sbst R (brs R i).1 ∧ sbst R (brs R i).1 < hb_ R) := sbN_rng R (brs R i).1 (hb_ R)
      show ((brs R i).1 ||| 2 ^ (sbst R (brs R i).1).toNat).testBit j = false
      rw [Nat.testBit_or, ih j hj, Nat.testBit_two_pow, Bool.false_or]
      exact decide_eq_false (by omega)
    · exact ih
theorem brF_low (R : RR) : lowB (brF R) (hb_ R) := by
  simp only [brF]
  split
  · intro j _; exact Nat.zero_testBit j
  · exact brs_low R 8
section D3
variable {R : RR} {rf : Nat → Int} {lt : Nat → Int} {lsz : Int} {a0 : Int} {ib : Int} {sm : Int} {pl : Nat → Int} {lo : Nat → Int} {nu : Nat → Int} {kp : Nat → Int} {ig : Nat → Int} {hmg : Int} {p0 : Int} {tk : Int} {ki : Value} {tu : Nat → Int} {tz : Int} {tf : Nat → Int} {tn : Nat → Int} {tsz : Int} {ga : Nat → Int} {sd : Int} {bb : AH} {Q : Option Value → AH → Prop}
theorem con_MwearsOf {i b : Nat} (hi : i < hb_ R) (hb : b < 256) (hl : lowB b (hb_ R)) (ht : b.testBit i = true) (hG : GR R) (hQ : Q (some (.int (zI (wears R b i)))) (HM R rf lt lsz a0 ib sm pl lo nu kp ig hmg p0 tk ki tu tz tf tn tsz ga sd bb)) : Con M_M_wearsOf [.ref 90, .int (zI i), .int (zI (slH R)), .int (zI b)] (HM R rf lt lsz a0 ib sm pl lo nu kp ig hmg p0 tk ki tu tz tf tn tsz ga sd bb) Q := by
  have gn := hG.nM
  have gk := hG.ki i
  have gs := slH_rng hG
  have fr := fcN_rng R b (hb_ R)
  have he : wears R b i = weF (rKi R i) (slH R) (feud R (anb b (2 ^ i)) 8) := rfl
  rw [he] at hQ
  have gk : rKi R i = 0 ∨ rKi R i = 1 ∨ rKi R i = 2 ∨ rKi R i = 3 ∨ rKi R i = 4 ∨ rKi R i = 5 := by omega
  refine g8_ (L := [some (.ref 90), some (.int (zI i)), some (.int (zI (slH R))), some (.int (zI b))]) ok_M_wearsOf (Nat.le_of_ble_eq_true rfl) rfl ?_
  refine w_M_wearsOf_0 ?_
  rcases gk with k | k | k | k | k | k
  all_goals rw [k] at hQ
  · rw [weF_0] at hQ
    simp (disch := omega) only [cm_,aq_,ay_,ag_,b8_,af_,ba_,bh_,am_,ac_,bq_,ed_,bs_,a0_,ao_,az_,a4_,dw_,d6_,ea_,d3_,b5_,fh_,fu_,fp_,fz_,fq_,fk_,ft_,f0_,c5_,bd_,ct_,cx_,co_,cr_,cj_,eb_,d5_,cf_,an_,fv_,cq_,Int.toNat_natCast,f3_,di_,dm_,dn_,gv_,g0_,g4_,f4_,Int.add_zero,Int.zero_add,Int.ediv_one,Nat.reduceAdd,Nat.reduceMul,Int.reduceNeg,Nat.reduceLeDiff,List.length_cons,List.length_nil,true_and,and_true,Nat.zero_add,eq_self,Nat.reduceEqDiff,Int.reduceAdd,Int.reduceSub,Int.reduceMul,not_true_eq_false,not_false_eq_true,Nat.reduceLT,Int.reduceToNat,Int.reduceEq,Int.reduceNe,Int.reduceLT,Int.reduceLE,or_true,true_or,or_false,false_or,and_self,and_false,false_and,or_self,false_implies,true_implies,k]
    repeat' (first | with_reducible refine And.intro ?_ ?_ | with_reducible intro _ | ((first | with_reducible refine w_M_wearsOf_40 ?_ | with_reducible refine w_M_wearsOf_42 ?_ | with_reducible refine w_M_wearsOf_48 ?_ | with_reducible refine w_M_wearsOf_52 ?_ | with_reducible refine w_M_wearsOf_65 ?_ | with_reducible refine w_M_wearsOf_70 ?_ | with_reducible refine w_M_wearsOf_71 ?_ | with_reducible refine w_M_wearsOf_73 ?_); simp (disch := omega) only [cm_,aq_,ay_,ag_,b8_,af_,ba_,bh_,am_,ac_,bq_,ed_,bs_,a0_,ao_,az_,a4_,dw_,d6_,ea_,d3_,b5_,fh_,fu_,fp_,fz_,fq_,fk_,ft_,f0_,c5_,bd_,ct_,cx_,co_,cr_,cj_,eb_,d5_,cf_,an_,fv_,cq_,Int.toNat_natCast,f3_,di_,dm_,dn_,gv_,g0_,g4_,f4_,Int.add_zero,Int.zero_add,Int.ediv_one,Nat.reduceAdd,Nat.reduceMul,Int.reduceNeg,Nat.reduceLeDiff,List.length_cons,List.length_nil,true_and,and_true,Nat.zero_add,eq_self,Nat.reduceEqDiff,Int.reduceAdd,Int.reduceSub,Int.reduceMul,not_true_eq_false,not_false_eq_true,Nat.reduceLT,Int.reduceToNat,Int.reduceEq,Int.reduceNe,Int.reduceLT,Int.reduceLE,or_true,true_or,or_false,false_or,and_self,and_false,false_and,or_self,false_implies,true_implies]))
    all_goals first | omega | exact hQ
  · rw [weF_1] at hQ
    simp (disch := omega) only [cm_,aq_,ay_,ag_,b8_,af_,ba_,bh_,am_,ac_,bq_,ed_,bs_,a0_,ao_,az_,a4_,dw_,d6_,ea_,d3_,b5_,fh_,fu_,fp_,fz_,fq_,fk_,ft_,f0_,c5_,bd_,ct_,cx_,co_,cr_,cj_,eb_,d5_,cf_,an_,fv_,cq_,Int.toNat_natCast,f3_,di_,dm_,dn_,gv_,g0_,g4_,f4_,Int.add_zero,Int.zero_add,Int.ediv_one,Nat.reduceAdd,Nat.reduceMul,Int.reduceNeg,Nat.reduceLeDiff,List.length_cons,List.length_nil,true_and,and_true,Nat.zero_add,eq_self,Nat.reduceEqDiff,Int.reduceAdd,Int.reduceSub,Int.reduceMul,not_true_eq_false,not_false_eq_true,Nat.reduceLT,Int.reduceToNat,Int.reduceEq,Int.reduceNe,Int.reduceLT,Int.reduceLE,or_true,true_or,or_false,false_or,and_self,and_false,false_and,or_self,false_implies,true_implies,k]
    repeat' (first | with_reducible refine And.intro ?_ ?_ | with_reducible intro _ | ((first | with_reducible refine w_M_wearsOf_40 ?_ | with_reducible refine w_M_wearsOf_42 ?_ | with_reducible refine w_M_wearsOf_48 ?_ | with_reducible refine w_M_wearsOf_52 ?_ | with_reducible refine w_M_wearsOf_65 ?_ | with_reducible refine w_M_wearsOf_70 ?_ | with_reducible refine w_M_wearsOf_71 ?_ | with_reducible refine w_M_wearsOf_73 ?_); simp (disch := omega) only [cm_,aq_,ay_,ag_,b8_,af_,ba_,bh_,am_,ac_,bq_,ed_,bs_,a0_,ao_,az_,a4_,dw_,d6_,ea_,d3_,b5_,fh_,fu_,fp_,fz_,fq_,fk_,ft_,f0_,c5_,bd_,ct_,cx_,co_,cr_,cj_,eb_,d5_,cf_,an_,fv_,cq_,Int.toNat_natCast,f3_,di_,dm_,dn_,gv_,g0_,g4_,f4_,Int.add_zero,Int.zero_add,Int.ediv_one,Nat.reduceAdd,Nat.reduceMul,Int.reduceNeg,Nat.reduceLeDiff,List.length_cons,List.length_nil,true_and,and_true,Nat.zero_add,eq_self,Nat.reduceEqDiff,Int.reduceAdd,Int.reduceSub,Int.reduceMul,not_true_eq_false,not_false_eq_true,Nat.reduceLT,Int.reduceToNat,Int.reduceEq,Int.reduceNe,Int.reduceLT,Int.reduceLE,or_true,true_or,or_false,false_or,and_self,and_false,false_and,or_self,false_implies,true_implies]))
    all_goals first | omega | exact hQ
  · rw [weF_2] at hQ
    simp (disch := omega) only [cm_,aq_,ay_,ag_,b8_,af_,ba_,bh_,am_,ac_,bq_,ed_,bs_,a0_,ao_,az_,a4_,dw_,d6_,ea_,d3_,b5_,fh_,fu_,fp_,fz_,fq_,fk_,ft_,f0_,c5_,bd_,ct_,cx_,co_,cr_,cj_,eb_,d5_,cf_,an_,fv_,cq_,Int.toNat_natCast,f3_,di_,dm_,dn_,gv_,g0_,g4_,f4_,Int.add_zero,Int.zero_add,Int.ediv_one,Nat.reduceAdd,Nat.reduceMul,Int.reduceNeg,Nat.reduceLeDiff,List.length_cons,List.length_nil,true_and,and_true,Nat.zero_add,eq_self,Nat.reduceEqDiff,Int.reduceAdd,Int.reduceSub,Int.reduceMul,not_true_eq_false,not_false_eq_true,Nat.reduceLT,Int.reduceToNat,Int.reduceEq,Int.reduceNe,Int.reduceLT,Int.reduceLE,or_true,true_or,or_false,false_or,and_self,and_false,false_and,or_self,false_implies,true_implies,k]
    repeat' (first | with_reducible refine And.intro ?_ ?_ | with_reducible intro _ | ((first | with_reducible refine w_M_wearsOf_40 ?_ | with_reducible refine w_M_wearsOf_42 ?_ | with_reducible refine w_M_wearsOf_48 ?_ | with_reducible refine w_M_wearsOf_52 ?_ | with_reducible refine w_M_wearsOf_65 ?_ | with_reducible refine w_M_wearsOf_70 ?_ | with_reducible refine w_M_wearsOf_71 ?_ | with_reducible refine w_M_wearsOf_73 ?_); simp (disch := omega) only [cm_,aq_,ay_,ag_,b8_,af_,ba_,bh_,am_,ac_,bq_,ed_,bs_,a0_,ao_,az_,a4_,dw_,d6_,ea_,d3_,b5_,fh_,fu_,fp_,fz_,fq_,fk_,ft_,f0_,c5_,bd_,ct_,cx_,co_,cr_,cj_,eb_,d5_,cf_,an_,fv_,cq_,Int.toNat_natCast,f3_,di_,dm_,dn_,gv_,g0_,g4_,f4_,Int.add_zero,Int.zero_add,Int.ediv_one,Nat.reduceAdd,Nat.reduceMul,Int.reduceNeg,Nat.reduceLeDiff,List.length_cons,List.length_nil,true_and,and_true,Nat.zero_add,eq_self,Nat.reduceEqDiff,Int.reduceAdd,Int.reduceSub,Int.reduceMul,not_true_eq_false,not_false_eq_true,Nat.reduceLT,Int.reduceToNat,Int.reduceEq,Int.reduceNe,Int.reduceLT,Int.reduceLE,or_true,true_or,or_false,false_or,and_self,and_false,false_and,or_self,false_implies,true_implies]))
    all_goals first | omega | exact hQ
  · rw [weF_3] at hQ
    simp (disch := omega) only [cm_,aq_,ay_,ag_,b8_,af_,ba_,bh_,am_,ac_,bq_,ed_,bs_,a0_,ao_,az_,a4_,dw_,d6_,ea_,d3_,b5_,fh_,fu_,fp_,fz_,fq_,fk_,ft_,f0_,c5_,bd_,ct_,cx_,co_,cr_,cj_,eb_,d5_,cf_,an_,fv_,cq_,Int.toNat_natCast,f3_,di_,dm_,dn_,gv_,g0_,g4_,f4_,Int.add_zero,Int.zero_add,Int.ediv_one,Nat.reduceAdd,Nat.reduceMul,Int.reduceNeg,Nat.reduceLeDiff,List.length_cons,List.length_nil,true_and,and_true,Nat.zero_add,eq_self,Nat.reduceEqDiff,Int.reduceAdd,Int.reduceSub,Int.reduceMul,not_true_eq_false,not_false_eq_true,Nat.reduceLT,Int.reduceToNat,Int.reduceEq,Int.reduceNe,Int.reduceLT,Int.reduceLE,or_true,true_or,or_false,false_or,and_self,and_false,false_and,or_self,false_implies,true_implies,k]
    repeat' (first | with_reducible refine And.intro ?_ ?_ | with_reducible intro _ | ((first | with_reducible refine w_M_wearsOf_40 ?_ | with_reducible refine w_M_wearsOf_42 ?_ | with_reducible refine w_M_wearsOf_48 ?_ | with_reducible refine w_M_wearsOf_52 ?_ | with_reducible refine w_M_wearsOf_65 ?_ | with_reducible refine w_M_wearsOf_70 ?_ | with_reducible refine w_M_wearsOf_71 ?_ | with_reducible refine w_M_wearsOf_73 ?_); simp (disch := omega) only [cm_,aq_,ay_,ag_,b8_,af_,ba_,bh_,am_,ac_,bq_,ed_,bs_,a0_,ao_,az_,a4_,dw_,d6_,ea_,d3_,b5_,fh_,fu_,fp_,fz_,fq_,fk_,ft_,f0_,c5_,bd_,ct_,cx_,co_,cr_,cj_,eb_,d5_,cf_,an_,fv_,cq_,Int.toNat_natCast,f3_,di_,dm_,dn_,gv_,g0_,g4_,f4_,Int.add_zero,Int.zero_add,Int.ediv_one,Nat.reduceAdd,Nat.reduceMul,Int.reduceNeg,Nat.reduceLeDiff,List.length_cons,List.length_nil,true_and,and_true,Nat.zero_add,eq_self,Nat.reduceEqDiff,Int.reduceAdd,Int.reduceSub,Int.reduceMul,not_true_eq_false,not_false_eq_true,Nat.reduceLT,Int.reduceToNat,Int.reduceEq,Int.reduceNe,Int.reduceLT,Int.reduceLE,or_true,true_or,or_false,false_or,and_self,and_false,false_and,or_self,false_implies,true_implies]))
    all_goals first | omega | exact hQ
  · rw [weF_4] at hQ
    have f1 := fc_anb R ht (Or.inl k) (hb_ R)
    rw [if_pos hi] at f1
    have f2 := feud_fc R (anb b (2 ^ i)) (hb_ R)
    have f3 := feud_low (R := R) (lowB_anb hl (2 ^ i)) (8 - hb_ R)
    rw [show hb_ R + (8 - hb_ R) = 8 by omega] at f3
    rw [f3] at hQ
    simp (disch := omega) only [cm_,aq_,ay_,ag_,b8_,af_,ba_,bh_,am_,ac_,bq_,ed_,bs_,a0_,ao_,az_,a4_,dw_,d6_,ea_,d3_,b5_,fh_,fu_,fp_,fz_,fq_,fk_,ft_,f0_,c5_,bd_,ct_,cx_,co_,cr_,cj_,eb_,d5_,cf_,an_,fv_,cq_,Int.toNat_natCast,f3_,di_,dm_,dn_,gv_,g0_,g4_,f4_,Int.add_zero,Int.zero_add,Int.ediv_one,Nat.reduceAdd,Nat.reduceMul,Int.reduceNeg,Nat.reduceLeDiff,List.length_cons,List.length_nil,true_and,and_true,Nat.zero_add,eq_self,Nat.reduceEqDiff,Int.reduceAdd,Int.reduceSub,Int.reduceMul,not_true_eq_false,not_false_eq_true,Nat.reduceLT,Int.reduceToNat,Int.reduceEq,Int.reduceNe,Int.reduceLT,Int.reduceLE,or_true,true_or,or_false,false_or,and_self,and_false,false_and,or_self,false_implies,true_implies,k]
    repeat' (first | with_reducible refine And.intro ?_ ?_ | with_reducible intro _ | ((first | with_reducible refine w_M_wearsOf_40 ?_ | with_reducible refine w_M_wearsOf_42 ?_ | with_reducible refine w_M_wearsOf_48 ?_ | with_reducible refine w_M_wearsOf_52 ?_ | with_reducible refine w_M_wearsOf_65 ?_ | with_reducible refine w_M_wearsOf_70 ?_ | with_reducible refine w_M_wearsOf_71 ?_ | with_reducible refine w_M_wearsOf_73 ?_); simp (disch := omega) only [cm_,aq_,ay_,ag_,b8_,af_,ba_,bh_,am_,ac_,bq_,ed_,bs_,a0_,ao_,az_,a4_,dw_,d6_,ea_,d3_,b5_,fh_,fu_,fp_,fz_,fq_,fk_,ft_,f0_,c5_,bd_,ct_,cx_,co_,cr_,cj_,eb_,d5_,cf_,an_,fv_,cq_,Int.toNat_natCast,f3_,di_,dm_,dn_,gv_,g0_,g4_,f4_,Int.add_zero,Int.zero_add,Int.ediv_one,Nat.reduceAdd,Nat.reduceMul,Int.reduceNeg,Nat.reduceLeDiff,List.length_cons,List.length_nil,true_and,and_true,Nat.zero_add,eq_self,Nat.reduceEqDiff,Int.reduceAdd,Int.reduceSub,Int.reduceMul,not_true_eq_false,not_false_eq_true,Nat.reduceLT,Int.reduceToNat,Int.reduceEq,Int.reduceNe,Int.reduceLT,Int.reduceLE,or_true,true_or,or_false,false_or,and_self,and_false,false_and,or_self,false_implies,true_implies]))
    all_goals first | omega | skip
    all_goals refine con_MfeudingIn hb hG ?_
    all_goals simp (disch := omega) only [cm_,aq_,ay_,ag_,b8_,af_,ba_,bh_,am_,ac_,bq_,ed_,bs_,a0_,ao_,az_,a4_,dw_,d6_,ea_,d3_,b5_,fh_,fu_,fp_,fz_,fq_,fk_,ft_,f0_,c5_,bd_,ct_,cx_,co_,cr_,cj_,eb_,d5_,cf_,an_,fv_,cq_,Int.toNat_natCast,f3_,di_,dm_,dn_,gv_,g0_,g4_,f4_,Int.add_zero,Int.zero_add,Int.ediv_one,Nat.reduceAdd,Nat.reduceMul,Int.reduceNeg,Nat.reduceLeDiff,List.length_cons,List.length_nil,true_and,and_true,Nat.zero_add,eq_self,Nat.reduceEqDiff,Int.reduceAdd,Int.reduceSub,Int.reduceMul,not_true_eq_false,not_false_eq_true,Nat.reduceLT,Int.reduceToNat,Int.reduceEq,Int.reduceNe,Int.reduceLT,Int.reduceLE,or_true,true_or,or_false,false_or,and_self,and_false,false_and,or_self,false_implies,true_implies]
    refine ⟨fun c => ?_, fun c => ?_⟩
    · rw [if_neg (fun q => by have := f2.mp q; omega)] at hQ
      repeat' (first | with_reducible refine And.intro ?_ ?_ | with_reducible intro _ | ((first | with_reducible refine w_M_wearsOf_40 ?_ | with_reducible refine w_M_wearsOf_42 ?_ | with_reducible refine w_M_wearsOf_48 ?_ | with_reducible refine w_M_wearsOf_52 ?_ | with_reducible refine w_M_wearsOf_65 ?_ | with_reducible refine w_M_wearsOf_70 ?_ | with_reducible refine w_M_wearsOf_71 ?_ | with_reducible refine w_M_wearsOf_73 ?_); simp (disch := omega) only [cm_,aq_,ay_,ag_,b8_,af_,ba_,bh_,am_,ac_,bq_,ed_,bs_,a0_,ao_,az_,a4_,dw_,d6_,ea_,d3_,b5_,fh_,fu_,fp_,fz_,fq_,fk_,ft_,f0_,c5_,bd_,ct_,cx_,co_,cr_,cj_,eb_,d5_,cf_,an_,fv_,cq_,Int.toNat_natCast,f3_,di_,dm_,dn_,gv_,g0_,g4_,f4_,Int.add_zero,Int.zero_add,Int.ediv_one,Nat.reduceAdd,Nat.reduceMul,Int.reduceNeg,Nat.reduceLeDiff,List.length_cons,List.length_nil,true_and,and_true,Nat.zero_add,eq_self,Nat.reduceEqDiff,Int.reduceAdd,Int.reduceSub,Int.reduceMul,not_true_eq_false,not_false_eq_true,Nat.reduceLT,Int.reduceToNat,Int.reduceEq,Int.reduceNe,Int.reduceLT,Int.reduceLE,or_true,true_or,or_false,false_or,and_self,and_false,false_and,or_self,false_implies,true_implies]))
      all_goals first | omega | exact hQ
    · rw [if_pos (f2.mpr (by omega))] at hQ
      repeat' (first | with_reducible refine And.intro ?_ ?_ | with_reducible intro _ | ((first | with_reducible refine w_M_wearsOf_40 ?_ | with_reducible refine w_M_wearsOf_42 ?_ | with_reducible refine w_M_wearsOf_48 ?_ | with_reducible refine w_M_wearsOf_52 ?_ | with_reducible refine w_M_wearsOf_65 ?_ | with_reducible refine w_M_wearsOf_70 ?_ | with_reducible refine w_M_wearsOf_71 ?_ | with_reducible refine w_M_wearsOf_73 ?_); simp (disch := omega) only [cm_,aq_,ay_,ag_,b8_,af_,ba_,bh_,am_,ac_,bq_,ed_,bs_,a0_,ao_,az_,a4_,dw_,d6_,ea_,d3_,b5_,fh_,fu_,fp_,fz_,fq_,fk_,ft_,f0_,c5_,bd_,ct_,cx_,co_,cr_,cj_,eb_,d5_,cf_,an_,fv_,cq_,Int.toNat_natCast,f3_,di_,dm_,dn_,gv_,g0_,g4_,f4_,Int.add_zero,Int.zero_add,Int.ediv_one,Nat.reduceAdd,Nat.reduceMul,Int.reduceNeg,Nat.reduceLeDiff,List.length_cons,List.length_nil,true_and,and_true,Nat.zero_add,eq_self,Nat.reduceEqDiff,Int.reduceAdd,Int.reduceSub,Int.reduceMul,not_true_eq_false,not_false_eq_true,Nat.reduceLT,Int.reduceToNat,Int.reduceEq,Int.reduceNe,Int.reduceLT,Int.reduceLE,or_true,true_or,or_false,false_or,and_self,and_false,false_and,or_self,false_implies,true_implies]))
      all_goals first | omega | exact hQ
  · rw [weF_5] at hQ
    simp (disch := omega) only [cm_,aq_,ay_,ag_,b8_,af_,ba_,bh_,am_,ac_,bq_,ed_,bs_,a0_,ao_,az_,a4_,dw_,d6_,ea_,d3_,b5_,fh_,fu_,fp_,fz_,fq_,fk_,ft_,f0_,c5_,bd_,ct_,cx_,co_,cr_,cj_,eb_,d5_,cf_,an_,fv_,cq_,Int.toNat_natCast,f3_,di_,dm_,dn_,gv_,g0_,g4_,f4_,Int.add_zero,Int.zero_add,Int.ediv_one,Nat.reduceAdd,Nat.reduceMul,Int.reduceNeg,Nat.reduceLeDiff,List.length_cons,List.length_nil,true_and,and_true,Nat.zero_add,eq_self,Nat.reduceEqDiff,Int.reduceAdd,Int.reduceSub,Int.reduceMul,not_true_eq_false,not_false_eq_true,Nat.reduceLT,Int.reduceToNat,Int.reduceEq,Int.reduceNe,Int.reduceLT,Int.reduceLE,or_true,true_or,or_false,false_or,and_self,and_false,false_and,or_self,false_implies,true_implies,k]
    repeat' (first | with_reducible refine And.intro ?_ ?_ | with_reducible intro _ | ((first | with_reducible refine w_M_wearsOf_40 ?_ | with_reducible refine w_M_wearsOf_42 ?_ | with_reducible refine w_M_wearsOf_48 ?_ | with_reducible refine w_M_wearsOf_52 ?_ | with_reducible refine w_M_wearsOf_65 ?_ | with_reducible refine w_M_wearsOf_70 ?_ | with_reducible refine w_M_wearsOf_71 ?_ | with_reducible refine w_M_wearsOf_73 ?_); simp (disch := omega) only [cm_,aq_,ay_,ag_,b8_,af_,ba_,bh_,am_,ac_,bq_,ed_,bs_,a0_,ao_,az_,a4_,dw_,d6_,ea_,d3_,b5_,fh_,fu_,fp_,fz_,fq_,fk_,ft_,f0_,c5_,bd_,ct_,cx_,co_,cr_,cj_,eb_,d5_,cf_,an_,fv_,cq_,Int.toNat_natCast,f3_,di_,dm_,dn_,gv_,g0_,g4_,f4_,Int.add_zero,Int.zero_add,Int.ediv_one,Nat.reduceAdd,Nat.reduceMul,Int.reduceNeg,Nat.reduceLeDiff,List.length_cons,List.length_nil,true_and,and_true,Nat.zero_add,eq_self,Nat.reduceEqDiff,Int.reduceAdd,Int.reduceSub,Int.reduceMul,not_true_eq_false,not_false_eq_true,Nat.reduceLT,Int.reduceToNat,Int.reduceEq,Int.reduceNe,Int.reduceLT,Int.reduceLE,or_true,true_or,or_false,false_or,and_self,and_false,false_and,or_self,false_implies,true_implies]))
    all_goals first | omega | exact hQ
theorem con_MbearsI {m : Int} (hm : 0 ≤ m ∧ m < 8) (hG : GR R) (hQ : Q (some (.int (zI (bears R m.toNat)))) (HM R rf lt lsz a0 ib sm pl lo nu kp ig hmg p0 tk ki tu tz tf tn tsz ga sd bb)) : Con M_M_bearsOf [.ref 90, .int (zI m)] (HM R rf lt lsz a0 ib sm pl lo nu kp ig hmg p0 tk ki tu tz tf tn tsz ga sd bb) Q := by
  have e : m = (m.toNat : Int) := by omega
  rw [e]
  exact con_MbearsOf (by omega) hG hQ
theorem con_MstrongestBut {b : Nat} (hb : b < 256) (hG : GR R) (hQ : Q (some (.int (zI (sbst R b)))) (HM R rf lt lsz a0 ib sm pl lo nu kp ig hmg p0 tk ki tu tz tf tn tsz ga sd bb)) : Con M_M_strongestBut [.ref 90, .int (zI b)] (HM R rf lt lsz a0 ib sm pl lo nu kp ig hmg p0 tk ki tu tz tf tn tsz ga sd bb) Q := by
  have gm := hG.men
  have gn := hG.nM
  refine g8_ (L := [some (.ref 90), some (.int (zI b)), none, none, none]) ok_M_strongestBut (Nat.le_of_ble_eq_true rfl) rfl ?_
  refine w_M_strongestBut_0 ?_
  simp (disch := omega) only [cm_,aq_,ay_,ag_,b8_,af_,ba_,bh_,am_,ac_,bq_,ed_,bs_,a0_,ao_,az_,a4_,dw_,d6_,ea_,d3_,b5_,fh_,fu_,fp_,fz_,fq_,fk_,ft_,f0_,c5_,bd_,ct_,cx_,co_,cr_,cj_,eb_,d5_,cf_,an_,fv_,cq_,Int.toNat_natCast,f3_,di_,dm_,dn_,gv_,g0_,g4_,f4_,Int.add_zero,Int.zero_add,Int.ediv_one,Nat.reduceAdd,Nat.reduceMul,Int.reduceNeg,Nat.reduceLeDiff,List.length_cons,List.length_nil,true_and,and_true,Nat.zero_add,eq_self,Nat.reduceEqDiff,Int.reduceAdd,Int.reduceSub,Int.reduceMul,not_true_eq_false,not_false_eq_true,Nat.reduceLT,Int.reduceToNat,Int.reduceEq,Int.reduceNe,Int.reduceLT,Int.reduceLE,or_true,true_or,or_false,false_or,and_self,and_false,false_and,or_self,false_implies,true_implies]
  have loop : ∀ n i : Nat, i + n = hb_ R → ∀ x, J M_M_strongestBut 5 [some (.ref 90), some (.int (zI b)), some (.int (zI (sbN R b i))), some (.int (zI i)), x] [] (HM R rf lt lsz a0 ib sm pl lo nu kp ig hmg p0 tk ki tu tz tf tn tsz ga sd bb) Q := by
    intro n
    induction n with
    | zero =>
      intro i hi x
      have e : i = hb_ R := by omega
      subst e
      refine w_M_strongestBut_5 ?_
      simp (disch := omega) only [cm_,aq_,ay_,ag_,b8_,af_,ba_,bh_,am_,ac_,bq_,ed_,bs_,a0_,ao_,az_,a4_,dw_,d6_,ea_,d3_,b5_,fh_,fu_,fp_,fz_,fq_,fk_,ft_,f0_,c5_,bd_,ct_,cx_,co_,cr_,cj_,eb_,d5_,cf_,an_,fv_,cq_,Int.toNat_natCast,f3_,di_,dm_,dn_,gv_,g0_,g4_,f4_,Int.add_zero,Int.zero_add,Int.ediv_one,Nat.reduceAdd,Nat.reduceMul,Int.reduceNeg,Nat.reduceLeDiff,List.length_cons,List.length_nil,true_and,and_true,Nat.zero_add,eq_self,Nat.reduceEqDiff,Int.reduceAdd,Int.reduceSub,Int.reduceMul,not_true_eq_false,not_false_eq_true,Nat.reduceLT,Int.reduceToNat,Int.reduceEq,Int.reduceNe,Int.reduceLT,Int.reduceLE,or_true,true_or,or_false,false_or,and_self,and_false,false_and,or_self,false_implies,true_implies]
      repeat' (first | with_reducible refine And.intro ?_ ?_ | with_reducible intro _ | ((first | with_reducible refine w_M_strongestBut_35 ?_ | with_reducible refine w_M_strongestBut_36 ?_ | with_reducible refine w_M_strongestBut_60 ?_ | with_reducible refine w_M_strongestBut_64 ?_ | with_reducible refine w_M_strongestBut_65 ?_ | with_reducible refine w_M_strongestBut_72 ?_); simp (disch := omega) only [cm_,aq_,ay_,ag_,b8_,af_,ba_,bh_,am_,ac_,bq_,ed_,bs_,a0_,ao_,az_,a4_,dw_,d6_,ea_,d3_,b5_,fh_,fu_,fp_,fz_,fq_,fk_,ft_,f0_,c5_,bd_,ct_,cx_,co_,cr_,cj_,eb_,d5_,cf_,an_,fv_,cq_,Int.toNat_natCast,f3_,di_,dm_,dn_,gv_,g0_,g4_,f4_,Int.add_zero,Int.zero_add,Int.ediv_one,Nat.reduceAdd,Nat.reduceMul,Int.reduceNeg,Nat.reduceLeDiff,List.length_cons,List.length_nil,true_and,and_true,Nat.zero_add,eq_self,Nat.reduceEqDiff,Int.reduceAdd,Int.reduceSub,Int.reduceMul,not_true_eq_false,not_false_eq_true,Nat.reduceLT,Int.reduceToNat,Int.reduceEq,Int.reduceNe,Int.reduceLT,Int.reduceLE,or_true,true_or,or_false,false_or,and_self,and_false,false_and,or_self,false_implies,true_implies]))
      all_goals first | omega | exact hQ
    | succ n ih =>
      intro i hi x
      have gf := hG.fa i
      have step := ih (i + 1) (by omega)
      have sr := sbN_rng R b i
      have b1 := bears_rng hG i
      have b2 := bears_rng hG (sbN R b i).toNat
      simp only [sbN] at step
      refine w_M_strongestBut_5 ?_
      simp (disch := omega) only [cm_,aq_,ay_,ag_,b8_,af_,ba_,bh_,am_,ac_,bq_,ed_,bs_,a0_,ao_,az_,a4_,dw_,d6_,ea_,d3_,b5_,fh_,fu_,fp_,fz_,fq_,fk_,ft_,f0_,c5_,bd_,ct_,cx_,co_,cr_,cj_,eb_,d5_,cf_,an_,fv_,cq_,Int.toNat_natCast,f3_,di_,dm_,dn_,gv_,g0_,g4_,f4_,Int.add_zero,Int.zero_add,Int.ediv_one,Nat.reduceAdd,Nat.reduceMul,Int.reduceNeg,Nat.reduceLeDiff,List.length_cons,List.length_nil,true_and,and_true,Nat.zero_add,eq_self,Nat.reduceEqDiff,Int.reduceAdd,Int.reduceSub,Int.reduceMul,not_true_eq_false,not_false_eq_true,Nat.reduceLT,Int.reduceToNat,Int.reduceEq,Int.reduceNe,Int.reduceLT,Int.reduceLE,or_true,true_or,or_false,false_or,and_self,and_false,false_and,or_self,false_implies,true_implies]
      refine ⟨fun _ => by omega, fun _ => ⟨by omega, fun c => ?_, fun c => ?_⟩⟩
      · rw [if_neg (fun q => c q.1)] at step
        repeat' (first | with_reducible refine And.intro ?_ ?_ | with_reducible intro _ | ((first | with_reducible refine w_M_strongestBut_35 ?_ | with_reducible refine w_M_strongestBut_36 ?_ | with_reducible refine w_M_strongestBut_60 ?_ | with_reducible refine w_M_strongestBut_64 ?_ | with_reducible refine w_M_strongestBut_65 ?_ | with_reducible refine w_M_strongestBut_72 ?_); simp (disch := omega) only [cm_,aq_,ay_,ag_,b8_,af_,ba_,bh_,am_,ac_,bq_,ed_,bs_,a0_,ao_,az_,a4_,dw_,d6_,ea_,d3_,b5_,fh_,fu_,fp_,fz_,fq_,fk_,ft_,f0_,c5_,bd_,ct_,cx_,co_,cr_,cj_,eb_,d5_,cf_,an_,fv_,cq_,Int.toNat_natCast,f3_,di_,dm_,dn_,gv_,g0_,g4_,f4_,Int.add_zero,Int.zero_add,Int.ediv_one,Nat.reduceAdd,Nat.reduceMul,Int.reduceNeg,Nat.reduceLeDiff,List.length_cons,List.length_nil,true_and,and_true,Nat.zero_add,eq_self,Nat.reduceEqDiff,Int.reduceAdd,Int.reduceSub,Int.reduceMul,not_true_eq_false,not_false_eq_true,Nat.reduceLT,Int.reduceToNat,Int.reduceEq,Int.reduceNe,Int.reduceLT,Int.reduceLE,or_true,true_or,or_false,false_or,and_self,and_false,false_and,or_self,false_implies,true_implies]))
        all_goals first | omega | exact step _
      · refine con_MhasBit (by omega) (by omega) (fun c2 => ?_) (fun c2 => ?_)
        · rw [if_neg (fun q => by rw [c2] at q; exact absurd q.2.1 (by decide))] at step
          simp (disch := omega) only [cm_,aq_,ay_,ag_,b8_,af_,ba_,bh_,am_,ac_,bq_,ed_,bs_,a0_,ao_,az_,a4_,dw_,d6_,ea_,d3_,b5_,fh_,fu_,fp_,fz_,fq_,fk_,ft_,f0_,c5_,bd_,ct_,cx_,co_,cr_,cj_,eb_,d5_,cf_,an_,fv_,cq_,Int.toNat_natCast,f3_,di_,dm_,dn_,gv_,g0_,g4_,f4_,Int.add_zero,Int.zero_add,Int.ediv_one,Nat.reduceAdd,Nat.reduceMul,Int.reduceNeg,Nat.reduceLeDiff,List.length_cons,List.length_nil,true_and,and_true,Nat.zero_add,eq_self,Nat.reduceEqDiff,Int.reduceAdd,Int.reduceSub,Int.reduceMul,not_true_eq_false,not_false_eq_true,Nat.reduceLT,Int.reduceToNat,Int.reduceEq,Int.reduceNe,Int.reduceLT,Int.reduceLE,or_true,true_or,or_false,false_or,and_self,and_false,false_and,or_self,false_implies,true_implies]
          repeat' (first | with_reducible refine And.intro ?_ ?_ | with_reducible intro _ | ((first | with_reducible refine w_M_strongestBut_35 ?_ | with_reducible refine w_M_strongestBut_36 ?_ | with_reducible refine w_M_strongestBut_60 ?_ | with_reducible refine w_M_strongestBut_64 ?_ | with_reducible refine w_M_strongestBut_65 ?_ | with_reducible refine w_M_strongestBut_72 ?_); simp (disch := omega) only [cm_,aq_,ay_,ag_,b8_,af_,ba_,bh_,am_,ac_,bq_,ed_,bs_,a0_,ao_,az_,a4_,dw_,d6_,ea_,d3_,b5_,fh_,fu_,fp_,fz_,fq_,fk_,ft_,f0_,c5_,bd_,ct_,cx_,co_,cr_,cj_,eb_,d5_,cf_,an_,fv_,cq_,Int.toNat_natCast,f3_,di_,dm_,dn_,gv_,g0_,g4_,f4_,Int.add_zero,Int.zero_add,Int.ediv_one,Nat.reduceAdd,Nat.reduceMul,Int.reduceNeg,Nat.reduceLeDiff,List.length_cons,List.length_nil,true_and,and_true,Nat.zero_add,eq_self,Nat.reduceEqDiff,Int.reduceAdd,Int.reduceSub,Int.reduceMul,not_true_eq_false,not_false_eq_true,Nat.reduceLT,Int.reduceToNat,Int.reduceEq,Int.reduceNe,Int.reduceLT,Int.reduceLE,or_true,true_or,or_false,false_or,and_self,and_false,false_and,or_self,false_implies,true_implies]))
          all_goals first | omega | exact step _
        · simp (disch := omega) only [cm_,aq_,ay_,ag_,b8_,af_,ba_,bh_,am_,ac_,bq_,ed_,bs_,a0_,ao_,az_,a4_,dw_,d6_,ea_,d3_,b5_,fh_,fu_,fp_,fz_,fq_,fk_,ft_,f0_,c5_,bd_,ct_,cx_,co_,cr_,cj_,eb_,d5_,cf_,an_,fv_,cq_,Int.toNat_natCast,f3_,di_,dm_,dn_,gv_,g0_,g4_,f4_,Int.add_zero,Int.zero_add,Int.ediv_one,Nat.reduceAdd,Nat.reduceMul,Int.reduceNeg,Nat.reduceLeDiff,List.length_cons,List.length_nil,true_and,and_true,Nat.zero_add,eq_self,Nat.reduceEqDiff,Int.reduceAdd,Int.reduceSub,Int.reduceMul,not_true_eq_false,not_false_eq_true,Nat.reduceLT,Int.reduceToNat,Int.reduceEq,Int.reduceNe,Int.reduceLT,Int.reduceLE,or_true,true_or,or_false,false_or,and_self,and_false,false_and,or_self,false_implies,true_implies]
          refine w_M_strongestBut_36 ?_
          simp (disch := omega) only [cm_,aq_,ay_,ag_,b8_,af_,ba_,bh_,am_,ac_,bq_,ed_,bs_,a0_,ao_,az_,a4_,dw_,d6_,ea_,d3_,b5_,fh_,fu_,fp_,fz_,fq_,fk_,ft_,f0_,c5_,bd_,ct_,cx_,co_,cr_,cj_,eb_,d5_,cf_,an_,fv_,cq_,Int.toNat_natCast,f3_,di_,dm_,dn_,gv_,g0_,g4_,f4_,Int.add_zero,Int.zero_add,Int.ediv_one,Nat.reduceAdd,Nat.reduceMul,Int.reduceNeg,Nat.reduceLeDiff,List.length_cons,List.length_nil,true_and,and_true,Nat.zero_add,eq_self,Nat.reduceEqDiff,Int.reduceAdd,Int.reduceSub,Int.reduceMul,not_true_eq_false,not_false_eq_true,Nat.reduceLT,Int.reduceToNat,Int.reduceEq,Int.reduceNe,Int.reduceLT,Int.reduceLE,or_true,true_or,or_false,false_or,and_self,and_false,false_and,or_self,false_implies,true_implies]
          refine ⟨fun c3 => ?_, fun c3 => ?_⟩
          · rw [if_pos ⟨by omega, c2, Or.inl c3⟩] at step
            repeat' (first | with_reducible refine And.intro ?_ ?_ | with_reducible intro _ | ((first | with_reducible refine w_M_strongestBut_35 ?_ | with_reducible refine w_M_strongestBut_36 ?_ | with_reducible refine w_M_strongestBut_60 ?_ | with_reducible refine w_M_strongestBut_64 ?_ | with_reducible refine w_M_strongestBut_65 ?_ | with_reducible refine w_M_strongestBut_72 ?_); simp (disch := omega) only [cm_,aq_,ay_,ag_,b8_,af_,ba_,bh_,am_,ac_,bq_,ed_,bs_,a0_,ao_,az_,a4_,dw_,d6_,ea_,d3_,b5_,fh_,fu_,fp_,fz_,fq_,fk_,ft_,f0_,c5_,bd_,ct_,cx_,co_,cr_,cj_,eb_,d5_,cf_,an_,fv_,cq_,Int.toNat_natCast,f3_,di_,dm_,dn_,gv_,g0_,g4_,f4_,Int.add_zero,Int.zero_add,Int.ediv_one,Nat.reduceAdd,Nat.reduceMul,Int.reduceNeg,Nat.reduceLeDiff,List.length_cons,List.length_nil,true_and,and_true,Nat.zero_add,eq_self,Nat.reduceEqDiff,Int.reduceAdd,Int.reduceSub,Int.reduceMul,not_true_eq_false,not_false_eq_true,Nat.reduceLT,Int.reduceToNat,Int.reduceEq,Int.reduceNe,Int.reduceLT,Int.reduceLE,or_true,true_or,or_false,false_or,and_self,and_false,false_and,or_self,false_implies,true_implies]))
            all_goals first | omega | exact step _
          · refine con_MbearsOf (by omega) hG ?_
            simp (disch := omega) only [cm_,aq_,ay_,ag_,b8_,af_,ba_,bh_,am_,ac_,bq_,ed_,bs_,a0_,ao_,az_,a4_,dw_,d6_,ea_,d3_,b5_,fh_,fu_,fp_,fz_,fq_,fk_,ft_,f0_,c5_,bd_,ct_,cx_,co_,cr_,cj_,eb_,d5_,cf_,an_,fv_,cq_,Int.toNat_natCast,f3_,di_,dm_,dn_,gv_,g0_,g4_,f4_,Int.add_zero,Int.zero_add,Int.ediv_one,Nat.reduceAdd,Nat.reduceMul,Int.reduceNeg,Nat.reduceLeDiff,List.length_cons,List.length_nil,true_and,and_true,Nat.zero_add,eq_self,Nat.reduceEqDiff,Int.reduceAdd,Int.reduceSub,Int.reduceMul,not_true_eq_false,not_false_eq_true,Nat.reduceLT,Int.reduceToNat,Int.reduceEq,Int.reduceNe,Int.reduceLT,Int.reduceLE,or_true,true_or,or_false,false_or,and_self,and_false,false_and,or_self,false_implies,true_implies]
            refine con_MbearsI (by omega) hG ?_
            simp (disch := omega) only [cm_,aq_,ay_,ag_,b8_,af_,ba_,bh_,am_,ac_,bq_,ed_,bs_,a0_,ao_,az_,a4_,dw_,d6_,ea_,d3_,b5_,fh_,fu_,fp_,fz_,fq_,fk_,ft_,f0_,c5_,bd_,ct_,cx_,co_,cr_,cj_,eb_,d5_,cf_,an_,fv_,cq_,Int.toNat_natCast,f3_,di_,dm_,dn_,gv_,g0_,g4_,f4_,Int.add_zero,Int.zero_add,Int.ediv_one,Nat.reduceAdd,Nat.reduceMul,Int.reduceNeg,Nat.reduceLeDiff,List.length_cons,List.length_nil,true_and,and_true,Nat.zero_add,eq_self,Nat.reduceEqDiff,Int.reduceAdd,Int.reduceSub,Int.reduceMul,not_true_eq_false,not_false_eq_true,Nat.reduceLT,Int.reduceToNat,Int.reduceEq,Int.reduceNe,Int.reduceLT,Int.reduceLE,or_true,true_or,or_false,false_or,and_self,and_false,false_and,or_self,false_implies,true_implies]
            refine ⟨fun c4 => ?_, fun c4 => ?_⟩
            · rw [if_neg (fun q => by have := q.2.2; omega)] at step
              repeat' (first | with_reducible refine And.intro ?_ ?_ | with_reducible intro _ | ((first | with_reducible refine w_M_strongestBut_35 ?_ | with_reducible refine w_M_strongestBut_36 ?_ | with_reducible refine w_M_strongestBut_60 ?_ | with_reducible refine w_M_strongestBut_64 ?_ | with_reducible refine w_M_strongestBut_65 ?_ | with_reducible refine w_M_strongestBut_72 ?_); simp (disch := omega) only [cm_,aq_,ay_,ag_,b8_,af_,ba_,bh_,am_,ac_,bq_,ed_,bs_,a0_,ao_,az_,a4_,dw_,d6_,ea_,d3_,b5_,fh_,fu_,fp_,fz_,fq_,fk_,ft_,f0_,c5_,bd_,ct_,cx_,co_,cr_,cj_,eb_,d5_,cf_,an_,fv_,cq_,Int.toNat_natCast,f3_,di_,dm_,dn_,gv_,g0_,g4_,f4_,Int.add_zero,Int.zero_add,Int.ediv_one,Nat.reduceAdd,Nat.reduceMul,Int.reduceNeg,Nat.reduceLeDiff,List.length_cons,List.length_nil,true_and,and_true,Nat.zero_add,eq_self,Nat.reduceEqDiff,Int.reduceAdd,Int.reduceSub,Int.reduceMul,not_true_eq_false,not_false_eq_true,Nat.reduceLT,Int.reduceToNat,Int.reduceEq,Int.reduceNe,Int.reduceLT,Int.reduceLE,or_true,true_or,or_false,false_or,and_self,and_false,false_and,or_self,false_implies,true_implies]))
              all_goals first | omega | exact step _
            · rw [if_pos ⟨by omega, c2, Or.inr (by omega)⟩] at step
              repeat' (first | with_reducible refine And.intro ?_ ?_ | with_reducible intro _ | ((first | with_reducible refine w_M_strongestBut_35 ?_ | with_reducible refine w_M_strongestBut_36 ?_ | with_reducible refine w_M_strongestBut_60 ?_ | with_reducible refine w_M_strongestBut_64 ?_ | with_reducible refine w_M_strongestBut_65 ?_ | with_reducible refine w_M_strongestBut_72 ?_); simp (disch := omega) only [cm_,aq_,ay_,ag_,b8_,af_,ba_,bh_,am_,ac_,bq_,ed_,bs_,a0_,ao_,az_,a4_,dw_,d6_,ea_,d3_,b5_,fh_,fu_,fp_,fz_,fq_,fk_,ft_,f0_,c5_,bd_,ct_,cx_,co_,cr_,cj_,eb_,d5_,cf_,an_,fv_,cq_,Int.toNat_natCast,f3_,di_,dm_,dn_,gv_,g0_,g4_,f4_,Int.add_zero,Int.zero_add,Int.ediv_one,Nat.reduceAdd,Nat.reduceMul,Int.reduceNeg,Nat.reduceLeDiff,List.length_cons,List.length_nil,true_and,and_true,Nat.zero_add,eq_self,Nat.reduceEqDiff,Int.reduceAdd,Int.reduceSub,Int.reduceMul,not_true_eq_false,not_false_eq_true,Nat.reduceLT,Int.reduceToNat,Int.reduceEq,Int.reduceNe,Int.reduceLT,Int.reduceLE,or_true,true_or,or_false,false_or,and_self,and_false,false_and,or_self,false_implies,true_implies]))
              all_goals first | omega | exact step _
  exact loop _ 0 (Nat.zero_add _) none
end D3
end
/-! dayM -/
section
/-! ===== the reference's day: the bearers, a day ===== -/
theorem pop8_or : ∀ k, k < 8 → ∀ b, b < 256 → b.testBit k = false → pop8 (b ||| 2 ^ k) = pop8 b + 1 := by decide +kernel
theorem pop8_full : ∀ b, b < 256 → pop8 b = 8 → b = 255 := by decide +kernel
theorem sbN_free (R : RR) (b n : Nat) (h : 0 ≤ sbN R b n) : b.testBit (sbN R b n).toNat = false := by
  induction n with
  | zero => simp only [sbN] at h; omega
  | succ n ih =>
    by_cases c : rFa R n = 1 ∧ b.testBit n = false ∧ (sbN R b n < 0 ∨ bears R (sbN R b n).toNat < bears R n)
    · have e : sbN R b (n + 1) = (n : Int) := by simp only [sbN]; rw [if_pos c]
      rw [e]
      exact c.2.1
    · have e : sbN R b (n + 1) = sbN R b n := by simp only [sbN]; rw [if_neg c]
      rw [e] at h ⊢
      exact ih h
theorem sb_255 {R : RR} (hG : GR R) : sbst R 255 = -9 := by
  have gn := hG.nM
  have r := sbN_rng R 255 (hb_ R)
  rcases r with q | q
  · exact q
  · have f := sbN_free R 255 (hb_ R) q.1
    have : ∀ k, k < 8 → (255 : Nat).testBit k = true := by decide
    rw [this _ (by omega)] at f
    exact absurd f (by decide)
section D4
variable {R : RR} {rf : Nat → Int} {lt : Nat → Int} {lsz : Int} {a0 : Int} {ib : Int} {sm : Int} {pl : Nat → Int} {lo : Nat → Int} {nu : Nat → Int} {kp : Nat → Int} {ig : Nat → Int} {hmg : Int} {p0 : Int} {tk : Int} {ki : Value} {tu : Nat → Int} {tz : Int} {tf : Nat → Int} {tn : Nat → Int} {tsz : Int} {ga : Nat → Int} {sd : Int} {bb : AH} {Q : Option Value → AH → Prop}
theorem con_MbearersNow (hG : GR R) (hQ : Q (some (.int (zI (if hd_ R = 12 then 0 else ((brF R : Nat) : Int))))) (HM R rf lt lsz a0 ib sm pl lo nu kp ig hmg p0 tk ki tu tz tf tn tsz ga sd bb)) : Con M_M_bearersNow [.ref 90] (HM R rf lt lsz a0 ib sm pl lo nu kp ig hmg p0 tk ki tu tz tf tn tsz ga sd bb) Q := by
  have gm := hG.men
  have gn := hG.nM
  have gk := hG.king
  have gd := needed_rng hG
  have pz0 : pop8 0 = 0 := by decide
  refine g8_ (L := [some (.ref 90), none, none, none]) ok_M_bearersNow (Nat.le_of_ble_eq_true rfl) rfl ?_
  refine w_M_bearersNow_0 ?_
  simp (disch := omega) only [cm_,aq_,ay_,ag_,b8_,af_,ba_,bc_,cp_,b3_,bg_,am_,ae_,ac_,b2_,bq_,ed_,bs_,ao_,c4_,a2_,az_,au_,a4_,dw_,d6_,ea_,d3_,b5_,b1_,fl_,fn_,fh_,fu_,fp_,fz_,fq_,fk_,fr_,ft_,fs_,f0_,c5_,bd_,c3_,ct_,cx_,co_,cr_,cf_,ch_,an_,cl_,dt_,dv_,du_,dr_,ds_,cd_,a9_,a8_,a7_,ce_,fv_,d1_,Int.toNat_natCast,eh_,b9_,f3_,di_,dm_,dn_,gv_,g1_,g4_,gx_,gu_,gs_,gm_,f4_,Int.add_zero,Int.zero_add,Int.ediv_one,Nat.reduceAdd,Nat.reduceMul,Int.reduceNeg,Nat.reduceLeDiff,List.length_cons,List.length_nil,true_and,and_true,Nat.zero_add,eq_self,Nat.reduceEqDiff,Int.reduceAdd,Int.reduceSub,Int.reduceMul,not_true_eq_false,not_false_eq_true,Nat.reduceLT,Int.reduceToNat,Int.reduceEq,Int.reduceNe,Int.reduceLT,Int.reduceLE,false_and,false_implies,true_implies]
  by_cases ck : hd_ R = 12
  · rw [if_pos ck] at hQ
    refine ⟨fun _ => ?_, fun q => absurd q (by omega)⟩
    refine w_M_bearersNow_21 ?_
    simp (disch := omega) only [cm_,aq_,ay_,ag_,b8_,af_,ba_,bc_,cp_,b3_,bg_,am_,ae_,ac_,b2_,bq_,ed_,bs_,ao_,c4_,a2_,az_,au_,a4_,dw_,d6_,ea_,d3_,b5_,b1_,fl_,fn_,fh_,fu_,fp_,fz_,fq_,fk_,fr_,ft_,fs_,f0_,c5_,bd_,c3_,ct_,cx_,co_,cr_,cf_,ch_,an_,cl_,dt_,dv_,du_,dr_,ds_,cd_,a9_,a8_,a7_,ce_,fv_,d1_,Int.toNat_natCast,eh_,b9_,f3_,di_,dm_,dn_,gv_,g1_,g4_,gx_,gu_,gs_,gm_,f4_,Int.add_zero,Int.zero_add,Int.ediv_one,Nat.reduceAdd,Nat.reduceMul,Int.reduceNeg,Nat.reduceLeDiff,List.length_cons,List.length_nil,true_and,and_true,Nat.zero_add,eq_self,Nat.reduceEqDiff,Int.reduceAdd,Int.reduceSub,Int.reduceMul,not_true_eq_false,not_false_eq_true,Nat.reduceLT,Int.reduceToNat,Int.reduceEq,Int.reduceNe,Int.reduceLT,Int.reduceLE,false_and,false_implies,true_implies]
    refine w_M_bearersNow_23 ?_
    simp (disch := omega) only [cm_,aq_,ay_,ag_,b8_,af_,ba_,bc_,cp_,b3_,bg_,am_,ae_,ac_,b2_,bq_,ed_,bs_,ao_,c4_,a2_,az_,au_,a4_,dw_,d6_,ea_,d3_,b5_,b1_,fl_,fn_,fh_,fu_,fp_,fz_,fq_,fk_,fr_,ft_,fs_,f0_,c5_,bd_,c3_,ct_,cx_,co_,cr_,cf_,ch_,an_,cl_,dt_,dv_,du_,dr_,ds_,cd_,a9_,a8_,a7_,ce_,fv_,d1_,Int.toNat_natCast,eh_,b9_,f3_,di_,dm_,dn_,gv_,g1_,g4_,gx_,gu_,gs_,gm_,f4_,Int.add_zero,Int.zero_add,Int.ediv_one,Nat.reduceAdd,Nat.reduceMul,Int.reduceNeg,Nat.reduceLeDiff,List.length_cons,List.length_nil,true_and,and_true,Nat.zero_add,eq_self,Nat.reduceEqDiff,Int.reduceAdd,Int.reduceSub,Int.reduceMul,not_true_eq_false,not_false_eq_true,Nat.reduceLT,Int.reduceToNat,Int.reduceEq,Int.reduceNe,Int.reduceLT,Int.reduceLE,false_and,false_implies,true_implies]
    refine w_M_bearersNow_24 ?_
    simp (disch := omega) only [cm_,aq_,ay_,ag_,b8_,af_,ba_,bc_,cp_,b3_,bg_,am_,ae_,ac_,b2_,bq_,ed_,bs_,ao_,c4_,a2_,az_,au_,a4_,dw_,d6_,ea_,d3_,b5_,b1_,fl_,fn_,fh_,fu_,fp_,fz_,fq_,fk_,fr_,ft_,fs_,f0_,c5_,bd_,c3_,ct_,cx_,co_,cr_,cf_,ch_,an_,cl_,dt_,dv_,du_,dr_,ds_,cd_,a9_,a8_,a7_,ce_,fv_,d1_,Int.toNat_natCast,eh_,b9_,f3_,di_,dm_,dn_,gv_,g1_,g4_,gx_,gu_,gs_,gm_,f4_,Int.add_zero,Int.zero_add,Int.ediv_one,Nat.reduceAdd,Nat.reduceMul,Int.reduceNeg,Nat.reduceLeDiff,List.length_cons,List.length_nil,true_and,and_true,Nat.zero_add,eq_self,Nat.reduceEqDiff,Int.reduceAdd,Int.reduceSub,Int.reduceMul,not_true_eq_false,not_false_eq_true,Nat.reduceLT,Int.reduceToNat,Int.reduceEq,Int.reduceNe,Int.reduceLT,Int.reduceLE,false_and,false_implies,true_implies]
    refine w_M_bearersNow_59 ?_
    simp (disch := omega) only [cm_,aq_,ay_,ag_,b8_,af_,ba_,bc_,cp_,b3_,bg_,am_,ae_,ac_,b2_,bq_,ed_,bs_,ao_,c4_,a2_,az_,au_,a4_,dw_,d6_,ea_,d3_,b5_,b1_,fl_,fn_,fh_,fu_,fp_,fz_,fq_,fk_,fr_,ft_,fs_,f0_,c5_,bd_,c3_,ct_,cx_,co_,cr_,cf_,ch_,an_,cl_,dt_,dv_,du_,dr_,ds_,cd_,a9_,a8_,a7_,ce_,fv_,d1_,Int.toNat_natCast,eh_,b9_,f3_,di_,dm_,dn_,gv_,g1_,g4_,gx_,gu_,gs_,gm_,f4_,Int.add_zero,Int.zero_add,Int.ediv_one,Nat.reduceAdd,Nat.reduceMul,Int.reduceNeg,Nat.reduceLeDiff,List.length_cons,List.length_nil,true_and,and_true,Nat.zero_add,eq_self,Nat.reduceEqDiff,Int.reduceAdd,Int.reduceSub,Int.reduceMul,not_true_eq_false,not_false_eq_true,Nat.reduceLT,Int.reduceToNat,Int.reduceEq,Int.reduceNe,Int.reduceLT,Int.reduceLE,false_and,false_implies,true_implies]
    refine ⟨fun _ => ?_, fun q => absurd q (by omega)⟩
    refine w_M_bearersNow_80 ?_
    simp (disch := omega) only [cm_,aq_,ay_,ag_,b8_,af_,ba_,bc_,cp_,b3_,bg_,am_,ae_,ac_,b2_,bq_,ed_,bs_,ao_,c4_,a2_,az_,au_,a4_,dw_,d6_,ea_,d3_,b5_,b1_,fl_,fn_,fh_,fu_,fp_,fz_,fq_,fk_,fr_,ft_,fs_,f0_,c5_,bd_,c3_,ct_,cx_,co_,cr_,cf_,ch_,an_,cl_,dt_,dv_,du_,dr_,ds_,cd_,a9_,a8_,a7_,ce_,fv_,d1_,Int.toNat_natCast,eh_,b9_,f3_,di_,dm_,dn_,gv_,g1_,g4_,gx_,gu_,gs_,gm_,f4_,Int.add_zero,Int.zero_add,Int.ediv_one,Nat.reduceAdd,Nat.reduceMul,Int.reduceNeg,Nat.reduceLeDiff,List.length_cons,List.length_nil,true_and,and_true,Nat.zero_add,eq_self,Nat.reduceEqDiff,Int.reduceAdd,Int.reduceSub,Int.reduceMul,not_true_eq_false,not_false_eq_true,Nat.reduceLT,Int.reduceToNat,Int.reduceEq,Int.reduceNe,Int.reduceLT,Int.reduceLE,false_and,false_implies,true_implies]
    refine w_M_bearersNow_81 ?_
    simp (disch := omega) only [cm_,aq_,ay_,ag_,b8_,af_,ba_,bc_,cp_,b3_,bg_,am_,ae_,ac_,b2_,bq_,ed_,bs_,ao_,c4_,a2_,az_,au_,a4_,dw_,d6_,ea_,d3_,b5_,b1_,fl_,fn_,fh_,fu_,fp_,fz_,fq_,fk_,fr_,ft_,fs_,f0_,c5_,bd_,c3_,ct_,cx_,co_,cr_,cf_,ch_,an_,cl_,dt_,dv_,du_,dr_,ds_,cd_,a9_,a8_,a7_,ce_,fv_,d1_,Int.toNat_natCast,eh_,b9_,f3_,di_,dm_,dn_,gv_,g1_,g4_,gx_,gu_,gs_,gm_,f4_,Int.add_zero,Int.zero_add,Int.ediv_one,Nat.reduceAdd,Nat.reduceMul,Int.reduceNeg,Nat.reduceLeDiff,List.length_cons,List.length_nil,true_and,and_true,Nat.zero_add,eq_self,Nat.reduceEqDiff,Int.reduceAdd,Int.reduceSub,Int.reduceMul,not_true_eq_false,not_false_eq_true,Nat.reduceLT,Int.reduceToNat,Int.reduceEq,Int.reduceNe,Int.reduceLT,Int.reduceLE,false_and,false_implies,true_implies]
    exact hQ
  · rw [if_neg ck] at hQ
    have fin : ∀ i : Nat, i ≤ 8 → ∀ x3 : Option Value, brs R 8 = brs R i → J M_M_bearersNow 59 [some (.ref 90), some (.int (zI (brs R i).1)), some (.int (zI (brs R i).2)), x3] [] (HM R rf lt lsz a0 ib sm pl lo nu kp ig hmg p0 tk ki tu tz tf tn tsz ga sd bb) Q := by
      intro i hi x3 e
      have hr := brs_rng hG i
      simp only [brF, e] at hQ
      refine w_M_bearersNow_59 ?_
      simp (disch := omega) only [cm_,aq_,ay_,ag_,b8_,af_,ba_,bc_,cp_,b3_,bg_,am_,ae_,ac_,b2_,bq_,ed_,bs_,ao_,c4_,a2_,az_,au_,a4_,dw_,d6_,ea_,d3_,b5_,b1_,fl_,fn_,fh_,fu_,fp_,fz_,fq_,fk_,fr_,ft_,fs_,f0_,c5_,bd_,c3_,ct_,cx_,co_,cr_,cf_,ch_,an_,cl_,dt_,dv_,du_,dr_,ds_,cd_,a9_,a8_,a7_,ce_,fv_,d1_,Int.toNat_natCast,eh_,b9_,f3_,di_,dm_,dn_,gv_,g1_,g4_,gx_,gu_,gs_,gm_,f4_,Int.add_zero,Int.zero_add,Int.ediv_one,Nat.reduceAdd,Nat.reduceMul,Int.reduceNeg,Nat.reduceLeDiff,List.length_cons,List.length_nil,true_and,and_true,Nat.zero_add,eq_self,Nat.reduceEqDiff,Int.reduceAdd,Int.reduceSub,Int.reduceMul,not_true_eq_false,not_false_eq_true,Nat.reduceLT,Int.reduceToNat,Int.reduceEq,Int.reduceNe,Int.reduceLT,Int.reduceLE,false_and,false_implies,true_implies]
      refine ⟨fun _ => by omega, fun _ => ?_⟩
      refine con_MneededHere hG ?_
      simp (disch := omega) only [cm_,aq_,ay_,ag_,b8_,af_,ba_,bc_,cp_,b3_,bg_,am_,ae_,ac_,b2_,bq_,ed_,bs_,ao_,c4_,a2_,az_,au_,a4_,dw_,d6_,ea_,d3_,b5_,b1_,fl_,fn_,fh_,fu_,fp_,fz_,fq_,fk_,fr_,ft_,fs_,f0_,c5_,bd_,c3_,ct_,cx_,co_,cr_,cf_,ch_,an_,cl_,dt_,dv_,du_,dr_,ds_,cd_,a9_,a8_,a7_,ce_,fv_,d1_,Int.toNat_natCast,eh_,b9_,f3_,di_,dm_,dn_,gv_,g1_,g4_,gx_,gu_,gs_,gm_,f4_,Int.add_zero,Int.zero_add,Int.ediv_one,Nat.reduceAdd,Nat.reduceMul,Int.reduceNeg,Nat.reduceLeDiff,List.length_cons,List.length_nil,true_and,and_true,Nat.zero_add,eq_self,Nat.reduceEqDiff,Int.reduceAdd,Int.reduceSub,Int.reduceMul,not_true_eq_false,not_false_eq_true,Nat.reduceLT,Int.reduceToNat,Int.reduceEq,Int.reduceNe,Int.reduceLT,Int.reduceLE,false_and,false_implies,true_implies]
      refine ⟨fun c => ?_, fun c => ?_⟩
      · rw [if_pos (by omega)] at hQ
        refine w_M_bearersNow_80 ?_
        simp (disch := omega) only [cm_,aq_,ay_,ag_,b8_,af_,ba_,bc_,cp_,b3_,bg_,am_,ae_,ac_,b2_,bq_,ed_,bs_,ao_,c4_,a2_,az_,au_,a4_,dw_,d6_,ea_,d3_,b5_,b1_,fl_,fn_,fh_,fu_,fp_,fz_,fq_,fk_,fr_,ft_,fs_,f0_,c5_,bd_,c3_,ct_,cx_,co_,cr_,cf_,ch_,an_,cl_,dt_,dv_,du_,dr_,ds_,cd_,a9_,a8_,a7_,ce_,fv_,d1_,Int.toNat_natCast,eh_,b9_,f3_,di_,dm_,dn_,gv_,g1_,g4_,gx_,gu_,gs_,gm_,f4_,Int.add_zero,Int.zero_add,Int.ediv_one,Nat.reduceAdd,Nat.reduceMul,Int.reduceNeg,Nat.reduceLeDiff,List.length_cons,List.length_nil,true_and,and_true,Nat.zero_add,eq_self,Nat.reduceEqDiff,Int.reduceAdd,Int.reduceSub,Int.reduceMul,not_true_eq_false,not_false_eq_true,Nat.reduceLT,Int.reduceToNat,Int.reduceEq,Int.reduceNe,Int.reduceLT,Int.reduceLE,false_and,false_implies,true_implies]
        refine w_M_bearersNow_81 ?_
        simp (disch := omega) only [cm_,aq_,ay_,ag_,b8_,af_,ba_,bc_,cp_,b3_,bg_,am_,ae_,ac_,b2_,bq_,ed_,bs_,ao_,c4_,a2_,az_,au_,a4_,dw_,d6_,ea_,d3_,b5_,b1_,fl_,fn_,fh_,fu_,fp_,fz_,fq_,fk_,fr_,ft_,fs_,f0_,c5_,bd_,c3_,ct_,cx_,co_,cr_,cf_,ch_,an_,cl_,dt_,dv_,du_,dr_,ds_,cd_,a9_,a8_,a7_,ce_,fv_,d1_,Int.toNat_natCast,eh_,b9_,f3_,di_,dm_,dn_,gv_,g1_,g4_,gx_,gu_,gs_,gm_,f4_,Int.add_zero,Int.zero_add,Int.ediv_one,Nat.reduceAdd,Nat.reduceMul,Int.reduceNeg,Nat.reduceLeDiff,List.length_cons,List.length_nil,true_and,and_true,Nat.zero_add,eq_self,Nat.reduceEqDiff,Int.reduceAdd,Int.reduceSub,Int.reduceMul,not_true_eq_false,not_false_eq_true,Nat.reduceLT,Int.reduceToNat,Int.reduceEq,Int.reduceNe,Int.reduceLT,Int.reduceLE,false_and,false_implies,true_implies]
        exact hQ
      · rw [if_neg (by omega)] at hQ
        refine w_M_bearersNow_81 ?_
        simp (disch := omega) only [cm_,aq_,ay_,ag_,b8_,af_,ba_,bc_,cp_,b3_,bg_,am_,ae_,ac_,b2_,bq_,ed_,bs_,ao_,c4_,a2_,az_,au_,a4_,dw_,d6_,ea_,d3_,b5_,b1_,fl_,fn_,fh_,fu_,fp_,fz_,fq_,fk_,fr_,ft_,fs_,f0_,c5_,bd_,c3_,ct_,cx_,co_,cr_,cf_,ch_,an_,cl_,dt_,dv_,du_,dr_,ds_,cd_,a9_,a8_,a7_,ce_,fv_,d1_,Int.toNat_natCast,eh_,b9_,f3_,di_,dm_,dn_,gv_,g1_,g4_,gx_,gu_,gs_,gm_,f4_,Int.add_zero,Int.zero_add,Int.ediv_one,Nat.reduceAdd,Nat.reduceMul,Int.reduceNeg,Nat.reduceLeDiff,List.length_cons,List.length_nil,true_and,and_true,Nat.zero_add,eq_self,Nat.reduceEqDiff,Int.reduceAdd,Int.reduceSub,Int.reduceMul,not_true_eq_false,not_false_eq_true,Nat.reduceLT,Int.reduceToNat,Int.reduceEq,Int.reduceNe,Int.reduceLT,Int.reduceLE,false_and,false_implies,true_implies]
        exact hQ
    have loop : ∀ n i : Nat, i + n = 8 → pop8 (brs R i).1 = i → J M_M_bearersNow 24 [some (.ref 90), some (.int (zI (brs R i).1)), some (.int (zI (brs R i).2)), some (.int (zI (sbst R (brs R i).1)))] [] (HM R rf lt lsz a0 ib sm pl lo nu kp ig hmg p0 tk ki tu tz tf tn tsz ga sd bb) Q := by
      intro n
      induction n with
      | zero =>
        intro i hi hp
        have e : i = 8 := by omega
        subst e
        have e2 := pop8_full _ (brs_256 hG 8) hp
        have e3 : sbst R (brs R 8).1 = -9 := by rw [e2]; exact sb_255 hG
        rw [e3]
        refine w_M_bearersNow_24 ?_
        simp (disch := omega) only [cm_,aq_,ay_,ag_,b8_,af_,ba_,bc_,cp_,b3_,bg_,am_,ae_,ac_,b2_,bq_,ed_,bs_,ao_,c4_,a2_,az_,au_,a4_,dw_,d6_,ea_,d3_,b5_,b1_,fl_,fn_,fh_,fu_,fp_,fz_,fq_,fk_,fr_,ft_,fs_,f0_,c5_,bd_,c3_,ct_,cx_,co_,cr_,cf_,ch_,an_,cl_,dt_,dv_,du_,dr_,ds_,cd_,a9_,a8_,a7_,ce_,fv_,d1_,Int.toNat_natCast,eh_,b9_,f3_,di_,dm_,dn_,gv_,g1_,g4_,gx_,gu_,gs_,gm_,f4_,Int.add_zero,Int.zero_add,Int.ediv_one,Nat.reduceAdd,Nat.reduceMul,Int.reduceNeg,Nat.reduceLeDiff,List.length_cons,List.length_nil,true_and,and_true,Nat.zero_add,eq_self,Nat.reduceEqDiff,Int.reduceAdd,Int.reduceSub,Int.reduceMul,not_true_eq_false,not_false_eq_true,Nat.reduceLT,Int.reduceToNat,Int.reduceEq,Int.reduceNe,Int.reduceLT,Int.reduceLE,false_and,false_implies,true_implies]
        exact fin 8 (by omega) _ rfl
      | succ n ih =>
        intro i hi hp
        have hr := brs_rng hG i
        have hb := brs_256 hG i
        have gs : sbst R (brs R i).1 = -9 ∨ (0 ≤ sbst R (brs R i).1 ∧ sbst R (brs R i).1 < hb_ R) := sbN_rng R (brs R i).1 (hb_ R)
        have gb := bears_rng hG (sbst R (brs R i).1).toNat
        have step := ih (i + 1) (by omega)
        have st8 := fun z => brs_stable (R := R) (i := i) z (8 - i)
        rw [show i + (8 - i) = 8 by omega] at st8
        have h256 := brs_256 hG (i + 1)
        simp only [brs] at step h256
        refine w_M_bearersNow_24 ?_
        simp (disch := omega) only [cm_,aq_,ay_,ag_,b8_,af_,ba_,bc_,cp_,b3_,bg_,am_,ae_,ac_,b2_,bq_,ed_,bs_,ao_,c4_,a2_,az_,au_,a4_,dw_,d6_,ea_,d3_,b5_,b1_,fl_,fn_,fh_,fu_,fp_,fz_,fq_,fk_,fr_,ft_,fs_,f0_,c5_,bd_,c3_,ct_,cx_,co_,cr_,cf_,ch_,an_,cl_,dt_,dv_,du_,dr_,ds_,cd_,a9_,a8_,a7_,ce_,fv_,d1_,Int.toNat_natCast,eh_,b9_,f3_,di_,dm_,dn_,gv_,g1_,g4_,gx_,gu_,gs_,gm_,f4_,Int.add_zero,Int.zero_add,Int.ediv_one,Nat.reduceAdd,Nat.reduceMul,Int.reduceNeg,Nat.reduceLeDiff,List.length_cons,List.length_nil,true_and,and_true,Nat.zero_add,eq_self,Nat.reduceEqDiff,Int.reduceAdd,Int.reduceSub,Int.reduceMul,not_true_eq_false,not_false_eq_true,Nat.reduceLT,Int.reduceToNat,Int.reduceEq,Int.reduceNe,Int.reduceLT,Int.reduceLE,false_and,false_implies,true_implies]
        refine ⟨fun c => fin i (by omega) _ (st8 (by omega)), fun c => ?_⟩
        refine con_MneededHere hG ?_
        simp (disch := omega) only [cm_,aq_,ay_,ag_,b8_,af_,ba_,bc_,cp_,b3_,bg_,am_,ae_,ac_,b2_,bq_,ed_,bs_,ao_,c4_,a2_,az_,au_,a4_,dw_,d6_,ea_,d3_,b5_,b1_,fl_,fn_,fh_,fu_,fp_,fz_,fq_,fk_,fr_,ft_,fs_,f0_,c5_,bd_,c3_,ct_,cx_,co_,cr_,cf_,ch_,an_,cl_,dt_,dv_,du_,dr_,ds_,cd_,a9_,a8_,a7_,ce_,fv_,d1_,Int.toNat_natCast,eh_,b9_,f3_,di_,dm_,dn_,gv_,g1_,g4_,gx_,gu_,gs_,gm_,f4_,Int.add_zero,Int.zero_add,Int.ediv_one,Nat.reduceAdd,Nat.reduceMul,Int.reduceNeg,Nat.reduceLeDiff,List.length_cons,List.length_nil,true_and,and_true,Nat.zero_add,eq_self,Nat.reduceEqDiff,Int.reduceAdd,Int.reduceSub,Int.reduceMul,not_true_eq_false,not_false_eq_true,Nat.reduceLT,Int.reduceToNat,Int.reduceEq,Int.reduceNe,Int.reduceLT,Int.reduceLE,false_and,false_implies,true_implies]
        refine ⟨fun c2 => fin i (by omega) _ (st8 (by omega)), fun c2 => ?_⟩
        rw [if_pos ⟨by omega, by omega⟩] at step h256
        refine con_MbearsI (by omega) hG ?_
        simp (disch := omega) only [cm_,aq_,ay_,ag_,b8_,af_,ba_,bc_,cp_,b3_,bg_,am_,ae_,ac_,b2_,bq_,ed_,bs_,ao_,c4_,a2_,az_,au_,a4_,dw_,d6_,ea_,d3_,b5_,b1_,fl_,fn_,fh_,fu_,fp_,fz_,fq_,fk_,fr_,ft_,fs_,f0_,c5_,bd_,c3_,ct_,cx_,co_,cr_,cf_,ch_,an_,cl_,dt_,dv_,du_,dr_,ds_,cd_,a9_,a8_,a7_,ce_,fv_,d1_,Int.toNat_natCast,eh_,b9_,f3_,di_,dm_,dn_,gv_,g1_,g4_,gx_,gu_,gs_,gm_,f4_,Int.add_zero,Int.zero_add,Int.ediv_one,Nat.reduceAdd,Nat.reduceMul,Int.reduceNeg,Nat.reduceLeDiff,List.length_cons,List.length_nil,true_and,and_true,Nat.zero_add,eq_self,Nat.reduceEqDiff,Int.reduceAdd,Int.reduceSub,Int.reduceMul,not_true_eq_false,not_false_eq_true,Nat.reduceLT,Int.reduceToNat,Int.reduceEq,Int.reduceNe,Int.reduceLT,Int.reduceLE,false_and,false_implies,true_implies]
        refine con_MstrongestBut h256 hG ?_
        simp (disch := omega) only [cm_,aq_,ay_,ag_,b8_,af_,ba_,bc_,cp_,b3_,bg_,am_,ae_,ac_,b2_,bq_,ed_,bs_,ao_,c4_,a2_,az_,au_,a4_,dw_,d6_,ea_,d3_,b5_,b1_,fl_,fn_,fh_,fu_,fp_,fz_,fq_,fk_,fr_,ft_,fs_,f0_,c5_,bd_,c3_,ct_,cx_,co_,cr_,cf_,ch_,an_,cl_,dt_,dv_,du_,dr_,ds_,cd_,a9_,a8_,a7_,ce_,fv_,d1_,Int.toNat_natCast,eh_,b9_,f3_,di_,dm_,dn_,gv_,g1_,g4_,gx_,gu_,gs_,gm_,f4_,Int.add_zero,Int.zero_add,Int.ediv_one,Nat.reduceAdd,Nat.reduceMul,Int.reduceNeg,Nat.reduceLeDiff,List.length_cons,List.length_nil,true_and,and_true,Nat.zero_add,eq_self,Nat.reduceEqDiff,Int.reduceAdd,Int.reduceSub,Int.reduceMul,not_true_eq_false,not_false_eq_true,Nat.reduceLT,Int.reduceToNat,Int.reduceEq,Int.reduceNe,Int.reduceLT,Int.reduceLE,false_and,false_implies,true_implies]
        have g0 : 0 ≤ sbN R (brs R i).1 (hb_ R) := by
          show 0 ≤ sbst R (brs R i).1
          omega
        have hpp := pop8_or (sbst R (brs R i).1).toNat (by omega) _ hb (sbN_free R _ _ g0)
        refine step ?_
        show pop8 ((brs R i).1 ||| 2 ^ (sbst R (brs R i).1).toNat) = i + 1
        rw [hpp, hp]
    refine ⟨fun q => by omega, fun _ => ?_⟩
    refine con_MstrongestBut (b := 0) (by omega) hG ?_
    simp (disch := omega) only [cm_,aq_,ay_,ag_,b8_,af_,ba_,bc_,cp_,b3_,bg_,am_,ae_,ac_,b2_,bq_,ed_,bs_,ao_,c4_,a2_,az_,au_,a4_,dw_,d6_,ea_,d3_,b5_,b1_,fl_,fn_,fh_,fu_,fp_,fz_,fq_,fk_,fr_,ft_,fs_,f0_,c5_,bd_,c3_,ct_,cx_,co_,cr_,cf_,ch_,an_,cl_,dt_,dv_,du_,dr_,ds_,cd_,a9_,a8_,a7_,ce_,fv_,d1_,Int.toNat_natCast,eh_,b9_,f3_,di_,dm_,dn_,gv_,g1_,g4_,gx_,gu_,gs_,gm_,f4_,Int.add_zero,Int.zero_add,Int.ediv_one,Nat.reduceAdd,Nat.reduceMul,Int.reduceNeg,Nat.reduceLeDiff,List.length_cons,List.length_nil,true_and,and_true,Nat.zero_add,eq_self,Nat.reduceEqDiff,Int.reduceAdd,Int.reduceSub,Int.reduceMul,not_true_eq_false,not_false_eq_true,Nat.reduceLT,Int.reduceToNat,Int.reduceEq,Int.reduceNe,Int.reduceLT,Int.reduceLE,false_and,false_implies,true_implies]
    refine w_M_bearersNow_23 ?_
    simp (disch := omega) only [cm_,aq_,ay_,ag_,b8_,af_,ba_,bc_,cp_,b3_,bg_,am_,ae_,ac_,b2_,bq_,ed_,bs_,ao_,c4_,a2_,az_,au_,a4_,dw_,d6_,ea_,d3_,b5_,b1_,fl_,fn_,fh_,fu_,fp_,fz_,fq_,fk_,fr_,ft_,fs_,f0_,c5_,bd_,c3_,ct_,cx_,co_,cr_,cf_,ch_,an_,cl_,dt_,dv_,du_,dr_,ds_,cd_,a9_,a8_,a7_,ce_,fv_,d1_,Int.toNat_natCast,eh_,b9_,f3_,di_,dm_,dn_,gv_,g1_,g4_,gx_,gu_,gs_,gm_,f4_,Int.add_zero,Int.zero_add,Int.ediv_one,Nat.reduceAdd,Nat.reduceMul,Int.reduceNeg,Nat.reduceLeDiff,List.length_cons,List.length_nil,true_and,and_true,Nat.zero_add,eq_self,Nat.reduceEqDiff,Int.reduceAdd,Int.reduceSub,Int.reduceMul,not_true_eq_false,not_false_eq_true,Nat.reduceLT,Int.reduceToNat,Int.reduceEq,Int.reduceNe,Int.reduceLT,Int.reduceLE,false_and,false_implies,true_implies]
    exact loop 8 0 (by omega) pz0
end D4
/-- the reference's day half done: i men are worn and judged -/
def stepM (R : RR) (b i : Nat) : RR := sFa (wearN R b i) (fun k => if k < i ∧ b.testBit k = true ∧ lasts R k ≤ min 99 (rWo R k + wears R b k) then 2 else rFa R k)
theorem stepM_wo (R : RR) (b i : Nat) : rWo (stepM R b i) i = rWo R i := by simp [stepM, wearN, ds_]
theorem stepM_fa (R : RR) (b i : Nat) : rFa (stepM R b i) i = rFa R i := by simp [stepM, dr_]
theorem GR.stM {R : RR} (h : GR R) (b i : Nat) : GR (stepM R b i) := by
  obtain ⟨h1, h2, h3, h4, h5, h6, h7, h8, h9⟩ := h.wear b i
  refine ⟨h1, h2, h3, h4, h5, h6, h7, fun k => ?_, h9⟩
  have := h.fa k
  simp only [stepM, dr_]
  split <;> omega
def Inv (R : RR) : Prop := ∀ k, k < hb_ R → rFa R k ≠ 2 → rWo R k < lasts R k
theorem stepM_s {R : RR} (hG : GR R) {b i : Nat} {w f : Int} (hw : w = (if b.testBit i = true then min 99 (rWo R i + wears R b i) else rWo R i)) (hf : f = (if b.testBit i = true ∧ lasts R i ≤ w then 2 else rFa R i)) :
    stepM R b (i + 1) = sFa (sWo (stepM R b i) (upI (rWo (stepM R b i)) i w)) (upI (rFa (stepM R b i)) i f) := by
  have e1 : (fun k => if k < i + 1 ∧ b.testBit k = true then min 99 (rWo R k + wears R b k) else rWo R k) = upI (fun k => if k < i ∧ b.testBit k = true then min 99 (rWo R k + wears R b k) else rWo R k) i w := by
    funext k
    simp only [upI]
    by_cases hk : k = i
    · subst hk
      rw [if_pos rfl, hw]
      by_cases c : b.testBit k = true
      · rw [if_pos ⟨by omega, c⟩, if_pos c]
      · rw [if_neg (fun q => c q.2), if_neg c]
    · simp only [hk, if_false, show (k < i + 1) = (k < i) by simp; omega]
  have e2 : (fun k => if k < i + 1 ∧ b.testBit k = true ∧ lasts R k ≤ min 99 (rWo R k + wears R b k) then 2 else rFa R k) = upI (fun k => if k < i ∧ b.testBit k = true ∧ lasts R k ≤ min 99 (rWo R k + wears R b k) then 2 else rFa R k) i f := by
    funext k
    simp only [upI]
    by_cases hk : k = i
    · subst hk
      rw [if_pos rfl, hf]
      by_cases c : b.testBit k = true
      · rw [if_pos c] at hw
        rw [hw]
        by_cases c2 : lasts R k ≤ min 99 (rWo R k + wears R b k)
        · rw [if_pos ⟨by omega, c, c2⟩, if_pos ⟨c, c2⟩]
        · rw [if_neg (fun q => c2 q.2.2), if_neg (fun q => c2 q.2)]
      · rw [if_neg (fun q => c q.2.1), if_neg (fun q => c q.1)]
    · simp only [hk, if_false, show (k < i + 1) = (k < i) by simp; omega]
  show mkR (rSl R) (rKi R) (rFi R) (fun k => if k < i + 1 ∧ b.testBit k = true ∧ lasts R k ≤ min 99 (rWo R k + wears R b k) then 2 else rFa R k) (fun k => if k < i + 1 ∧ b.testBit k = true then min 99 (rWo R k + wears R b k) else rWo R k) (rMen R) (hd_ R) (rLoad R) (rSnow R) (hh_ R) = _
  rw [e1, e2]
  rfl
theorem wears_stepM (R : RR) (b i k : Nat) : wears (stepM R b i) b k = wears R b k := by
  have : ∀ n c, feud (stepM R b i) c n = feud R c n := by
    intro n c
    induction n with
    | zero => rfl
    | succ n ih => simp only [feud, ih]; rfl
  simp only [wears, this]
  rfl
theorem GR.setWo {R : RR} (h : GR R) {x : Int} (i : Nat) (hx : 0 ≤ x ∧ x ≤ 99) : GR (sWo R (upI (rWo R) i x)) := by
  obtain ⟨h1, h2, h3, h4, h5, h6, h7, h8, h9⟩ := id h
  exact ⟨h1, h2, h3, h4, h5, h6, h7, h8, upI_rng h9 hx _⟩
theorem upI_s (f : Nat → Int) (k : Nat) (x : Int) : upI f k x k = x := by simp [upI]
/-- the reference's day -/
theorem dayM_eq {R : RR} (hG : GR R) (hI : Inv R) : (if brF R = 0 then R else sKing (stepM R (brF R) (hb_ R)) (hd_ R + 1)) = movedX R := by
  simp only [movedX]
  by_cases c : brF R = 0
  · rw [if_pos c, if_pos c]
  · rw [if_neg c, if_neg c]
    have gn := hG.nM
    have hl := brF_low R
    have lo : ∀ k, (brF R).testBit k = true → k < hb_ R := fun k q => by
      rcases Nat.lt_or_ge k (hb_ R) with z | z
      · exact z
      · rw [hl k z] at q
        exact absurd q (by decide)
    have e1 : (fun k => if k < hb_ R ∧ (brF R).testBit k = true then min 99 (rWo R k + wears R (brF R) k) else rWo R k) = fun k => if k < 8 ∧ (brF R).testBit k = true then min 99 (rWo R k + wears R (brF R) k) else rWo R k := by
      funext k
      by_cases c1 : (brF R).testBit k = true
      · rw [if_pos ⟨lo k c1, c1⟩, if_pos ⟨by have := lo k c1; omega, c1⟩]
      · rw [if_neg (fun q => c1 q.2), if_neg (fun q => c1 q.2)]
    have e2 : (fun k => if k < hb_ R ∧ (brF R).testBit k = true ∧ lasts R k ≤ min 99 (rWo R k + wears R (brF R) k) then 2 else rFa R k) = fun k => if k < hb_ R ∧ lasts R k ≤ (if k < 8 ∧ (brF R).testBit k = true then min 99 (rWo R k + wears R (brF R) k) else rWo R k) then 2 else rFa R k := by
      funext k
      by_cases c0 : k < hb_ R
      · by_cases c1 : (brF R).testBit k = true
        · rw [if_pos (⟨by omega, c1⟩ : k < 8 ∧ _)]
          by_cases c2 : lasts R k ≤ min 99 (rWo R k + wears R (brF R) k)
          · rw [if_pos ⟨c0, c1, c2⟩, if_pos ⟨c0, c2⟩]
          · rw [if_neg (fun q => c2 q.2.2), if_neg (fun q => c2 q.2)]
        · rw [if_neg (fun q => c1 q.2.1), if_neg (fun q => c1 q.2 : ¬ (k < 8 ∧ _))]
          by_cases c2 : lasts R k ≤ rWo R k
          · rw [if_pos ⟨c0, c2⟩]
            rcases Classical.em (rFa R k = 2) with z | z
            · exact z
            · have := hI k c0 z
              omega
          · rw [if_neg (fun q => c2 q.2)]
      · rw [if_neg (fun q => c0 q.1), if_neg (fun q => c0 q.1)]
    show mkR (rSl R) (rKi R) (rFi R) (fun k => if k < hb_ R ∧ (brF R).testBit k = true ∧ lasts R k ≤ min 99 (rWo R k + wears R (brF R) k) then 2 else rFa R k) (fun k => if k < hb_ R ∧ (brF R).testBit k = true then min 99 (rWo R k + wears R (brF R) k) else rWo R k) (rMen R) (hd_ R + 1) (rLoad R) (rSnow R) (hh_ R) = mkR (rSl R) (rKi R) (rFi R) (fun k => if k < hb_ R ∧ lasts R k ≤ (if k < 8 ∧ (brF R).testBit k = true then min 99 (rWo R k + wears R (brF R) k) else rWo R k) then 2 else rFa R k) (fun k => if k < 8 ∧ (brF R).testBit k = true then min 99 (rWo R k + wears R (brF R) k) else rWo R k) (rMen R) (hd_ R + 1) (rLoad R) (rSnow R) (hh_ R)
    rw [e1, e2]
theorem stepM_0 (R : RR) (i : Nat) : stepM R 0 i = R := by
  have e1 : (fun k => if k < i ∧ (0 : Nat).testBit k = true then min 99 (rWo R k + wears R 0 k) else rWo R k) = rWo R := by
    funext k
    rw [if_neg (fun q => by rw [Nat.zero_testBit] at q; exact absurd q.2 (by decide))]
  have e2 : (fun k => if k < i ∧ (0 : Nat).testBit k = true ∧ lasts R k ≤ min 99 (rWo R k + wears R 0 k) then 2 else rFa R k) = rFa R := by
    funext k
    rw [if_neg (fun q => by rw [Nat.zero_testBit] at q; exact absurd q.2.1 (by decide))]
  show mkR (rSl R) (rKi R) (rFi R) (fun k => if k < i ∧ (0 : Nat).testBit k = true ∧ lasts R k ≤ min 99 (rWo R k + wears R 0 k) then 2 else rFa R k) (fun k => if k < i ∧ (0 : Nat).testBit k = true then min 99 (rWo R k + wears R 0 k) else rWo R k) (rMen R) (hd_ R) (rLoad R) (rSnow R) (hh_ R) = R
  rw [e1, e2]
  exact f4_ R
section D5
variable {R : RR} {rf : Nat → Int} {lt : Nat → Int} {lsz : Int} {a0 : Int} {ib : Int} {sm : Int} {pl : Nat → Int} {lo : Nat → Int} {nu : Nat → Int} {kp : Nat → Int} {ig : Nat → Int} {hmg : Int} {p0 : Int} {tk : Int} {ki : Value} {tu : Nat → Int} {tz : Int} {tf : Nat → Int} {tn : Nat → Int} {tsz : Int} {ga : Nat → Int} {sd : Int} {bb : AH} {Q : Option Value → AH → Prop}
theorem con_MdayLoop {b : Nat} (hb : b < 256) (hl : lowB b (hb_ R)) (hG : GR R) (fin : J M_M_dayOn 126 [some (.ref 90), some (.int (zI b)), some (.int (zI (slH R))), some (.int (zI (hb_ R : Nat)))] [] (HM (stepM R b (hb_ R)) rf lt lsz a0 ib sm pl lo nu kp ig hmg p0 tk ki tu tz tf tn tsz ga sd bb) Q) :
    J M_M_dayOn 37 [some (.ref 90), some (.int (zI b)), some (.int (zI (slH R))), some (.int (zI 0))] [] (HM R rf lt lsz a0 ib sm pl lo nu kp ig hmg p0 tk ki tu tz tf tn tsz ga sd bb) Q := by
  have gn := hG.nM
  have loop : ∀ n i : Nat, i + n = hb_ R → J M_M_dayOn 37 [some (.ref 90), some (.int (zI b)), some (.int (zI (slH R))), some (.int (zI i))] [] (HM (stepM R b i) rf lt lsz a0 ib sm pl lo nu kp ig hmg p0 tk ki tu tz tf tn tsz ga sd bb) Q := by
    intro n
    induction n with
    | zero =>
      intro i hi
      have e : i = hb_ R := by omega
      subst e
      have em : rMen (stepM R b (hb_ R)) = rMen R := rfl
      refine w_M_dayOn_37 ?_
      simp (disch := omega) only [cm_,aq_,ay_,ag_,b8_,af_,ba_,bc_,cp_,b3_,bg_,am_,ae_,ac_,b2_,bq_,ed_,bs_,ao_,c4_,a2_,az_,au_,a4_,dw_,d6_,ea_,d3_,b5_,b1_,fl_,fn_,fh_,fu_,fp_,fz_,fq_,fk_,fr_,ft_,fs_,f0_,c5_,bd_,c3_,ct_,cx_,co_,cr_,cf_,ch_,an_,cl_,dt_,dv_,du_,dr_,ds_,cd_,a9_,a8_,a7_,ce_,fv_,d1_,Int.toNat_natCast,eh_,b9_,f3_,di_,dm_,dn_,gv_,g1_,g4_,gx_,gu_,gs_,gm_,f4_,Int.add_zero,Int.zero_add,Int.ediv_one,Nat.reduceAdd,Nat.reduceMul,Int.reduceNeg,Nat.reduceLeDiff,List.length_cons,List.length_nil,true_and,and_true,Nat.zero_add,eq_self,Nat.reduceEqDiff,Int.reduceAdd,Int.reduceSub,Int.reduceMul,not_true_eq_false,not_false_eq_true,Nat.reduceLT,Int.reduceToNat,Int.reduceEq,Int.reduceNe,Int.reduceLT,Int.reduceLE,false_and,false_implies,true_implies,em]
      refine ⟨fun _ => fin, fun q => by omega⟩
    | succ n ih =>
      intro i hi
      have step := ih (i + 1) (by omega)
      have hGi := hG.stM b i
      have gw := hG.wo i
      have gf := hG.fa i
      have gr := wears_rng hG b i
      have gl := lasts_rng hG i
      have em : rMen (stepM R b i) = rMen R := rfl
      have ew := stepM_wo R b i
      have ef := stepM_fa R b i
      have es : slH (stepM R b i) = slH R := rfl
      refine w_M_dayOn_37 ?_
      simp (disch := omega) only [cm_,aq_,ay_,ag_,b8_,af_,ba_,bc_,cp_,b3_,bg_,am_,ae_,ac_,b2_,bq_,ed_,bs_,ao_,c4_,a2_,az_,au_,a4_,dw_,d6_,ea_,d3_,b5_,b1_,fl_,fn_,fh_,fu_,fp_,fz_,fq_,fk_,fr_,ft_,fs_,f0_,c5_,bd_,c3_,ct_,cx_,co_,cr_,cf_,ch_,an_,cl_,dt_,dv_,du_,dr_,ds_,cd_,a9_,a8_,a7_,ce_,fv_,d1_,Int.toNat_natCast,eh_,b9_,f3_,di_,dm_,dn_,gv_,g1_,g4_,gx_,gu_,gs_,gm_,f4_,Int.add_zero,Int.zero_add,Int.ediv_one,Nat.reduceAdd,Nat.reduceMul,Int.reduceNeg,Nat.reduceLeDiff,List.length_cons,List.length_nil,true_and,and_true,Nat.zero_add,eq_self,Nat.reduceEqDiff,Int.reduceAdd,Int.reduceSub,Int.reduceMul,not_true_eq_false,not_false_eq_true,Nat.reduceLT,Int.reduceToNat,Int.reduceEq,Int.reduceNe,Int.reduceLT,Int.reduceLE,false_and,false_implies,true_implies,em,ew]
      refine ⟨fun _ => by omega, fun _ => ⟨by omega, ?_⟩⟩
      refine con_MhasBit (by omega) (by omega) (fun c => ?_) (fun c => ?_)
      · simp (disch := omega) only [cm_,aq_,ay_,ag_,b8_,af_,ba_,bc_,cp_,b3_,bg_,am_,ae_,ac_,b2_,bq_,ed_,bs_,ao_,c4_,a2_,az_,au_,a4_,dw_,d6_,ea_,d3_,b5_,b1_,fl_,fn_,fh_,fu_,fp_,fz_,fq_,fk_,fr_,ft_,fs_,f0_,c5_,bd_,c3_,ct_,cx_,co_,cr_,cf_,ch_,an_,cl_,dt_,dv_,du_,dr_,ds_,cd_,a9_,a8_,a7_,ce_,fv_,d1_,Int.toNat_natCast,eh_,b9_,f3_,di_,dm_,dn_,gv_,g1_,g4_,gx_,gu_,gs_,gm_,f4_,Int.add_zero,Int.zero_add,Int.ediv_one,Nat.reduceAdd,Nat.reduceMul,Int.reduceNeg,Nat.reduceLeDiff,List.length_cons,List.length_nil,true_and,and_true,Nat.zero_add,eq_self,Nat.reduceEqDiff,Int.reduceAdd,Int.reduceSub,Int.reduceMul,not_true_eq_false,not_false_eq_true,Nat.reduceLT,Int.reduceToNat,Int.reduceEq,Int.reduceNe,Int.reduceLT,Int.reduceLE,false_and,false_implies,true_implies]
        rw [← es]
        refine con_MwearsOf (show i < hb_ R by omega) hb hl c hGi ?_
        rw [wears_stepM, es]
        simp (disch := omega) only [cm_,aq_,ay_,ag_,b8_,af_,ba_,bc_,cp_,b3_,bg_,am_,ae_,ac_,b2_,bq_,ed_,bs_,ao_,c4_,a2_,az_,au_,a4_,dw_,d6_,ea_,d3_,b5_,b1_,fl_,fn_,fh_,fu_,fp_,fz_,fq_,fk_,fr_,ft_,fs_,f0_,c5_,bd_,c3_,ct_,cx_,co_,cr_,cf_,ch_,an_,cl_,dt_,dv_,du_,dr_,ds_,cd_,a9_,a8_,a7_,ce_,fv_,d1_,Int.toNat_natCast,eh_,b9_,f3_,di_,dm_,dn_,gv_,g1_,g4_,gx_,gu_,gs_,gm_,f4_,Int.add_zero,Int.zero_add,Int.ediv_one,Nat.reduceAdd,Nat.reduceMul,Int.reduceNeg,Nat.reduceLeDiff,List.length_cons,List.length_nil,true_and,and_true,Nat.zero_add,eq_self,Nat.reduceEqDiff,Int.reduceAdd,Int.reduceSub,Int.reduceMul,not_true_eq_false,not_false_eq_true,Nat.reduceLT,Int.reduceToNat,Int.reduceEq,Int.reduceNe,Int.reduceLT,Int.reduceLE,false_and,false_implies,true_implies]
        refine w_M_dayOn_75 ?_
        simp (disch := omega) only [cm_,aq_,ay_,ag_,b8_,af_,ba_,bc_,cp_,b3_,bg_,am_,ae_,ac_,b2_,bq_,ed_,bs_,ao_,c4_,a2_,az_,au_,a4_,dw_,d6_,ea_,d3_,b5_,b1_,fl_,fn_,fh_,fu_,fp_,fz_,fq_,fk_,fr_,ft_,fs_,f0_,c5_,bd_,c3_,ct_,cx_,co_,cr_,cf_,ch_,an_,cl_,dt_,dv_,du_,dr_,ds_,cd_,a9_,a8_,a7_,ce_,fv_,d1_,Int.toNat_natCast,eh_,b9_,f3_,di_,dm_,dn_,gv_,g1_,g4_,gx_,gu_,gs_,gm_,f4_,Int.add_zero,Int.zero_add,Int.ediv_one,Nat.reduceAdd,Nat.reduceMul,Int.reduceNeg,Nat.reduceLeDiff,List.length_cons,List.length_nil,true_and,and_true,Nat.zero_add,eq_self,Nat.reduceEqDiff,Int.reduceAdd,Int.reduceSub,Int.reduceMul,not_true_eq_false,not_false_eq_true,Nat.reduceLT,Int.reduceToNat,Int.reduceEq,Int.reduceNe,Int.reduceLT,Int.reduceLE,false_and,false_implies,true_implies]
        refine con_Mheld (by unfold inI; omega) (by omega) ?_
        rw [show max 0 (min 99 (rWo R i + wears R b i)) = min 99 (rWo R i + wears R b i) by omega]
        simp (disch := omega) only [cm_,aq_,ay_,ag_,b8_,af_,ba_,bc_,cp_,b3_,bg_,am_,ae_,ac_,b2_,bq_,ed_,bs_,ao_,c4_,a2_,az_,au_,a4_,dw_,d6_,ea_,d3_,b5_,b1_,fl_,fn_,fh_,fu_,fp_,fz_,fq_,fk_,fr_,ft_,fs_,f0_,c5_,bd_,c3_,ct_,cx_,co_,cr_,cf_,ch_,an_,cl_,dt_,dv_,du_,dr_,ds_,cd_,a9_,a8_,a7_,ce_,fv_,d1_,Int.toNat_natCast,eh_,b9_,f3_,di_,dm_,dn_,gv_,g1_,g4_,gx_,gu_,gs_,gm_,f4_,Int.add_zero,Int.zero_add,Int.ediv_one,Nat.reduceAdd,Nat.reduceMul,Int.reduceNeg,Nat.reduceLeDiff,List.length_cons,List.length_nil,true_and,and_true,Nat.zero_add,eq_self,Nat.reduceEqDiff,Int.reduceAdd,Int.reduceSub,Int.reduceMul,not_true_eq_false,not_false_eq_true,Nat.reduceLT,Int.reduceToNat,Int.reduceEq,Int.reduceNe,Int.reduceLT,Int.reduceLE,false_and,false_implies,true_implies]
        have hG1 := GR.setWo hGi (x := min 99 (rWo R i + wears R b i)) i (by omega)
        refine ⟨by omega, ?_⟩
        refine con_MhasBit (b := b) (i := i) (by omega) (by omega) (fun _ => ?_) (fun q => absurd (c.symm.trans q) (by decide))
        simp (disch := omega) only [cm_,aq_,ay_,ag_,b8_,af_,ba_,bc_,cp_,b3_,bg_,am_,ae_,ac_,b2_,bq_,ed_,bs_,ao_,c4_,a2_,az_,au_,a4_,dw_,d6_,ea_,d3_,b5_,b1_,fl_,fn_,fh_,fu_,fp_,fz_,fq_,fk_,fr_,ft_,fs_,f0_,c5_,bd_,c3_,ct_,cx_,co_,cr_,cf_,ch_,an_,cl_,dt_,dv_,du_,dr_,ds_,cd_,a9_,a8_,a7_,ce_,fv_,d1_,Int.toNat_natCast,eh_,b9_,f3_,di_,dm_,dn_,gv_,g1_,g4_,gx_,gu_,gs_,gm_,f4_,Int.add_zero,Int.zero_add,Int.ediv_one,Nat.reduceAdd,Nat.reduceMul,Int.reduceNeg,Nat.reduceLeDiff,List.length_cons,List.length_nil,true_and,and_true,Nat.zero_add,eq_self,Nat.reduceEqDiff,Int.reduceAdd,Int.reduceSub,Int.reduceMul,not_true_eq_false,not_false_eq_true,Nat.reduceLT,Int.reduceToNat,Int.reduceEq,Int.reduceNe,Int.reduceLT,Int.reduceLE,false_and,false_implies,true_implies,upI_s]
        refine ⟨by omega, ?_⟩
        refine con_MlastsOf (i := i) (by omega) hG1 ?_
        have el : lasts (sWo (stepM R b i) (upI (rWo (stepM R b i)) i (min 99 (rWo R i + wears R b i)))) i = lasts R i := rfl
        rw [el]
        simp (disch := omega) only [cm_,aq_,ay_,ag_,b8_,af_,ba_,bc_,cp_,b3_,bg_,am_,ae_,ac_,b2_,bq_,ed_,bs_,ao_,c4_,a2_,az_,au_,a4_,dw_,d6_,ea_,d3_,b5_,b1_,fl_,fn_,fh_,fu_,fp_,fz_,fq_,fk_,fr_,ft_,fs_,f0_,c5_,bd_,c3_,ct_,cx_,co_,cr_,cf_,ch_,an_,cl_,dt_,dv_,du_,dr_,ds_,cd_,a9_,a8_,a7_,ce_,fv_,d1_,Int.toNat_natCast,eh_,b9_,f3_,di_,dm_,dn_,gv_,g1_,g4_,gx_,gu_,gs_,gm_,f4_,Int.add_zero,Int.zero_add,Int.ediv_one,Nat.reduceAdd,Nat.reduceMul,Int.reduceNeg,Nat.reduceLeDiff,List.length_cons,List.length_nil,true_and,and_true,Nat.zero_add,eq_self,Nat.reduceEqDiff,Int.reduceAdd,Int.reduceSub,Int.reduceMul,not_true_eq_false,not_false_eq_true,Nat.reduceLT,Int.reduceToNat,Int.reduceEq,Int.reduceNe,Int.reduceLT,Int.reduceLE,false_and,false_implies,true_implies]
        refine ⟨fun c2 => ?_, fun c2 => ?_⟩
        · rw [stepM_s hG (w := min 99 (rWo R i + wears R b i)) (f := rFa R i) (by rw [if_pos c]) (by rw [if_neg (fun q => by have := q.2; omega)])] at step
          refine w_M_dayOn_113 ?_
          simp (disch := omega) only [cm_,aq_,ay_,ag_,b8_,af_,ba_,bc_,cp_,b3_,bg_,am_,ae_,ac_,b2_,bq_,ed_,bs_,ao_,c4_,a2_,az_,au_,a4_,dw_,d6_,ea_,d3_,b5_,b1_,fl_,fn_,fh_,fu_,fp_,fz_,fq_,fk_,fr_,ft_,fs_,f0_,c5_,bd_,c3_,ct_,cx_,co_,cr_,cf_,ch_,an_,cl_,dt_,dv_,du_,dr_,ds_,cd_,a9_,a8_,a7_,ce_,fv_,d1_,Int.toNat_natCast,eh_,b9_,f3_,di_,dm_,dn_,gv_,g1_,g4_,gx_,gu_,gs_,gm_,f4_,Int.add_zero,Int.zero_add,Int.ediv_one,Nat.reduceAdd,Nat.reduceMul,Int.reduceNeg,Nat.reduceLeDiff,List.length_cons,List.length_nil,true_and,and_true,Nat.zero_add,eq_self,Nat.reduceEqDiff,Int.reduceAdd,Int.reduceSub,Int.reduceMul,not_true_eq_false,not_false_eq_true,Nat.reduceLT,Int.reduceToNat,Int.reduceEq,Int.reduceNe,Int.reduceLT,Int.reduceLE,false_and,false_implies,true_implies,ef]
          refine ⟨by omega, ?_⟩
          refine w_M_dayOn_119 ?_
          simp (disch := omega) only [cm_,aq_,ay_,ag_,b8_,af_,ba_,bc_,cp_,b3_,bg_,am_,ae_,ac_,b2_,bq_,ed_,bs_,ao_,c4_,a2_,az_,au_,a4_,dw_,d6_,ea_,d3_,b5_,b1_,fl_,fn_,fh_,fu_,fp_,fz_,fq_,fk_,fr_,ft_,fs_,f0_,c5_,bd_,c3_,ct_,cx_,co_,cr_,cf_,ch_,an_,cl_,dt_,dv_,du_,dr_,ds_,cd_,a9_,a8_,a7_,ce_,fv_,d1_,Int.toNat_natCast,eh_,b9_,f3_,di_,dm_,dn_,gv_,g1_,g4_,gx_,gu_,gs_,gm_,f4_,Int.add_zero,Int.zero_add,Int.ediv_one,Nat.reduceAdd,Nat.reduceMul,Int.reduceNeg,Nat.reduceLeDiff,List.length_cons,List.length_nil,true_and,and_true,Nat.zero_add,eq_self,Nat.reduceEqDiff,Int.reduceAdd,Int.reduceSub,Int.reduceMul,not_true_eq_false,not_false_eq_true,Nat.reduceLT,Int.reduceToNat,Int.reduceEq,Int.reduceNe,Int.reduceLT,Int.reduceLE,false_and,false_implies,true_implies]
          exact ⟨by omega, step⟩
        · rw [stepM_s hG (w := min 99 (rWo R i + wears R b i)) (f := 2) (by rw [if_pos c]) (by rw [if_pos ⟨c, by omega⟩])] at step
          refine w_M_dayOn_119 ?_
          simp (disch := omega) only [cm_,aq_,ay_,ag_,b8_,af_,ba_,bc_,cp_,b3_,bg_,am_,ae_,ac_,b2_,bq_,ed_,bs_,ao_,c4_,a2_,az_,au_,a4_,dw_,d6_,ea_,d3_,b5_,b1_,fl_,fn_,fh_,fu_,fp_,fz_,fq_,fk_,fr_,ft_,fs_,f0_,c5_,bd_,c3_,ct_,cx_,co_,cr_,cf_,ch_,an_,cl_,dt_,dv_,du_,dr_,ds_,cd_,a9_,a8_,a7_,ce_,fv_,d1_,Int.toNat_natCast,eh_,b9_,f3_,di_,dm_,dn_,gv_,g1_,g4_,gx_,gu_,gs_,gm_,f4_,Int.add_zero,Int.zero_add,Int.ediv_one,Nat.reduceAdd,Nat.reduceMul,Int.reduceNeg,Nat.reduceLeDiff,List.length_cons,List.length_nil,true_and,and_true,Nat.zero_add,eq_self,Nat.reduceEqDiff,Int.reduceAdd,Int.reduceSub,Int.reduceMul,not_true_eq_false,not_false_eq_true,Nat.reduceLT,Int.reduceToNat,Int.reduceEq,Int.reduceNe,Int.reduceLT,Int.reduceLE,false_and,false_implies,true_implies]
          exact ⟨by omega, step⟩
      · simp (disch := omega) only [cm_,aq_,ay_,ag_,b8_,af_,ba_,bc_,cp_,b3_,bg_,am_,ae_,ac_,b2_,bq_,ed_,bs_,ao_,c4_,a2_,az_,au_,a4_,dw_,d6_,ea_,d3_,b5_,b1_,fl_,fn_,fh_,fu_,fp_,fz_,fq_,fk_,fr_,ft_,fs_,f0_,c5_,bd_,c3_,ct_,cx_,co_,cr_,cf_,ch_,an_,cl_,dt_,dv_,du_,dr_,ds_,cd_,a9_,a8_,a7_,ce_,fv_,d1_,Int.toNat_natCast,eh_,b9_,f3_,di_,dm_,dn_,gv_,g1_,g4_,gx_,gu_,gs_,gm_,f4_,Int.add_zero,Int.zero_add,Int.ediv_one,Nat.reduceAdd,Nat.reduceMul,Int.reduceNeg,Nat.reduceLeDiff,List.length_cons,List.length_nil,true_and,and_true,Nat.zero_add,eq_self,Nat.reduceEqDiff,Int.reduceAdd,Int.reduceSub,Int.reduceMul,not_true_eq_false,not_false_eq_true,Nat.reduceLT,Int.reduceToNat,Int.reduceEq,Int.reduceNe,Int.reduceLT,Int.reduceLE,false_and,false_implies,true_implies]
        refine w_M_dayOn_74 ?_
        simp (disch := omega) only [cm_,aq_,ay_,ag_,b8_,af_,ba_,bc_,cp_,b3_,bg_,am_,ae_,ac_,b2_,bq_,ed_,bs_,ao_,c4_,a2_,az_,au_,a4_,dw_,d6_,ea_,d3_,b5_,b1_,fl_,fn_,fh_,fu_,fp_,fz_,fq_,fk_,fr_,ft_,fs_,f0_,c5_,bd_,c3_,ct_,cx_,co_,cr_,cf_,ch_,an_,cl_,dt_,dv_,du_,dr_,ds_,cd_,a9_,a8_,a7_,ce_,fv_,d1_,Int.toNat_natCast,eh_,b9_,f3_,di_,dm_,dn_,gv_,g1_,g4_,gx_,gu_,gs_,gm_,f4_,Int.add_zero,Int.zero_add,Int.ediv_one,Nat.reduceAdd,Nat.reduceMul,Int.reduceNeg,Nat.reduceLeDiff,List.length_cons,List.length_nil,true_and,and_true,Nat.zero_add,eq_self,Nat.reduceEqDiff,Int.reduceAdd,Int.reduceSub,Int.reduceMul,not_true_eq_false,not_false_eq_true,Nat.reduceLT,Int.reduceToNat,Int.reduceEq,Int.reduceNe,Int.reduceLT,Int.reduceLE,false_and,false_implies,true_implies]
        refine w_M_dayOn_75 ?_
        simp (disch := omega) only [cm_,aq_,ay_,ag_,b8_,af_,ba_,bc_,cp_,b3_,bg_,am_,ae_,ac_,b2_,bq_,ed_,bs_,ao_,c4_,a2_,az_,au_,a4_,dw_,d6_,ea_,d3_,b5_,b1_,fl_,fn_,fh_,fu_,fp_,fz_,fq_,fk_,fr_,ft_,fs_,f0_,c5_,bd_,c3_,ct_,cx_,co_,cr_,cf_,ch_,an_,cl_,dt_,dv_,du_,dr_,ds_,cd_,a9_,a8_,a7_,ce_,fv_,d1_,Int.toNat_natCast,eh_,b9_,f3_,di_,dm_,dn_,gv_,g1_,g4_,gx_,gu_,gs_,gm_,f4_,Int.add_zero,Int.zero_add,Int.ediv_one,Nat.reduceAdd,Nat.reduceMul,Int.reduceNeg,Nat.reduceLeDiff,List.length_cons,List.length_nil,true_and,and_true,Nat.zero_add,eq_self,Nat.reduceEqDiff,Int.reduceAdd,Int.reduceSub,Int.reduceMul,not_true_eq_false,not_false_eq_true,Nat.reduceLT,Int.reduceToNat,Int.reduceEq,Int.reduceNe,Int.reduceLT,Int.reduceLE,false_and,false_implies,true_implies]
        refine con_Mheld (by unfold inI; omega) (by omega) ?_
        rw [show max 0 (min 99 (rWo R i)) = rWo R i by omega]
        have c' : ¬ b.testBit i = true := by rw [c]; decide
        rw [stepM_s hG (w := rWo R i) (f := rFa R i) (by rw [if_neg c']) (by rw [if_neg (fun q => c' q.1)])] at step
        simp (disch := omega) only [cm_,aq_,ay_,ag_,b8_,af_,ba_,bc_,cp_,b3_,bg_,am_,ae_,ac_,b2_,bq_,ed_,bs_,ao_,c4_,a2_,az_,au_,a4_,dw_,d6_,ea_,d3_,b5_,b1_,fl_,fn_,fh_,fu_,fp_,fz_,fq_,fk_,fr_,ft_,fs_,f0_,c5_,bd_,c3_,ct_,cx_,co_,cr_,cf_,ch_,an_,cl_,dt_,dv_,du_,dr_,ds_,cd_,a9_,a8_,a7_,ce_,fv_,d1_,Int.toNat_natCast,eh_,b9_,f3_,di_,dm_,dn_,gv_,g1_,g4_,gx_,gu_,gs_,gm_,f4_,Int.add_zero,Int.zero_add,Int.ediv_one,Nat.reduceAdd,Nat.reduceMul,Int.reduceNeg,Nat.reduceLeDiff,List.length_cons,List.length_nil,true_and,and_true,Nat.zero_add,eq_self,Nat.reduceEqDiff,Int.reduceAdd,Int.reduceSub,Int.reduceMul,not_true_eq_false,not_false_eq_true,Nat.reduceLT,Int.reduceToNat,Int.reduceEq,Int.reduceNe,Int.reduceLT,Int.reduceLE,false_and,false_implies,true_implies]
        refine ⟨by omega, ?_⟩
        refine con_MhasBit (b := b) (i := i) (by omega) (by omega) (fun q => absurd q c') (fun _ => ?_)
        simp (disch := omega) only [cm_,aq_,ay_,ag_,b8_,af_,ba_,bc_,cp_,b3_,bg_,am_,ae_,ac_,b2_,bq_,ed_,bs_,ao_,c4_,a2_,az_,au_,a4_,dw_,d6_,ea_,d3_,b5_,b1_,fl_,fn_,fh_,fu_,fp_,fz_,fq_,fk_,fr_,ft_,fs_,f0_,c5_,bd_,c3_,ct_,cx_,co_,cr_,cf_,ch_,an_,cl_,dt_,dv_,du_,dr_,ds_,cd_,a9_,a8_,a7_,ce_,fv_,d1_,Int.toNat_natCast,eh_,b9_,f3_,di_,dm_,dn_,gv_,g1_,g4_,gx_,gu_,gs_,gm_,f4_,Int.add_zero,Int.zero_add,Int.ediv_one,Nat.reduceAdd,Nat.reduceMul,Int.reduceNeg,Nat.reduceLeDiff,List.length_cons,List.length_nil,true_and,and_true,Nat.zero_add,eq_self,Nat.reduceEqDiff,Int.reduceAdd,Int.reduceSub,Int.reduceMul,not_true_eq_false,not_false_eq_true,Nat.reduceLT,Int.reduceToNat,Int.reduceEq,Int.reduceNe,Int.reduceLT,Int.reduceLE,false_and,false_implies,true_implies]
        refine w_M_dayOn_113 ?_
        simp (disch := omega) only [cm_,aq_,ay_,ag_,b8_,af_,ba_,bc_,cp_,b3_,bg_,am_,ae_,ac_,b2_,bq_,ed_,bs_,ao_,c4_,a2_,az_,au_,a4_,dw_,d6_,ea_,d3_,b5_,b1_,fl_,fn_,fh_,fu_,fp_,fz_,fq_,fk_,fr_,ft_,fs_,f0_,c5_,bd_,c3_,ct_,cx_,co_,cr_,cf_,ch_,an_,cl_,dt_,dv_,du_,dr_,ds_,cd_,a9_,a8_,a7_,ce_,fv_,d1_,Int.toNat_natCast,eh_,b9_,f3_,di_,dm_,dn_,gv_,g1_,g4_,gx_,gu_,gs_,gm_,f4_,Int.add_zero,Int.zero_add,Int.ediv_one,Nat.reduceAdd,Nat.reduceMul,Int.reduceNeg,Nat.reduceLeDiff,List.length_cons,List.length_nil,true_and,and_true,Nat.zero_add,eq_self,Nat.reduceEqDiff,Int.reduceAdd,Int.reduceSub,Int.reduceMul,not_true_eq_false,not_false_eq_true,Nat.reduceLT,Int.reduceToNat,Int.reduceEq,Int.reduceNe,Int.reduceLT,Int.reduceLE,false_and,false_implies,true_implies,ef]
        refine ⟨by omega, ?_⟩
        refine w_M_dayOn_119 ?_
        simp (disch := omega) only [cm_,aq_,ay_,ag_,b8_,af_,ba_,bc_,cp_,b3_,bg_,am_,ae_,ac_,b2_,bq_,ed_,bs_,ao_,c4_,a2_,az_,au_,a4_,dw_,d6_,ea_,d3_,b5_,b1_,fl_,fn_,fh_,fu_,fp_,fz_,fq_,fk_,fr_,ft_,fs_,f0_,c5_,bd_,c3_,ct_,cx_,co_,cr_,cf_,ch_,an_,cl_,dt_,dv_,du_,dr_,ds_,cd_,a9_,a8_,a7_,ce_,fv_,d1_,Int.toNat_natCast,eh_,b9_,f3_,di_,dm_,dn_,gv_,g1_,g4_,gx_,gu_,gs_,gm_,f4_,Int.add_zero,Int.zero_add,Int.ediv_one,Nat.reduceAdd,Nat.reduceMul,Int.reduceNeg,Nat.reduceLeDiff,List.length_cons,List.length_nil,true_and,and_true,Nat.zero_add,eq_self,Nat.reduceEqDiff,Int.reduceAdd,Int.reduceSub,Int.reduceMul,not_true_eq_false,not_false_eq_true,Nat.reduceLT,Int.reduceToNat,Int.reduceEq,Int.reduceNe,Int.reduceLT,Int.reduceLE,false_and,false_implies,true_implies]
        exact ⟨by omega, step⟩
  have e0 : stepM R b 0 = R := by
    have e1 : (fun k => if k < 0 ∧ b.testBit k = true then min 99 (rWo R k + wears R b k) else rWo R k) = rWo R := by
      funext k
      rw [if_neg (by omega)]
    have e2 : (fun k => if k < 0 ∧ b.testBit k = true ∧ lasts R k ≤ min 99 (rWo R k + wears R b k) then 2 else rFa R k) = rFa R := by
      funext k
      rw [if_neg (by omega)]
    show mkR (rSl R) (rKi R) (rFi R) (fun k => if k < 0 ∧ b.testBit k = true ∧ lasts R k ≤ min 99 (rWo R k + wears R b k) then 2 else rFa R k) (fun k => if k < 0 ∧ b.testBit k = true then min 99 (rWo R k + wears R b k) else rWo R k) (rMen R) (hd_ R) (rLoad R) (rSnow R) (hh_ R) = R
    rw [e1, e2]
    exact f4_ R
  have l0 := loop (hb_ R) 0 (Nat.zero_add _)
  rw [e0] at l0
  exact l0
theorem con_MdayOn (hG : GR R) (hI : Inv R) (hQ : Q none (HM (dayX R) rf lt lsz a0 ib sm pl lo nu kp ig hmg p0 tk ki tu tz tf tn tsz ga sd bb)) : Con M_M_dayOn [.ref 90] (HM R rf lt lsz a0 ib sm pl lo nu kp ig hmg p0 tk ki tu tz tf tn tsz ga sd bb) Q := by
  have gk := hG.king
  have gs := hG.snow
  have hGd : GR (sDay R (hh_ R + 1)) := hG.day _
  simp only [dayX] at hQ
  refine g8_ (L := [some (.ref 90), none, none, none]) ok_M_dayOn (Nat.le_of_ble_eq_true rfl) rfl ?_
  refine w_M_dayOn_0 ?_
  simp (disch := omega) only [cm_,aq_,ay_,ag_,b8_,af_,ba_,bc_,cp_,b3_,bg_,am_,ae_,ac_,b2_,bq_,ed_,bs_,ao_,c4_,a2_,az_,au_,a4_,dw_,d6_,ea_,d3_,b5_,b1_,fl_,fn_,fh_,fu_,fp_,fz_,fq_,fk_,fr_,ft_,fs_,f0_,c5_,bd_,c3_,ct_,cx_,co_,cr_,cf_,ch_,an_,cl_,dt_,dv_,du_,dr_,ds_,cd_,a9_,a8_,a7_,ce_,fv_,d1_,Int.toNat_natCast,eh_,b9_,f3_,di_,dm_,dn_,gv_,g1_,g4_,gx_,gu_,gs_,gm_,f4_,Int.add_zero,Int.zero_add,Int.ediv_one,Nat.reduceAdd,Nat.reduceMul,Int.reduceNeg,Nat.reduceLeDiff,List.length_cons,List.length_nil,true_and,and_true,Nat.zero_add,eq_self,Nat.reduceEqDiff,Int.reduceAdd,Int.reduceSub,Int.reduceMul,not_true_eq_false,not_false_eq_true,Nat.reduceLT,Int.reduceToNat,Int.reduceEq,Int.reduceNe,Int.reduceLT,Int.reduceLE,false_and,false_implies,true_implies]
  refine ⟨fun c => ?_, fun c => ?_⟩
  · rw [if_neg c] at hQ
    have em : rMen (sDay R (hh_ R + 1)) = rMen R := rfl
    have e := dayM_eq (R := sDay R (hh_ R + 1)) hGd hI
    rw [← e] at hQ
    refine w_M_dayOn_20 ?_
    simp (disch := omega) only [cm_,aq_,ay_,ag_,b8_,af_,ba_,bc_,cp_,b3_,bg_,am_,ae_,ac_,b2_,bq_,ed_,bs_,ao_,c4_,a2_,az_,au_,a4_,dw_,d6_,ea_,d3_,b5_,b1_,fl_,fn_,fh_,fu_,fp_,fz_,fq_,fk_,fr_,ft_,fs_,f0_,c5_,bd_,c3_,ct_,cx_,co_,cr_,cf_,ch_,an_,cl_,dt_,dv_,du_,dr_,ds_,cd_,a9_,a8_,a7_,ce_,fv_,d1_,Int.toNat_natCast,eh_,b9_,f3_,di_,dm_,dn_,gv_,g1_,g4_,gx_,gu_,gs_,gm_,f4_,Int.add_zero,Int.zero_add,Int.ediv_one,Nat.reduceAdd,Nat.reduceMul,Int.reduceNeg,Nat.reduceLeDiff,List.length_cons,List.length_nil,true_and,and_true,Nat.zero_add,eq_self,Nat.reduceEqDiff,Int.reduceAdd,Int.reduceSub,Int.reduceMul,not_true_eq_false,not_false_eq_true,Nat.reduceLT,Int.reduceToNat,Int.reduceEq,Int.reduceNe,Int.reduceLT,Int.reduceLE,false_and,false_implies,true_implies]
    refine con_MbearersNow hGd ?_
    have ek : hd_ (sDay R (hh_ R + 1)) = hd_ R := rfl
    rw [ek, if_neg c]
    simp (disch := omega) only [cm_,aq_,ay_,ag_,b8_,af_,ba_,bc_,cp_,b3_,bg_,am_,ae_,ac_,b2_,bq_,ed_,bs_,ao_,c4_,a2_,az_,au_,a4_,dw_,d6_,ea_,d3_,b5_,b1_,fl_,fn_,fh_,fu_,fp_,fz_,fq_,fk_,fr_,ft_,fs_,f0_,c5_,bd_,c3_,ct_,cx_,co_,cr_,cf_,ch_,an_,cl_,dt_,dv_,du_,dr_,ds_,cd_,a9_,a8_,a7_,ce_,fv_,d1_,Int.toNat_natCast,eh_,b9_,f3_,di_,dm_,dn_,gv_,g1_,g4_,gx_,gu_,gs_,gm_,f4_,Int.add_zero,Int.zero_add,Int.ediv_one,Nat.reduceAdd,Nat.reduceMul,Int.reduceNeg,Nat.reduceLeDiff,List.length_cons,List.length_nil,true_and,and_true,Nat.zero_add,eq_self,Nat.reduceEqDiff,Int.reduceAdd,Int.reduceSub,Int.reduceMul,not_true_eq_false,not_false_eq_true,Nat.reduceLT,Int.reduceToNat,Int.reduceEq,Int.reduceNe,Int.reduceLT,Int.reduceLE,false_and,false_implies,true_implies]
    refine ⟨by omega, ?_⟩
    have es : rSl R (hd_ R).toNat = slH (sDay R (hh_ R + 1)) := by
      show _ = if hd_ R < 12 then rSl R (hd_ R).toNat else 0
      rw [if_pos (by omega)]
    rw [es]
    refine con_MdayLoop (brF_256 hGd) (brF_low _) hGd ?_
    have hGs := hGd.stM (brF (sDay R (hh_ R + 1))) (hb_ (sDay R (hh_ R + 1)))
    have ez : brF (sDay R (hh_ R + 1)) = 0 → stepM (sDay R (hh_ R + 1)) (brF (sDay R (hh_ R + 1))) (hb_ (sDay R (hh_ R + 1))) = sDay R (hh_ R + 1) := fun q => by rw [q]; exact stepM_0 _ _
    have k1 : hd_ (stepM (sDay R (hh_ R + 1)) (brF (sDay R (hh_ R + 1))) (hb_ (sDay R (hh_ R + 1)))) = hd_ R := rfl
    have k2 : rSnow (stepM (sDay R (hh_ R + 1)) (brF (sDay R (hh_ R + 1))) (hb_ (sDay R (hh_ R + 1)))) = rSnow R := rfl
    have k3 := brF_256 hGd
    revert hQ
    generalize stepM (sDay R (hh_ R + 1)) (brF (sDay R (hh_ R + 1))) (hb_ (sDay R (hh_ R + 1))) = S at *
    generalize brF (sDay R (hh_ R + 1)) = B at *
    intro hQ
    refine w_M_dayOn_126 ?_
    simp (disch := omega) only [cm_,aq_,ay_,ag_,b8_,af_,ba_,bc_,cp_,b3_,bg_,am_,ae_,ac_,b2_,bq_,ed_,bs_,ao_,c4_,a2_,az_,au_,a4_,dw_,d6_,ea_,d3_,b5_,b1_,fl_,fn_,fh_,fu_,fp_,fz_,fq_,fk_,fr_,ft_,fs_,f0_,c5_,bd_,c3_,ct_,cx_,co_,cr_,cf_,ch_,an_,cl_,dt_,dv_,du_,dr_,ds_,cd_,a9_,a8_,a7_,ce_,fv_,d1_,Int.toNat_natCast,eh_,b9_,f3_,di_,dm_,dn_,gv_,g1_,g4_,gx_,gu_,gs_,gm_,f4_,Int.add_zero,Int.zero_add,Int.ediv_one,Nat.reduceAdd,Nat.reduceMul,Int.reduceNeg,Nat.reduceLeDiff,List.length_cons,List.length_nil,true_and,and_true,Nat.zero_add,eq_self,Nat.reduceEqDiff,Int.reduceAdd,Int.reduceSub,Int.reduceMul,not_true_eq_false,not_false_eq_true,Nat.reduceLT,Int.reduceToNat,Int.reduceEq,Int.reduceNe,Int.reduceLT,Int.reduceLE,false_and,false_implies,true_implies,k1]
    refine ⟨fun c2 => ?_, fun c2 => ?_⟩
    · rw [if_neg (by omega)] at hQ
      refine w_M_dayOn_139 ?_
      simp (disch := omega) only [cm_,aq_,ay_,ag_,b8_,af_,ba_,bc_,cp_,b3_,bg_,am_,ae_,ac_,b2_,bq_,ed_,bs_,ao_,c4_,a2_,az_,au_,a4_,dw_,d6_,ea_,d3_,b5_,b1_,fl_,fn_,fh_,fu_,fp_,fz_,fq_,fk_,fr_,ft_,fs_,f0_,c5_,bd_,c3_,ct_,cx_,co_,cr_,cf_,ch_,an_,cl_,dt_,dv_,du_,dr_,ds_,cd_,a9_,a8_,a7_,ce_,fv_,d1_,Int.toNat_natCast,eh_,b9_,f3_,di_,dm_,dn_,gv_,g1_,g4_,gx_,gu_,gs_,gm_,f4_,Int.add_zero,Int.zero_add,Int.ediv_one,Nat.reduceAdd,Nat.reduceMul,Int.reduceNeg,Nat.reduceLeDiff,List.length_cons,List.length_nil,true_and,and_true,Nat.zero_add,eq_self,Nat.reduceEqDiff,Int.reduceAdd,Int.reduceSub,Int.reduceMul,not_true_eq_false,not_false_eq_true,Nat.reduceLT,Int.reduceToNat,Int.reduceEq,Int.reduceNe,Int.reduceLT,Int.reduceLE,false_and,false_implies,true_implies]
      refine w_M_dayOn_140 ?_
      simp (disch := omega) only [cm_,aq_,ay_,ag_,b8_,af_,ba_,bc_,cp_,b3_,bg_,am_,ae_,ac_,b2_,bq_,ed_,bs_,ao_,c4_,a2_,az_,au_,a4_,dw_,d6_,ea_,d3_,b5_,b1_,fl_,fn_,fh_,fu_,fp_,fz_,fq_,fk_,fr_,ft_,fs_,f0_,c5_,bd_,c3_,ct_,cx_,co_,cr_,cf_,ch_,an_,cl_,dt_,dv_,du_,dr_,ds_,cd_,a9_,a8_,a7_,ce_,fv_,d1_,Int.toNat_natCast,eh_,b9_,f3_,di_,dm_,dn_,gv_,g1_,g4_,gx_,gu_,gs_,gm_,f4_,Int.add_zero,Int.zero_add,Int.ediv_one,Nat.reduceAdd,Nat.reduceMul,Int.reduceNeg,Nat.reduceLeDiff,List.length_cons,List.length_nil,true_and,and_true,Nat.zero_add,eq_self,Nat.reduceEqDiff,Int.reduceAdd,Int.reduceSub,Int.reduceMul,not_true_eq_false,not_false_eq_true,Nat.reduceLT,Int.reduceToNat,Int.reduceEq,Int.reduceNe,Int.reduceLT,Int.reduceLE,false_and,false_implies,true_implies,k1,k2]
      refine con_Mheld (by unfold inI; omega) (by omega) ?_
      rw [show max 0 (min 9 (rSnow R - 1)) = max 0 (rSnow R - 1) by omega]
      simp (disch := omega) only [cm_,aq_,ay_,ag_,b8_,af_,ba_,bc_,cp_,b3_,bg_,am_,ae_,ac_,b2_,bq_,ed_,bs_,ao_,c4_,a2_,az_,au_,a4_,dw_,d6_,ea_,d3_,b5_,b1_,fl_,fn_,fh_,fu_,fp_,fz_,fq_,fk_,fr_,ft_,fs_,f0_,c5_,bd_,c3_,ct_,cx_,co_,cr_,cf_,ch_,an_,cl_,dt_,dv_,du_,dr_,ds_,cd_,a9_,a8_,a7_,ce_,fv_,d1_,Int.toNat_natCast,eh_,b9_,f3_,di_,dm_,dn_,gv_,g1_,g4_,gx_,gu_,gs_,gm_,f4_,Int.add_zero,Int.zero_add,Int.ediv_one,Nat.reduceAdd,Nat.reduceMul,Int.reduceNeg,Nat.reduceLeDiff,List.length_cons,List.length_nil,true_and,and_true,Nat.zero_add,eq_self,Nat.reduceEqDiff,Int.reduceAdd,Int.reduceSub,Int.reduceMul,not_true_eq_false,not_false_eq_true,Nat.reduceLT,Int.reduceToNat,Int.reduceEq,Int.reduceNe,Int.reduceLT,Int.reduceLE,false_and,false_implies,true_implies]
      have e2 : coldX (sKing S (hd_ (sDay R (hh_ R + 1)) + 1)) = mkR (rSl S) (rKi S) (rFi S) (rFa S) (rWo S) (rMen S) (hd_ R + 1) (rLoad S) (max 0 (rSnow S - 1)) (hh_ S) := rfl
      rw [e2, k2] at hQ
      exact hQ
    · have c3 : B = 0 := by omega
      rw [if_pos c3, ← ez c3] at hQ
      refine w_M_dayOn_140 ?_
      simp (disch := omega) only [cm_,aq_,ay_,ag_,b8_,af_,ba_,bc_,cp_,b3_,bg_,am_,ae_,ac_,b2_,bq_,ed_,bs_,ao_,c4_,a2_,az_,au_,a4_,dw_,d6_,ea_,d3_,b5_,b1_,fl_,fn_,fh_,fu_,fp_,fz_,fq_,fk_,fr_,ft_,fs_,f0_,c5_,bd_,c3_,ct_,cx_,co_,cr_,cf_,ch_,an_,cl_,dt_,dv_,du_,dr_,ds_,cd_,a9_,a8_,a7_,ce_,fv_,d1_,Int.toNat_natCast,eh_,b9_,f3_,di_,dm_,dn_,gv_,g1_,g4_,gx_,gu_,gs_,gm_,f4_,Int.add_zero,Int.zero_add,Int.ediv_one,Nat.reduceAdd,Nat.reduceMul,Int.reduceNeg,Nat.reduceLeDiff,List.length_cons,List.length_nil,true_and,and_true,Nat.zero_add,eq_self,Nat.reduceEqDiff,Int.reduceAdd,Int.reduceSub,Int.reduceMul,not_true_eq_false,not_false_eq_true,Nat.reduceLT,Int.reduceToNat,Int.reduceEq,Int.reduceNe,Int.reduceLT,Int.reduceLE,false_and,false_implies,true_implies,k1,k2]
      refine con_Mheld (by unfold inI; omega) (by omega) ?_
      rw [show max 0 (min 9 (rSnow R - 1)) = max 0 (rSnow R - 1) by omega]
      simp (disch := omega) only [cm_,aq_,ay_,ag_,b8_,af_,ba_,bc_,cp_,b3_,bg_,am_,ae_,ac_,b2_,bq_,ed_,bs_,ao_,c4_,a2_,az_,au_,a4_,dw_,d6_,ea_,d3_,b5_,b1_,fl_,fn_,fh_,fu_,fp_,fz_,fq_,fk_,fr_,ft_,fs_,f0_,c5_,bd_,c3_,ct_,cx_,co_,cr_,cf_,ch_,an_,cl_,dt_,dv_,du_,dr_,ds_,cd_,a9_,a8_,a7_,ce_,fv_,d1_,Int.toNat_natCast,eh_,b9_,f3_,di_,dm_,dn_,gv_,g1_,g4_,gx_,gu_,gs_,gm_,f4_,Int.add_zero,Int.zero_add,Int.ediv_one,Nat.reduceAdd,Nat.reduceMul,Int.reduceNeg,Nat.reduceLeDiff,List.length_cons,List.length_nil,true_and,and_true,Nat.zero_add,eq_self,Nat.reduceEqDiff,Int.reduceAdd,Int.reduceSub,Int.reduceMul,not_true_eq_false,not_false_eq_true,Nat.reduceLT,Int.reduceToNat,Int.reduceEq,Int.reduceNe,Int.reduceLT,Int.reduceLE,false_and,false_implies,true_implies]
      have e2 : coldX S = mkR (rSl S) (rKi S) (rFi S) (rFa S) (rWo S) (rMen S) (hd_ S) (rLoad S) (max 0 (rSnow S - 1)) (hh_ S) := rfl
      rw [e2, k2, k1] at hQ
      exact hQ
  · rw [if_pos (by omega)] at hQ
    exact hQ
end D5
end
/-! carry -/
section
/-! ===== the reference: what is carried into a row of numbers and back ===== -/
def NR (R : RR) : Prop := (∀ j, 12 ≤ j → rSl R j = 0) ∧ (∀ j, 8 ≤ j → rKi R j = 0) ∧ (∀ j, 8 ≤ j → rFi R j = 0) ∧ (∀ j, 8 ≤ j → rFa R j = 0) ∧ (∀ j, 8 ≤ j → rWo R j = 0)
def fl (R : RR) (j : Nat) : Int := if j = 0 then rMen R else if j = 1 then hd_ R else if j = 2 then rLoad R else if j = 3 then rSnow R else if j = 4 then hh_ R else if j < 17 then rSl R (j - 5) else if (j - 17) % 4 = 0 then rKi R ((j - 17) / 4) else if (j - 17) % 4 = 1 then rFi R ((j - 17) / 4) else if (j - 17) % 4 = 2 then rFa R ((j - 17) / 4) else rWo R ((j - 17) / 4)
theorem fl_0 (R : RR) : fl R 0 = rMen R := id rfl
theorem fl_1 (R : RR) : fl R 1 = hd_ R := id rfl
theorem fl_2 (R : RR) : fl R 2 = rLoad R := id rfl
theorem fl_3 (R : RR) : fl R 3 = rSnow R := id rfl
theorem fl_4 (R : RR) : fl R 4 = hh_ R := id rfl
theorem fl_s (R : RR) {s : Nat} (hs : s < 12) : fl R (5 + s) = rSl R s := by
  simp only [fl]
  rw [if_neg (by omega), if_neg (by omega), if_neg (by omega), if_neg (by omega), if_neg (by omega), if_pos (by omega), show 5 + s - 5 = s by omega]
theorem fl_k (R : RR) (m : Nat) : fl R (17 + 4 * m) = rKi R m := by
  simp only [fl]
  rw [if_neg (by omega), if_neg (by omega), if_neg (by omega), if_neg (by omega), if_neg (by omega), if_neg (by omega), if_pos (by omega), show (17 + 4 * m - 17) / 4 = m by omega]
theorem fl_f (R : RR) (m : Nat) : fl R (17 + 4 * m + 1) = rFi R m := by
  simp only [fl]
  rw [if_neg (by omega), if_neg (by omega), if_neg (by omega), if_neg (by omega), if_neg (by omega), if_neg (by omega), if_neg (by omega), if_pos (by omega), show (17 + 4 * m + 1 - 17) / 4 = m by omega]
theorem fl_a (R : RR) (m : Nat) : fl R (17 + 4 * m + 2) = rFa R m := by
  simp only [fl]
  rw [if_neg (by omega), if_neg (by omega), if_neg (by omega), if_neg (by omega), if_neg (by omega), if_neg (by omega), if_neg (by omega), if_neg (by omega), if_pos (by omega), show (17 + 4 * m + 2 - 17) / 4 = m by omega]
theorem fl_w (R : RR) (m : Nat) : fl R (17 + 4 * m + 3) = rWo R m := by
  simp only [fl]
  rw [if_neg (by omega), if_neg (by omega), if_neg (by omega), if_neg (by omega), if_neg (by omega), if_neg (by omega), if_neg (by omega), if_neg (by omega), if_neg (by omega), show (17 + 4 * m + 3 - 17) / 4 = m by omega]
def mixI (f g : Nat → Int) (n : Nat) : Nat → Int := fun j => if j < n then f j else g j
theorem mix_0 (f g : Nat → Int) : mixI f g 0 = g := by funext j; simp [mixI]
theorem mix_s (f g : Nat → Int) (n : Nat) : upI (mixI f g n) n (f n) = mixI f g (n + 1) := by
  funext j
  simp only [upI, mixI]
  by_cases e : j = n
  · subst e; rw [if_pos rfl, if_pos (by omega)]
  · rw [if_neg e]
    by_cases q : j < n
    · rw [if_pos q, if_pos (by omega)]
    · rw [if_neg q, if_neg (by omega)]
theorem mix_all {f g : Nat → Int} {n : Nat} (h : ∀ j, n ≤ j → f j = g j) : mixI f g n = f := by
  funext j
  simp only [mixI]
  by_cases q : j < n
  · rw [if_pos q]
  · rw [if_neg q, h j (by omega)]
theorem upI_id (f : Nat → Int) (k : Nat) : upI f k (f k) = f := by
  funext j
  simp only [upI]
  by_cases e : j = k
  · subst e; rw [if_pos rfl]
  · rw [if_neg e]
theorem sSl_id (R : RR) : sSl R (rSl R) = R := f4_ R
theorem sKi_id (R : RR) : sKi R (rKi R) = R := f4_ R
theorem sFi_id (R : RR) : sFi R (rFi R) = R := f4_ R
theorem sFa_id (R : RR) : sFa R (rFa R) = R := f4_ R
theorem sWo_id (R : RR) : sWo R (rWo R) = R := f4_ R
section D6
variable {R : RR} {rf : Nat → Int} {lt : Nat → Int} {lsz : Int} {a0 : Int} {ib : Int} {sm : Int} {pl : Nat → Int} {lo : Nat → Int} {nu : Nat → Int} {kp : Nat → Int} {ig : Nat → Int} {hmg : Int} {p0 : Int} {tk : Int} {ki : Value} {tu : Nat → Int} {tz : Int} {tf : Nat → Int} {tn : Nat → Int} {tsz : Int} {ga : Nat → Int} {sd : Int} {bb : AH} {Q : Option Value → AH → Prop}
theorem con_cT_K {F : Nat → Int} {p : Nat} {v : Int} (hp : p < 49) (hk : ∀ j, j < p → kp j = F j) (hv : v = F p) (hQ : ∀ x : Nat → Int, (∀ j, j < p + 1 → x j = F j) → Q (some (.int (zI v))) (HM R rf lt lsz a0 ib sm pl lo nu (x) ig hmg (((p + 1 : Nat) : Int)) (1) (.ref 101) tu tz tf tn tsz ga sd bb)) : Con M_M_carry [.ref 90, .int (zI v)] (HM R rf lt lsz a0 ib sm pl lo nu kp ig hmg ((p : Int)) (1) (.ref 101) tu tz tf tn tsz ga sd bb) Q := by
  have kk := hQ (upI kp p v) (fun j hj => by
    simp only [upI]
    by_cases e : j = p
    · subst e; rw [if_pos rfl, hv]
    · rw [if_neg e, hk j (by omega)])
  have e : ((p + 1 : Nat) : Int) - 1 = (p : Int) := by omega
  refine g8_ (L := [some (.ref 90), some (.int (zI v))]) ok_M_carry (Nat.le_of_ble_eq_true rfl) rfl ?_
  refine w_M_carry_0 ?_
  simp (disch := omega) only [cm_,aq_,ay_,ag_,b8_,af_,ba_,bc_,bg_,am_,ae_,ac_,b2_,bj_,bq_,ed_,bs_,ao_,c4_,az_,dw_,d6_,ea_,d3_,b5_,fl_,fn_,fh_,fu_,fp_,fz_,fq_,fk_,fr_,ft_,fs_,f0_,c5_,bd_,c3_,ck_,c2_,ct_,cr_,cf_,ch_,an_,cl_,dt_,dv_,du_,dr_,ds_,cd_,a9_,a8_,a7_,ce_,fy_,fv_,d1_,d0_,Int.toNat_natCast,f3_,di_,dm_,dn_,gv_,g1_,g0_,gz_,g4_,gx_,gk_,gi_,gj_,gu_,gt_,go_,gn_,gs_,gm_,f7_,f5_,f8_,f4_,Int.add_zero,Int.zero_add,Int.ediv_one,Nat.reduceAdd,Nat.reduceMul,Int.reduceNeg,Nat.reduceLeDiff,List.length_cons,List.length_nil,true_and,and_true,Nat.zero_add,eq_self,Nat.reduceEqDiff,Int.reduceAdd,Int.reduceSub,Int.reduceMul,not_true_eq_false,not_false_eq_true,Nat.reduceLT,Int.reduceToNat,Int.reduceEq,Int.reduceNe,Int.reduceLT,Int.reduceLE,or_true,or_false,and_false,false_and,false_implies,true_implies]
  refine ⟨by omega, ?_⟩
  refine w_M_carry_17 ?_
  simp (disch := omega) only [cm_,aq_,ay_,ag_,b8_,af_,ba_,bc_,bg_,am_,ae_,ac_,b2_,bj_,bq_,ed_,bs_,ao_,c4_,az_,dw_,d6_,ea_,d3_,b5_,fl_,fn_,fh_,fu_,fp_,fz_,fq_,fk_,fr_,ft_,fs_,f0_,c5_,bd_,c3_,ck_,c2_,ct_,cr_,cf_,ch_,an_,cl_,dt_,dv_,du_,dr_,ds_,cd_,a9_,a8_,a7_,ce_,fy_,fv_,d1_,d0_,Int.toNat_natCast,f3_,di_,dm_,dn_,gv_,g1_,g0_,gz_,g4_,gx_,gk_,gi_,gj_,gu_,gt_,go_,gn_,gs_,gm_,f7_,f5_,f8_,f4_,Int.add_zero,Int.zero_add,Int.ediv_one,Nat.reduceAdd,Nat.reduceMul,Int.reduceNeg,Nat.reduceLeDiff,List.length_cons,List.length_nil,true_and,and_true,Nat.zero_add,eq_self,Nat.reduceEqDiff,Int.reduceAdd,Int.reduceSub,Int.reduceMul,not_true_eq_false,not_false_eq_true,Nat.reduceLT,Int.reduceToNat,Int.reduceEq,Int.reduceNe,Int.reduceLT,Int.reduceLE,or_true,or_false,and_false,false_and,false_implies,true_implies,e,upI_s]
  exact ⟨by omega, kk⟩
theorem con_cG_K {p : Nat} {v : Int} (hp : p < 49) (hQ : Q (some (.int (zI (kp p)))) (HM R rf lt lsz a0 ib sm pl lo nu kp ig hmg (((p + 1 : Nat) : Int)) (0) (.ref 101) tu tz tf tn tsz ga sd bb)) : Con M_M_carry [.ref 90, .int (zI v)] (HM R rf lt lsz a0 ib sm pl lo nu kp ig hmg ((p : Int)) (0) (.ref 101) tu tz tf tn tsz ga sd bb) Q := by
  have e : ((p + 1 : Nat) : Int) - 1 = (p : Int) := by omega
  refine g8_ (L := [some (.ref 90), some (.int (zI v))]) ok_M_carry (Nat.le_of_ble_eq_true rfl) rfl ?_
  refine w_M_carry_0 ?_
  simp (disch := omega) only [cm_,aq_,ay_,ag_,b8_,af_,ba_,bc_,bg_,am_,ae_,ac_,b2_,bj_,bq_,ed_,bs_,ao_,c4_,az_,dw_,d6_,ea_,d3_,b5_,fl_,fn_,fh_,fu_,fp_,fz_,fq_,fk_,fr_,ft_,fs_,f0_,c5_,bd_,c3_,ck_,c2_,ct_,cr_,cf_,ch_,an_,cl_,dt_,dv_,du_,dr_,ds_,cd_,a9_,a8_,a7_,ce_,fy_,fv_,d1_,d0_,Int.toNat_natCast,f3_,di_,dm_,dn_,gv_,g1_,g0_,gz_,g4_,gx_,gk_,gi_,gj_,gu_,gt_,go_,gn_,gs_,gm_,f7_,f5_,f8_,f4_,Int.add_zero,Int.zero_add,Int.ediv_one,Nat.reduceAdd,Nat.reduceMul,Int.reduceNeg,Nat.reduceLeDiff,List.length_cons,List.length_nil,true_and,and_true,Nat.zero_add,eq_self,Nat.reduceEqDiff,Int.reduceAdd,Int.reduceSub,Int.reduceMul,not_true_eq_false,not_false_eq_true,Nat.reduceLT,Int.reduceToNat,Int.reduceEq,Int.reduceNe,Int.reduceLT,Int.reduceLE,or_true,or_false,and_false,false_and,false_implies,true_implies]
  refine w_M_carry_17 ?_
  simp (disch := omega) only [cm_,aq_,ay_,ag_,b8_,af_,ba_,bc_,bg_,am_,ae_,ac_,b2_,bj_,bq_,ed_,bs_,ao_,c4_,az_,dw_,d6_,ea_,d3_,b5_,fl_,fn_,fh_,fu_,fp_,fz_,fq_,fk_,fr_,ft_,fs_,f0_,c5_,bd_,c3_,ck_,c2_,ct_,cr_,cf_,ch_,an_,cl_,dt_,dv_,du_,dr_,ds_,cd_,a9_,a8_,a7_,ce_,fy_,fv_,d1_,d0_,Int.toNat_natCast,f3_,di_,dm_,dn_,gv_,g1_,g0_,gz_,g4_,gx_,gk_,gi_,gj_,gu_,gt_,go_,gn_,gs_,gm_,f7_,f5_,f8_,f4_,Int.add_zero,Int.zero_add,Int.ediv_one,Nat.reduceAdd,Nat.reduceMul,Int.reduceNeg,Nat.reduceLeDiff,List.length_cons,List.length_nil,true_and,and_true,Nat.zero_add,eq_self,Nat.reduceEqDiff,Int.reduceAdd,Int.reduceSub,Int.reduceMul,not_true_eq_false,not_false_eq_true,Nat.reduceLT,Int.reduceToNat,Int.reduceEq,Int.reduceNe,Int.reduceLT,Int.reduceLE,or_true,or_false,and_false,false_and,false_implies,true_implies,e]
  exact ⟨by omega, hQ⟩
theorem con_take_K (hQ : ∀ x : Nat → Int, (∀ j, j < 49 → x j = fl R j) → Q none (HM R rf lt lsz a0 ib sm pl lo nu (x) ig hmg (49) (1) (.ref 101) tu tz tf tn tsz ga sd bb)) : Con M_M_carryAll [.ref 90, .ref 101, .int (zI 1)] (HM R rf lt lsz a0 ib sm pl lo nu kp ig hmg p0 tk ki tu tz tf tn tsz ga sd bb) Q := by
  refine g8_ (L := [some (.ref 90), some (.ref 101), some (.int (zI 1)), none]) ok_M_carryAll (Nat.le_of_ble_eq_true rfl) rfl ?_
  refine w_M_carryAll_0 ?_
  simp (disch := omega) only [cm_,aq_,ay_,ag_,b8_,af_,ba_,bc_,bg_,am_,ae_,ac_,b2_,bj_,bq_,ed_,bs_,ao_,c4_,az_,dw_,d6_,ea_,d3_,b5_,fl_,fn_,fh_,fu_,fp_,fz_,fq_,fk_,fr_,ft_,fs_,f0_,c5_,bd_,c3_,ck_,c2_,ct_,cr_,cf_,ch_,an_,cl_,dt_,dv_,du_,dr_,ds_,cd_,a9_,a8_,a7_,ce_,fy_,fv_,d1_,d0_,Int.toNat_natCast,f3_,di_,dm_,dn_,gv_,g1_,g0_,gz_,g4_,gx_,gk_,gi_,gj_,gu_,gt_,go_,gn_,gs_,gm_,f7_,f5_,f8_,f4_,Int.add_zero,Int.zero_add,Int.ediv_one,Nat.reduceAdd,Nat.reduceMul,Int.reduceNeg,Nat.reduceLeDiff,List.length_cons,List.length_nil,true_and,and_true,Nat.zero_add,eq_self,Nat.reduceEqDiff,Int.reduceAdd,Int.reduceSub,Int.reduceMul,not_true_eq_false,not_false_eq_true,Nat.reduceLT,Int.reduceToNat,Int.reduceEq,Int.reduceNe,Int.reduceLT,Int.reduceLE,or_true,or_false,and_false,false_and,false_implies,true_implies]
  refine con_cT_K (p := 0) (F := fl R) (by omega) (fun j hj => by omega) (fl_0 R).symm (fun x h1 => ?_)
  simp (disch := omega) only [cm_,aq_,ay_,ag_,b8_,af_,ba_,bc_,bg_,am_,ae_,ac_,b2_,bj_,bq_,ed_,bs_,ao_,c4_,az_,dw_,d6_,ea_,d3_,b5_,fl_,fn_,fh_,fu_,fp_,fz_,fq_,fk_,fr_,ft_,fs_,f0_,c5_,bd_,c3_,ck_,c2_,ct_,cr_,cf_,ch_,an_,cl_,dt_,dv_,du_,dr_,ds_,cd_,a9_,a8_,a7_,ce_,fy_,fv_,d1_,d0_,Int.toNat_natCast,f3_,di_,dm_,dn_,gv_,g1_,g0_,gz_,g4_,gx_,gk_,gi_,gj_,gu_,gt_,go_,gn_,gs_,gm_,f7_,f5_,f8_,f4_,Int.add_zero,Int.zero_add,Int.ediv_one,Nat.reduceAdd,Nat.reduceMul,Int.reduceNeg,Nat.reduceLeDiff,List.length_cons,List.length_nil,true_and,and_true,Nat.zero_add,eq_self,Nat.reduceEqDiff,Int.reduceAdd,Int.reduceSub,Int.reduceMul,not_true_eq_false,not_false_eq_true,Nat.reduceLT,Int.reduceToNat,Int.reduceEq,Int.reduceNe,Int.reduceLT,Int.reduceLE,or_true,or_false,and_false,false_and,false_implies,true_implies]
  refine con_cT_K (p := 1) (F := fl R) (by omega) h1 (fl_1 R).symm (fun x h1 => ?_)
  simp (disch := omega) only [cm_,aq_,ay_,ag_,b8_,af_,ba_,bc_,bg_,am_,ae_,ac_,b2_,bj_,bq_,ed_,bs_,ao_,c4_,az_,dw_,d6_,ea_,d3_,b5_,fl_,fn_,fh_,fu_,fp_,fz_,fq_,fk_,fr_,ft_,fs_,f0_,c5_,bd_,c3_,ck_,c2_,ct_,cr_,cf_,ch_,an_,cl_,dt_,dv_,du_,dr_,ds_,cd_,a9_,a8_,a7_,ce_,fy_,fv_,d1_,d0_,Int.toNat_natCast,f3_,di_,dm_,dn_,gv_,g1_,g0_,gz_,g4_,gx_,gk_,gi_,gj_,gu_,gt_,go_,gn_,gs_,gm_,f7_,f5_,f8_,f4_,Int.add_zero,Int.zero_add,Int.ediv_one,Nat.reduceAdd,Nat.reduceMul,Int.reduceNeg,Nat.reduceLeDiff,List.length_cons,List.length_nil,true_and,and_true,Nat.zero_add,eq_self,Nat.reduceEqDiff,Int.reduceAdd,Int.reduceSub,Int.reduceMul,not_true_eq_false,not_false_eq_true,Nat.reduceLT,Int.reduceToNat,Int.reduceEq,Int.reduceNe,Int.reduceLT,Int.reduceLE,or_true,or_false,and_false,false_and,false_implies,true_implies]
  refine con_cT_K (p := 2) (F := fl R) (by omega) h1 (fl_2 R).symm (fun x h1 => ?_)
  simp (disch := omega) only [cm_,aq_,ay_,ag_,b8_,af_,ba_,bc_,bg_,am_,ae_,ac_,b2_,bj_,bq_,ed_,bs_,ao_,c4_,az_,dw_,d6_,ea_,d3_,b5_,fl_,fn_,fh_,fu_,fp_,fz_,fq_,fk_,fr_,ft_,fs_,f0_,c5_,bd_,c3_,ck_,c2_,ct_,cr_,cf_,ch_,an_,cl_,dt_,dv_,du_,dr_,ds_,cd_,a9_,a8_,a7_,ce_,fy_,fv_,d1_,d0_,Int.toNat_natCast,f3_,di_,dm_,dn_,gv_,g1_,g0_,gz_,g4_,gx_,gk_,gi_,gj_,gu_,gt_,go_,gn_,gs_,gm_,f7_,f5_,f8_,f4_,Int.add_zero,Int.zero_add,Int.ediv_one,Nat.reduceAdd,Nat.reduceMul,Int.reduceNeg,Nat.reduceLeDiff,List.length_cons,List.length_nil,true_and,and_true,Nat.zero_add,eq_self,Nat.reduceEqDiff,Int.reduceAdd,Int.reduceSub,Int.reduceMul,not_true_eq_false,not_false_eq_true,Nat.reduceLT,Int.reduceToNat,Int.reduceEq,Int.reduceNe,Int.reduceLT,Int.reduceLE,or_true,or_false,and_false,false_and,false_implies,true_implies]
  refine con_cT_K (p := 3) (F := fl R) (by omega) h1 (fl_3 R).symm (fun x h1 => ?_)
  simp (disch := omega) only [cm_,aq_,ay_,ag_,b8_,af_,ba_,bc_,bg_,am_,ae_,ac_,b2_,bj_,bq_,ed_,bs_,ao_,c4_,az_,dw_,d6_,ea_,d3_,b5_,fl_,fn_,fh_,fu_,fp_,fz_,fq_,fk_,fr_,ft_,fs_,f0_,c5_,bd_,c3_,ck_,c2_,ct_,cr_,cf_,ch_,an_,cl_,dt_,dv_,du_,dr_,ds_,cd_,a9_,a8_,a7_,ce_,fy_,fv_,d1_,d0_,Int.toNat_natCast,f3_,di_,dm_,dn_,gv_,g1_,g0_,gz_,g4_,gx_,gk_,gi_,gj_,gu_,gt_,go_,gn_,gs_,gm_,f7_,f5_,f8_,f4_,Int.add_zero,Int.zero_add,Int.ediv_one,Nat.reduceAdd,Nat.reduceMul,Int.reduceNeg,Nat.reduceLeDiff,List.length_cons,List.length_nil,true_and,and_true,Nat.zero_add,eq_self,Nat.reduceEqDiff,Int.reduceAdd,Int.reduceSub,Int.reduceMul,not_true_eq_false,not_false_eq_true,Nat.reduceLT,Int.reduceToNat,Int.reduceEq,Int.reduceNe,Int.reduceLT,Int.reduceLE,or_true,or_false,and_false,false_and,false_implies,true_implies]
  refine con_cT_K (p := 4) (F := fl R) (by omega) h1 (fl_4 R).symm (fun x h1 => ?_)
  simp (disch := omega) only [cm_,aq_,ay_,ag_,b8_,af_,ba_,bc_,bg_,am_,ae_,ac_,b2_,bj_,bq_,ed_,bs_,ao_,c4_,az_,dw_,d6_,ea_,d3_,b5_,fl_,fn_,fh_,fu_,fp_,fz_,fq_,fk_,fr_,ft_,fs_,f0_,c5_,bd_,c3_,ck_,c2_,ct_,cr_,cf_,ch_,an_,cl_,dt_,dv_,du_,dr_,ds_,cd_,a9_,a8_,a7_,ce_,fy_,fv_,d1_,d0_,Int.toNat_natCast,f3_,di_,dm_,dn_,gv_,g1_,g0_,gz_,g4_,gx_,gk_,gi_,gj_,gu_,gt_,go_,gn_,gs_,gm_,f7_,f5_,f8_,f4_,Int.add_zero,Int.zero_add,Int.ediv_one,Nat.reduceAdd,Nat.reduceMul,Int.reduceNeg,Nat.reduceLeDiff,List.length_cons,List.length_nil,true_and,and_true,Nat.zero_add,eq_self,Nat.reduceEqDiff,Int.reduceAdd,Int.reduceSub,Int.reduceMul,not_true_eq_false,not_false_eq_true,Nat.reduceLT,Int.reduceToNat,Int.reduceEq,Int.reduceNe,Int.reduceLT,Int.reduceLE,or_true,or_false,and_false,false_and,false_implies,true_implies]
  have loop2 : ∀ n m : Nat, m + n = 8 → ∀ x : Nat → Int, (∀ j, j < 17 + 4 * m → x j = fl R j) → J M_M_carryAll 107 [some (.ref 90), some (.ref 101), some (.int (zI 1)), some (.int (zI m))] [] (HM R rf lt lsz a0 ib sm pl lo nu (x) ig hmg (((17 + 4 * m : Nat) : Int)) (1) (.ref 101) tu tz tf tn tsz ga sd bb) Q := by
    intro n
    induction n with
    | zero =>
      intro m hm x hx
      have e : m = 8 := by omega
      subst e
      refine w_M_carryAll_107 ?_
      simp (disch := omega) only [cm_,aq_,ay_,ag_,b8_,af_,ba_,bc_,bg_,am_,ae_,ac_,b2_,bj_,bq_,ed_,bs_,ao_,c4_,az_,dw_,d6_,ea_,d3_,b5_,fl_,fn_,fh_,fu_,fp_,fz_,fq_,fk_,fr_,ft_,fs_,f0_,c5_,bd_,c3_,ck_,c2_,ct_,cr_,cf_,ch_,an_,cl_,dt_,dv_,du_,dr_,ds_,cd_,a9_,a8_,a7_,ce_,fy_,fv_,d1_,d0_,Int.toNat_natCast,f3_,di_,dm_,dn_,gv_,g1_,g0_,gz_,g4_,gx_,gk_,gi_,gj_,gu_,gt_,go_,gn_,gs_,gm_,f7_,f5_,f8_,f4_,Int.add_zero,Int.zero_add,Int.ediv_one,Nat.reduceAdd,Nat.reduceMul,Int.reduceNeg,Nat.reduceLeDiff,List.length_cons,List.length_nil,true_and,and_true,Nat.zero_add,eq_self,Nat.reduceEqDiff,Int.reduceAdd,Int.reduceSub,Int.reduceMul,not_true_eq_false,not_false_eq_true,Nat.reduceLT,Int.reduceToNat,Int.reduceEq,Int.reduceNe,Int.reduceLT,Int.reduceLE,or_true,or_false,and_false,false_and,false_implies,true_implies]
      refine w_M_carryAll_183 ?_
      simp (disch := omega) only [cm_,aq_,ay_,ag_,b8_,af_,ba_,bc_,bg_,am_,ae_,ac_,b2_,bj_,bq_,ed_,bs_,ao_,c4_,az_,dw_,d6_,ea_,d3_,b5_,fl_,fn_,fh_,fu_,fp_,fz_,fq_,fk_,fr_,ft_,fs_,f0_,c5_,bd_,c3_,ck_,c2_,ct_,cr_,cf_,ch_,an_,cl_,dt_,dv_,du_,dr_,ds_,cd_,a9_,a8_,a7_,ce_,fy_,fv_,d1_,d0_,Int.toNat_natCast,f3_,di_,dm_,dn_,gv_,g1_,g0_,gz_,g4_,gx_,gk_,gi_,gj_,gu_,gt_,go_,gn_,gs_,gm_,f7_,f5_,f8_,f4_,Int.add_zero,Int.zero_add,Int.ediv_one,Nat.reduceAdd,Nat.reduceMul,Int.reduceNeg,Nat.reduceLeDiff,List.length_cons,List.length_nil,true_and,and_true,Nat.zero_add,eq_self,Nat.reduceEqDiff,Int.reduceAdd,Int.reduceSub,Int.reduceMul,not_true_eq_false,not_false_eq_true,Nat.reduceLT,Int.reduceToNat,Int.reduceEq,Int.reduceNe,Int.reduceLT,Int.reduceLE,or_true,or_false,and_false,false_and,false_implies,true_implies]
      exact hQ x hx
    | succ n ih =>
      intro m hm x hx
      refine w_M_carryAll_107 ?_
      simp (disch := omega) only [cm_,aq_,ay_,ag_,b8_,af_,ba_,bc_,bg_,am_,ae_,ac_,b2_,bj_,bq_,ed_,bs_,ao_,c4_,az_,dw_,d6_,ea_,d3_,b5_,fl_,fn_,fh_,fu_,fp_,fz_,fq_,fk_,fr_,ft_,fs_,f0_,c5_,bd_,c3_,ck_,c2_,ct_,cr_,cf_,ch_,an_,cl_,dt_,dv_,du_,dr_,ds_,cd_,a9_,a8_,a7_,ce_,fy_,fv_,d1_,d0_,Int.toNat_natCast,f3_,di_,dm_,dn_,gv_,g1_,g0_,gz_,g4_,gx_,gk_,gi_,gj_,gu_,gt_,go_,gn_,gs_,gm_,f7_,f5_,f8_,f4_,Int.add_zero,Int.zero_add,Int.ediv_one,Nat.reduceAdd,Nat.reduceMul,Int.reduceNeg,Nat.reduceLeDiff,List.length_cons,List.length_nil,true_and,and_true,Nat.zero_add,eq_self,Nat.reduceEqDiff,Int.reduceAdd,Int.reduceSub,Int.reduceMul,not_true_eq_false,not_false_eq_true,Nat.reduceLT,Int.reduceToNat,Int.reduceEq,Int.reduceNe,Int.reduceLT,Int.reduceLE,or_true,or_false,and_false,false_and,false_implies,true_implies]
      refine ⟨fun q => by omega, fun _ => ⟨by omega, ?_⟩⟩
      refine con_cT_K (p := 17 + 4 * m) (F := fl R) (by omega) hx (fl_k R m).symm (fun x hx => ?_)
      simp (disch := omega) only [cm_,aq_,ay_,ag_,b8_,af_,ba_,bc_,bg_,am_,ae_,ac_,b2_,bj_,bq_,ed_,bs_,ao_,c4_,az_,dw_,d6_,ea_,d3_,b5_,fl_,fn_,fh_,fu_,fp_,fz_,fq_,fk_,fr_,ft_,fs_,f0_,c5_,bd_,c3_,ck_,c2_,ct_,cr_,cf_,ch_,an_,cl_,dt_,dv_,du_,dr_,ds_,cd_,a9_,a8_,a7_,ce_,fy_,fv_,d1_,d0_,Int.toNat_natCast,f3_,di_,dm_,dn_,gv_,g1_,g0_,gz_,g4_,gx_,gk_,gi_,gj_,gu_,gt_,go_,gn_,gs_,gm_,f7_,f5_,f8_,f4_,Int.add_zero,Int.zero_add,Int.ediv_one,Nat.reduceAdd,Nat.reduceMul,Int.reduceNeg,Nat.reduceLeDiff,List.length_cons,List.length_nil,true_and,and_true,Nat.zero_add,eq_self,Nat.reduceEqDiff,Int.reduceAdd,Int.reduceSub,Int.reduceMul,not_true_eq_false,not_false_eq_true,Nat.reduceLT,Int.reduceToNat,Int.reduceEq,Int.reduceNe,Int.reduceLT,Int.reduceLE,or_true,or_false,and_false,false_and,false_implies,true_implies,upI_id,sKi_id]
      refine ⟨by omega, by omega, ?_⟩
      refine con_cT_K (p := 17 + 4 * m + 1) (F := fl R) (by omega) hx (fl_f R m).symm (fun x hx => ?_)
      simp (disch := omega) only [cm_,aq_,ay_,ag_,b8_,af_,ba_,bc_,bg_,am_,ae_,ac_,b2_,bj_,bq_,ed_,bs_,ao_,c4_,az_,dw_,d6_,ea_,d3_,b5_,fl_,fn_,fh_,fu_,fp_,fz_,fq_,fk_,fr_,ft_,fs_,f0_,c5_,bd_,c3_,ck_,c2_,ct_,cr_,cf_,ch_,an_,cl_,dt_,dv_,du_,dr_,ds_,cd_,a9_,a8_,a7_,ce_,fy_,fv_,d1_,d0_,Int.toNat_natCast,f3_,di_,dm_,dn_,gv_,g1_,g0_,gz_,g4_,gx_,gk_,gi_,gj_,gu_,gt_,go_,gn_,gs_,gm_,f7_,f5_,f8_,f4_,Int.add_zero,Int.zero_add,Int.ediv_one,Nat.reduceAdd,Nat.reduceMul,Int.reduceNeg,Nat.reduceLeDiff,List.length_cons,List.length_nil,true_and,and_true,Nat.zero_add,eq_self,Nat.reduceEqDiff,Int.reduceAdd,Int.reduceSub,Int.reduceMul,not_true_eq_false,not_false_eq_true,Nat.reduceLT,Int.reduceToNat,Int.reduceEq,Int.reduceNe,Int.reduceLT,Int.reduceLE,or_true,or_false,and_false,false_and,false_implies,true_implies,upI_id,sFi_id]
      refine ⟨by omega, by omega, ?_⟩
      refine con_cT_K (p := 17 + 4 * m + 2) (F := fl R) (by omega) hx (fl_a R m).symm (fun x hx => ?_)
      simp (disch := omega) only [cm_,aq_,ay_,ag_,b8_,af_,ba_,bc_,bg_,am_,ae_,ac_,b2_,bj_,bq_,ed_,bs_,ao_,c4_,az_,dw_,d6_,ea_,d3_,b5_,fl_,fn_,fh_,fu_,fp_,fz_,fq_,fk_,fr_,ft_,fs_,f0_,c5_,bd_,c3_,ck_,c2_,ct_,cr_,cf_,ch_,an_,cl_,dt_,dv_,du_,dr_,ds_,cd_,a9_,a8_,a7_,ce_,fy_,fv_,d1_,d0_,Int.toNat_natCast,f3_,di_,dm_,dn_,gv_,g1_,g0_,gz_,g4_,gx_,gk_,gi_,gj_,gu_,gt_,go_,gn_,gs_,gm_,f7_,f5_,f8_,f4_,Int.add_zero,Int.zero_add,Int.ediv_one,Nat.reduceAdd,Nat.reduceMul,Int.reduceNeg,Nat.reduceLeDiff,List.length_cons,List.length_nil,true_and,and_true,Nat.zero_add,eq_self,Nat.reduceEqDiff,Int.reduceAdd,Int.reduceSub,Int.reduceMul,not_true_eq_false,not_false_eq_true,Nat.reduceLT,Int.reduceToNat,Int.reduceEq,Int.reduceNe,Int.reduceLT,Int.reduceLE,or_true,or_false,and_false,false_and,false_implies,true_implies,upI_id,sFa_id]
      refine ⟨by omega, by omega, ?_⟩
      refine con_cT_K (p := 17 + 4 * m + 3) (F := fl R) (by omega) hx (fl_w R m).symm (fun x hx => ?_)
      simp (disch := omega) only [cm_,aq_,ay_,ag_,b8_,af_,ba_,bc_,bg_,am_,ae_,ac_,b2_,bj_,bq_,ed_,bs_,ao_,c4_,az_,dw_,d6_,ea_,d3_,b5_,fl_,fn_,fh_,fu_,fp_,fz_,fq_,fk_,fr_,ft_,fs_,f0_,c5_,bd_,c3_,ck_,c2_,ct_,cr_,cf_,ch_,an_,cl_,dt_,dv_,du_,dr_,ds_,cd_,a9_,a8_,a7_,ce_,fy_,fv_,d1_,d0_,Int.toNat_natCast,f3_,di_,dm_,dn_,gv_,g1_,g0_,gz_,g4_,gx_,gk_,gi_,gj_,gu_,gt_,go_,gn_,gs_,gm_,f7_,f5_,f8_,f4_,Int.add_zero,Int.zero_add,Int.ediv_one,Nat.reduceAdd,Nat.reduceMul,Int.reduceNeg,Nat.reduceLeDiff,List.length_cons,List.length_nil,true_and,and_true,Nat.zero_add,eq_self,Nat.reduceEqDiff,Int.reduceAdd,Int.reduceSub,Int.reduceMul,not_true_eq_false,not_false_eq_true,Nat.reduceLT,Int.reduceToNat,Int.reduceEq,Int.reduceNe,Int.reduceLT,Int.reduceLE,or_true,or_false,and_false,false_and,false_implies,true_implies,upI_id,sWo_id]
      refine ⟨by omega, ?_⟩
      exact ih (m + 1) (by omega) x hx
  have loop1 : ∀ n s : Nat, s + n = 12 → ∀ x : Nat → Int, (∀ j, j < 5 + s → x j = fl R j) → J M_M_carryAll 77 [some (.ref 90), some (.ref 101), some (.int (zI 1)), some (.int (zI s))] [] (HM R rf lt lsz a0 ib sm pl lo nu (x) ig hmg (((5 + s : Nat) : Int)) (1) (.ref 101) tu tz tf tn tsz ga sd bb) Q := by
    intro n
    induction n with
    | zero =>
      intro s hs x hx
      have e : s = 12 := by omega
      subst e
      refine w_M_carryAll_77 ?_
      simp (disch := omega) only [cm_,aq_,ay_,ag_,b8_,af_,ba_,bc_,bg_,am_,ae_,ac_,b2_,bj_,bq_,ed_,bs_,ao_,c4_,az_,dw_,d6_,ea_,d3_,b5_,fl_,fn_,fh_,fu_,fp_,fz_,fq_,fk_,fr_,ft_,fs_,f0_,c5_,bd_,c3_,ck_,c2_,ct_,cr_,cf_,ch_,an_,cl_,dt_,dv_,du_,dr_,ds_,cd_,a9_,a8_,a7_,ce_,fy_,fv_,d1_,d0_,Int.toNat_natCast,f3_,di_,dm_,dn_,gv_,g1_,g0_,gz_,g4_,gx_,gk_,gi_,gj_,gu_,gt_,go_,gn_,gs_,gm_,f7_,f5_,f8_,f4_,Int.add_zero,Int.zero_add,Int.ediv_one,Nat.reduceAdd,Nat.reduceMul,Int.reduceNeg,Nat.reduceLeDiff,List.length_cons,List.length_nil,true_and,and_true,Nat.zero_add,eq_self,Nat.reduceEqDiff,Int.reduceAdd,Int.reduceSub,Int.reduceMul,not_true_eq_false,not_false_eq_true,Nat.reduceLT,Int.reduceToNat,Int.reduceEq,Int.reduceNe,Int.reduceLT,Int.reduceLE,or_true,or_false,and_false,false_and,false_implies,true_implies]
      refine w_M_carryAll_105 ?_
      simp (disch := omega) only [cm_,aq_,ay_,ag_,b8_,af_,ba_,bc_,bg_,am_,ae_,ac_,b2_,bj_,bq_,ed_,bs_,ao_,c4_,az_,dw_,d6_,ea_,d3_,b5_,fl_,fn_,fh_,fu_,fp_,fz_,fq_,fk_,fr_,ft_,fs_,f0_,c5_,bd_,c3_,ck_,c2_,ct_,cr_,cf_,ch_,an_,cl_,dt_,dv_,du_,dr_,ds_,cd_,a9_,a8_,a7_,ce_,fy_,fv_,d1_,d0_,Int.toNat_natCast,f3_,di_,dm_,dn_,gv_,g1_,g0_,gz_,g4_,gx_,gk_,gi_,gj_,gu_,gt_,go_,gn_,gs_,gm_,f7_,f5_,f8_,f4_,Int.add_zero,Int.zero_add,Int.ediv_one,Nat.reduceAdd,Nat.reduceMul,Int.reduceNeg,Nat.reduceLeDiff,List.length_cons,List.length_nil,true_and,and_true,Nat.zero_add,eq_self,Nat.reduceEqDiff,Int.reduceAdd,Int.reduceSub,Int.reduceMul,not_true_eq_false,not_false_eq_true,Nat.reduceLT,Int.reduceToNat,Int.reduceEq,Int.reduceNe,Int.reduceLT,Int.reduceLE,or_true,or_false,and_false,false_and,false_implies,true_implies]
      exact loop2 8 0 (by omega) x hx
    | succ n ih =>
      intro s hs x hx
      refine w_M_carryAll_77 ?_
      simp (disch := omega) only [cm_,aq_,ay_,ag_,b8_,af_,ba_,bc_,bg_,am_,ae_,ac_,b2_,bj_,bq_,ed_,bs_,ao_,c4_,az_,dw_,d6_,ea_,d3_,b5_,fl_,fn_,fh_,fu_,fp_,fz_,fq_,fk_,fr_,ft_,fs_,f0_,c5_,bd_,c3_,ck_,c2_,ct_,cr_,cf_,ch_,an_,cl_,dt_,dv_,du_,dr_,ds_,cd_,a9_,a8_,a7_,ce_,fy_,fv_,d1_,d0_,Int.toNat_natCast,f3_,di_,dm_,dn_,gv_,g1_,g0_,gz_,g4_,gx_,gk_,gi_,gj_,gu_,gt_,go_,gn_,gs_,gm_,f7_,f5_,f8_,f4_,Int.add_zero,Int.zero_add,Int.ediv_one,Nat.reduceAdd,Nat.reduceMul,Int.reduceNeg,Nat.reduceLeDiff,List.length_cons,List.length_nil,true_and,and_true,Nat.zero_add,eq_self,Nat.reduceEqDiff,Int.reduceAdd,Int.reduceSub,Int.reduceMul,not_true_eq_false,not_false_eq_true,Nat.reduceLT,Int.reduceToNat,Int.reduceEq,Int.reduceNe,Int.reduceLT,Int.reduceLE,or_true,or_false,and_false,false_and,false_implies,true_implies]
      refine ⟨fun q => by omega, fun _ => ⟨by omega, ?_⟩⟩
      refine con_cT_K (p := 5 + s) (F := fl R) (by omega) hx (fl_s R (by omega)).symm (fun x hx => ?_)
      simp (disch := omega) only [cm_,aq_,ay_,ag_,b8_,af_,ba_,bc_,bg_,am_,ae_,ac_,b2_,bj_,bq_,ed_,bs_,ao_,c4_,az_,dw_,d6_,ea_,d3_,b5_,fl_,fn_,fh_,fu_,fp_,fz_,fq_,fk_,fr_,ft_,fs_,f0_,c5_,bd_,c3_,ck_,c2_,ct_,cr_,cf_,ch_,an_,cl_,dt_,dv_,du_,dr_,ds_,cd_,a9_,a8_,a7_,ce_,fy_,fv_,d1_,d0_,Int.toNat_natCast,f3_,di_,dm_,dn_,gv_,g1_,g0_,gz_,g4_,gx_,gk_,gi_,gj_,gu_,gt_,go_,gn_,gs_,gm_,f7_,f5_,f8_,f4_,Int.add_zero,Int.zero_add,Int.ediv_one,Nat.reduceAdd,Nat.reduceMul,Int.reduceNeg,Nat.reduceLeDiff,List.length_cons,List.length_nil,true_and,and_true,Nat.zero_add,eq_self,Nat.reduceEqDiff,Int.reduceAdd,Int.reduceSub,Int.reduceMul,not_true_eq_false,not_false_eq_true,Nat.reduceLT,Int.reduceToNat,Int.reduceEq,Int.reduceNe,Int.reduceLT,Int.reduceLE,or_true,or_false,and_false,false_and,false_implies,true_implies,upI_id,sSl_id]
      refine ⟨by omega, ?_⟩
      exact ih (s + 1) (by omega) x hx
  exact loop1 12 0 (by omega) x h1
theorem con_give_K {S : RR} (hk : ∀ j, j < 49 → kp j = fl S j) (hC : NR R) (hS : NR S) (hQ : Q none (HM (S) rf lt lsz a0 ib sm pl lo nu kp ig hmg (49) (0) (.ref 101) tu tz tf tn tsz ga sd bb)) : Con M_M_carryAll [.ref 90, .ref 101, .int (zI 0)] (HM R rf lt lsz a0 ib sm pl lo nu kp ig hmg p0 tk ki tu tz tf tn tsz ga sd bb) Q := by
  have q0 : kp 0 = rMen S := (hk 0 (by omega)).trans (fl_0 S)
  have q1 : kp 1 = hd_ S := (hk 1 (by omega)).trans (fl_1 S)
  have q2 : kp 2 = rLoad S := (hk 2 (by omega)).trans (fl_2 S)
  have q3 : kp 3 = rSnow S := (hk 3 (by omega)).trans (fl_3 S)
  have q4 : kp 4 = hh_ S := (hk 4 (by omega)).trans (fl_4 S)
  refine g8_ (L := [some (.ref 90), some (.ref 101), some (.int (zI 0)), none]) ok_M_carryAll (Nat.le_of_ble_eq_true rfl) rfl ?_
  refine w_M_carryAll_0 ?_
  simp (disch := omega) only [cm_,aq_,ay_,ag_,b8_,af_,ba_,bc_,bg_,am_,ae_,ac_,b2_,bj_,bq_,ed_,bs_,ao_,c4_,az_,dw_,d6_,ea_,d3_,b5_,fl_,fn_,fh_,fu_,fp_,fz_,fq_,fk_,fr_,ft_,fs_,f0_,c5_,bd_,c3_,ck_,c2_,ct_,cr_,cf_,ch_,an_,cl_,dt_,dv_,du_,dr_,ds_,cd_,a9_,a8_,a7_,ce_,fy_,fv_,d1_,d0_,Int.toNat_natCast,f3_,di_,dm_,dn_,gv_,g1_,g0_,gz_,g4_,gx_,gk_,gi_,gj_,gu_,gt_,go_,gn_,gs_,gm_,f7_,f5_,f8_,f4_,Int.add_zero,Int.zero_add,Int.ediv_one,Nat.reduceAdd,Nat.reduceMul,Int.reduceNeg,Nat.reduceLeDiff,List.length_cons,List.length_nil,true_and,and_true,Nat.zero_add,eq_self,Nat.reduceEqDiff,Int.reduceAdd,Int.reduceSub,Int.reduceMul,not_true_eq_false,not_false_eq_true,Nat.reduceLT,Int.reduceToNat,Int.reduceEq,Int.reduceNe,Int.reduceLT,Int.reduceLE,or_true,or_false,and_false,false_and,false_implies,true_implies]
  refine con_cG_K (p := 0) (by omega) ?_
  simp (disch := omega) only [cm_,aq_,ay_,ag_,b8_,af_,ba_,bc_,bg_,am_,ae_,ac_,b2_,bj_,bq_,ed_,bs_,ao_,c4_,az_,dw_,d6_,ea_,d3_,b5_,fl_,fn_,fh_,fu_,fp_,fz_,fq_,fk_,fr_,ft_,fs_,f0_,c5_,bd_,c3_,ck_,c2_,ct_,cr_,cf_,ch_,an_,cl_,dt_,dv_,du_,dr_,ds_,cd_,a9_,a8_,a7_,ce_,fy_,fv_,d1_,d0_,Int.toNat_natCast,f3_,di_,dm_,dn_,gv_,g1_,g0_,gz_,g4_,gx_,gk_,gi_,gj_,gu_,gt_,go_,gn_,gs_,gm_,f7_,f5_,f8_,f4_,Int.add_zero,Int.zero_add,Int.ediv_one,Nat.reduceAdd,Nat.reduceMul,Int.reduceNeg,Nat.reduceLeDiff,List.length_cons,List.length_nil,true_and,and_true,Nat.zero_add,eq_self,Nat.reduceEqDiff,Int.reduceAdd,Int.reduceSub,Int.reduceMul,not_true_eq_false,not_false_eq_true,Nat.reduceLT,Int.reduceToNat,Int.reduceEq,Int.reduceNe,Int.reduceLT,Int.reduceLE,or_true,or_false,and_false,false_and,false_implies,true_implies,q0]
  refine con_cG_K (p := 1) (by omega) ?_
  simp (disch := omega) only [cm_,aq_,ay_,ag_,b8_,af_,ba_,bc_,bg_,am_,ae_,ac_,b2_,bj_,bq_,ed_,bs_,ao_,c4_,az_,dw_,d6_,ea_,d3_,b5_,fl_,fn_,fh_,fu_,fp_,fz_,fq_,fk_,fr_,ft_,fs_,f0_,c5_,bd_,c3_,ck_,c2_,ct_,cr_,cf_,ch_,an_,cl_,dt_,dv_,du_,dr_,ds_,cd_,a9_,a8_,a7_,ce_,fy_,fv_,d1_,d0_,Int.toNat_natCast,f3_,di_,dm_,dn_,gv_,g1_,g0_,gz_,g4_,gx_,gk_,gi_,gj_,gu_,gt_,go_,gn_,gs_,gm_,f7_,f5_,f8_,f4_,Int.add_zero,Int.zero_add,Int.ediv_one,Nat.reduceAdd,Nat.reduceMul,Int.reduceNeg,Nat.reduceLeDiff,List.length_cons,List.length_nil,true_and,and_true,Nat.zero_add,eq_self,Nat.reduceEqDiff,Int.reduceAdd,Int.reduceSub,Int.reduceMul,not_true_eq_false,not_false_eq_true,Nat.reduceLT,Int.reduceToNat,Int.reduceEq,Int.reduceNe,Int.reduceLT,Int.reduceLE,or_true,or_false,and_false,false_and,false_implies,true_implies,q1]
  refine con_cG_K (p := 2) (by omega) ?_
  simp (disch := omega) only [cm_,aq_,ay_,ag_,b8_,af_,ba_,bc_,bg_,am_,ae_,ac_,b2_,bj_,bq_,ed_,bs_,ao_,c4_,az_,dw_,d6_,ea_,d3_,b5_,fl_,fn_,fh_,fu_,fp_,fz_,fq_,fk_,fr_,ft_,fs_,f0_,c5_,bd_,c3_,ck_,c2_,ct_,cr_,cf_,ch_,an_,cl_,dt_,dv_,du_,dr_,ds_,cd_,a9_,a8_,a7_,ce_,fy_,fv_,d1_,d0_,Int.toNat_natCast,f3_,di_,dm_,dn_,gv_,g1_,g0_,gz_,g4_,gx_,gk_,gi_,gj_,gu_,gt_,go_,gn_,gs_,gm_,f7_,f5_,f8_,f4_,Int.add_zero,Int.zero_add,Int.ediv_one,Nat.reduceAdd,Nat.reduceMul,Int.reduceNeg,Nat.reduceLeDiff,List.length_cons,List.length_nil,true_and,and_true,Nat.zero_add,eq_self,Nat.reduceEqDiff,Int.reduceAdd,Int.reduceSub,Int.reduceMul,not_true_eq_false,not_false_eq_true,Nat.reduceLT,Int.reduceToNat,Int.reduceEq,Int.reduceNe,Int.reduceLT,Int.reduceLE,or_true,or_false,and_false,false_and,false_implies,true_implies,q2]
  refine con_cG_K (p := 3) (by omega) ?_
  simp (disch := omega) only [cm_,aq_,ay_,ag_,b8_,af_,ba_,bc_,bg_,am_,ae_,ac_,b2_,bj_,bq_,ed_,bs_,ao_,c4_,az_,dw_,d6_,ea_,d3_,b5_,fl_,fn_,fh_,fu_,fp_,fz_,fq_,fk_,fr_,ft_,fs_,f0_,c5_,bd_,c3_,ck_,c2_,ct_,cr_,cf_,ch_,an_,cl_,dt_,dv_,du_,dr_,ds_,cd_,a9_,a8_,a7_,ce_,fy_,fv_,d1_,d0_,Int.toNat_natCast,f3_,di_,dm_,dn_,gv_,g1_,g0_,gz_,g4_,gx_,gk_,gi_,gj_,gu_,gt_,go_,gn_,gs_,gm_,f7_,f5_,f8_,f4_,Int.add_zero,Int.zero_add,Int.ediv_one,Nat.reduceAdd,Nat.reduceMul,Int.reduceNeg,Nat.reduceLeDiff,List.length_cons,List.length_nil,true_and,and_true,Nat.zero_add,eq_self,Nat.reduceEqDiff,Int.reduceAdd,Int.reduceSub,Int.reduceMul,not_true_eq_false,not_false_eq_true,Nat.reduceLT,Int.reduceToNat,Int.reduceEq,Int.reduceNe,Int.reduceLT,Int.reduceLE,or_true,or_false,and_false,false_and,false_implies,true_implies,q3]
  refine con_cG_K (p := 4) (by omega) ?_
  simp (disch := omega) only [cm_,aq_,ay_,ag_,b8_,af_,ba_,bc_,bg_,am_,ae_,ac_,b2_,bj_,bq_,ed_,bs_,ao_,c4_,az_,dw_,d6_,ea_,d3_,b5_,fl_,fn_,fh_,fu_,fp_,fz_,fq_,fk_,fr_,ft_,fs_,f0_,c5_,bd_,c3_,ck_,c2_,ct_,cr_,cf_,ch_,an_,cl_,dt_,dv_,du_,dr_,ds_,cd_,a9_,a8_,a7_,ce_,fy_,fv_,d1_,d0_,Int.toNat_natCast,f3_,di_,dm_,dn_,gv_,g1_,g0_,gz_,g4_,gx_,gk_,gi_,gj_,gu_,gt_,go_,gn_,gs_,gm_,f7_,f5_,f8_,f4_,Int.add_zero,Int.zero_add,Int.ediv_one,Nat.reduceAdd,Nat.reduceMul,Int.reduceNeg,Nat.reduceLeDiff,List.length_cons,List.length_nil,true_and,and_true,Nat.zero_add,eq_self,Nat.reduceEqDiff,Int.reduceAdd,Int.reduceSub,Int.reduceMul,not_true_eq_false,not_false_eq_true,Nat.reduceLT,Int.reduceToNat,Int.reduceEq,Int.reduceNe,Int.reduceLT,Int.reduceLE,or_true,or_false,and_false,false_and,false_implies,true_implies,q4]
  have loop2 : ∀ n m : Nat, m + n = 8 → J M_M_carryAll 107 [some (.ref 90), some (.ref 101), some (.int (zI 0)), some (.int (zI m))] [] (HM (mkR (rSl S) (mixI (rKi S) (rKi R) m) (mixI (rFi S) (rFi R) m) (mixI (rFa S) (rFa R) m) (mixI (rWo S) (rWo R) m) (rMen S) (hd_ S) (rLoad S) (rSnow S) (hh_ S)) rf lt lsz a0 ib sm pl lo nu kp ig hmg (((17 + 4 * m : Nat) : Int)) (0) (.ref 101) tu tz tf tn tsz ga sd bb) Q := by
    intro n
    induction n with
    | zero =>
      intro m hm
      have e : m = 8 := by omega
      subst e
      rw [mix_all (fun j hj => by rw [hS.2.1 j hj, hC.2.1 j hj]), mix_all (fun j hj => by rw [hS.2.2.1 j hj, hC.2.2.1 j hj]), mix_all (fun j hj => by rw [hS.2.2.2.1 j hj, hC.2.2.2.1 j hj]), mix_all (fun j hj => by rw [hS.2.2.2.2 j hj, hC.2.2.2.2 j hj]), f4_]
      refine w_M_carryAll_107 ?_
      simp (disch := omega) only [cm_,aq_,ay_,ag_,b8_,af_,ba_,bc_,bg_,am_,ae_,ac_,b2_,bj_,bq_,ed_,bs_,ao_,c4_,az_,dw_,d6_,ea_,d3_,b5_,fl_,fn_,fh_,fu_,fp_,fz_,fq_,fk_,fr_,ft_,fs_,f0_,c5_,bd_,c3_,ck_,c2_,ct_,cr_,cf_,ch_,an_,cl_,dt_,dv_,du_,dr_,ds_,cd_,a9_,a8_,a7_,ce_,fy_,fv_,d1_,d0_,Int.toNat_natCast,f3_,di_,dm_,dn_,gv_,g1_,g0_,gz_,g4_,gx_,gk_,gi_,gj_,gu_,gt_,go_,gn_,gs_,gm_,f7_,f5_,f8_,f4_,Int.add_zero,Int.zero_add,Int.ediv_one,Nat.reduceAdd,Nat.reduceMul,Int.reduceNeg,Nat.reduceLeDiff,List.length_cons,List.length_nil,true_and,and_true,Nat.zero_add,eq_self,Nat.reduceEqDiff,Int.reduceAdd,Int.reduceSub,Int.reduceMul,not_true_eq_false,not_false_eq_true,Nat.reduceLT,Int.reduceToNat,Int.reduceEq,Int.reduceNe,Int.reduceLT,Int.reduceLE,or_true,or_false,and_false,false_and,false_implies,true_implies]
      refine w_M_carryAll_183 ?_
      simp (disch := omega) only [cm_,aq_,ay_,ag_,b8_,af_,ba_,bc_,bg_,am_,ae_,ac_,b2_,bj_,bq_,ed_,bs_,ao_,c4_,az_,dw_,d6_,ea_,d3_,b5_,fl_,fn_,fh_,fu_,fp_,fz_,fq_,fk_,fr_,ft_,fs_,f0_,c5_,bd_,c3_,ck_,c2_,ct_,cr_,cf_,ch_,an_,cl_,dt_,dv_,du_,dr_,ds_,cd_,a9_,a8_,a7_,ce_,fy_,fv_,d1_,d0_,Int.toNat_natCast,f3_,di_,dm_,dn_,gv_,g1_,g0_,gz_,g4_,gx_,gk_,gi_,gj_,gu_,gt_,go_,gn_,gs_,gm_,f7_,f5_,f8_,f4_,Int.add_zero,Int.zero_add,Int.ediv_one,Nat.reduceAdd,Nat.reduceMul,Int.reduceNeg,Nat.reduceLeDiff,List.length_cons,List.length_nil,true_and,and_true,Nat.zero_add,eq_self,Nat.reduceEqDiff,Int.reduceAdd,Int.reduceSub,Int.reduceMul,not_true_eq_false,not_false_eq_true,Nat.reduceLT,Int.reduceToNat,Int.reduceEq,Int.reduceNe,Int.reduceLT,Int.reduceLE,or_true,or_false,and_false,false_and,false_implies,true_implies]
      exact hQ
    | succ n ih =>
      intro m hm
      have step := ih (m + 1) (by omega)
      rw [← mix_s, ← mix_s, ← mix_s, ← mix_s] at step
      have qk : kp (17 + 4 * m) = rKi S m := (hk _ (by omega)).trans (fl_k S m)
      have qf : kp (17 + 4 * m + 1) = rFi S m := (hk _ (by omega)).trans (fl_f S m)
      have qa : kp (17 + 4 * m + 2) = rFa S m := (hk _ (by omega)).trans (fl_a S m)
      have qw : kp (17 + 4 * m + 3) = rWo S m := (hk _ (by omega)).trans (fl_w S m)
      refine w_M_carryAll_107 ?_
      simp (disch := omega) only [cm_,aq_,ay_,ag_,b8_,af_,ba_,bc_,bg_,am_,ae_,ac_,b2_,bj_,bq_,ed_,bs_,ao_,c4_,az_,dw_,d6_,ea_,d3_,b5_,fl_,fn_,fh_,fu_,fp_,fz_,fq_,fk_,fr_,ft_,fs_,f0_,c5_,bd_,c3_,ck_,c2_,ct_,cr_,cf_,ch_,an_,cl_,dt_,dv_,du_,dr_,ds_,cd_,a9_,a8_,a7_,ce_,fy_,fv_,d1_,d0_,Int.toNat_natCast,f3_,di_,dm_,dn_,gv_,g1_,g0_,gz_,g4_,gx_,gk_,gi_,gj_,gu_,gt_,go_,gn_,gs_,gm_,f7_,f5_,f8_,f4_,Int.add_zero,Int.zero_add,Int.ediv_one,Nat.reduceAdd,Nat.reduceMul,Int.reduceNeg,Nat.reduceLeDiff,List.length_cons,List.length_nil,true_and,and_true,Nat.zero_add,eq_self,Nat.reduceEqDiff,Int.reduceAdd,Int.reduceSub,Int.reduceMul,not_true_eq_false,not_false_eq_true,Nat.reduceLT,Int.reduceToNat,Int.reduceEq,Int.reduceNe,Int.reduceLT,Int.reduceLE,or_true,or_false,and_false,false_and,false_implies,true_implies]
      refine ⟨fun q => by omega, fun _ => ⟨by omega, ?_⟩⟩
      refine con_cG_K (p := 17 + 4 * m) (by omega) ?_
      simp (disch := omega) only [cm_,aq_,ay_,ag_,b8_,af_,ba_,bc_,bg_,am_,ae_,ac_,b2_,bj_,bq_,ed_,bs_,ao_,c4_,az_,dw_,d6_,ea_,d3_,b5_,fl_,fn_,fh_,fu_,fp_,fz_,fq_,fk_,fr_,ft_,fs_,f0_,c5_,bd_,c3_,ck_,c2_,ct_,cr_,cf_,ch_,an_,cl_,dt_,dv_,du_,dr_,ds_,cd_,a9_,a8_,a7_,ce_,fy_,fv_,d1_,d0_,Int.toNat_natCast,f3_,di_,dm_,dn_,gv_,g1_,g0_,gz_,g4_,gx_,gk_,gi_,gj_,gu_,gt_,go_,gn_,gs_,gm_,f7_,f5_,f8_,f4_,Int.add_zero,Int.zero_add,Int.ediv_one,Nat.reduceAdd,Nat.reduceMul,Int.reduceNeg,Nat.reduceLeDiff,List.length_cons,List.length_nil,true_and,and_true,Nat.zero_add,eq_self,Nat.reduceEqDiff,Int.reduceAdd,Int.reduceSub,Int.reduceMul,not_true_eq_false,not_false_eq_true,Nat.reduceLT,Int.reduceToNat,Int.reduceEq,Int.reduceNe,Int.reduceLT,Int.reduceLE,or_true,or_false,and_false,false_and,false_implies,true_implies,qk]
      refine ⟨by omega, by omega, ?_⟩
      refine con_cG_K (p := 17 + 4 * m + 1) (by omega) ?_
      simp (disch := omega) only [cm_,aq_,ay_,ag_,b8_,af_,ba_,bc_,bg_,am_,ae_,ac_,b2_,bj_,bq_,ed_,bs_,ao_,c4_,az_,dw_,d6_,ea_,d3_,b5_,fl_,fn_,fh_,fu_,fp_,fz_,fq_,fk_,fr_,ft_,fs_,f0_,c5_,bd_,c3_,ck_,c2_,ct_,cr_,cf_,ch_,an_,cl_,dt_,dv_,du_,dr_,ds_,cd_,a9_,a8_,a7_,ce_,fy_,fv_,d1_,d0_,Int.toNat_natCast,f3_,di_,dm_,dn_,gv_,g1_,g0_,gz_,g4_,gx_,gk_,gi_,gj_,gu_,gt_,go_,gn_,gs_,gm_,f7_,f5_,f8_,f4_,Int.add_zero,Int.zero_add,Int.ediv_one,Nat.reduceAdd,Nat.reduceMul,Int.reduceNeg,Nat.reduceLeDiff,List.length_cons,List.length_nil,true_and,and_true,Nat.zero_add,eq_self,Nat.reduceEqDiff,Int.reduceAdd,Int.reduceSub,Int.reduceMul,not_true_eq_false,not_false_eq_true,Nat.reduceLT,Int.reduceToNat,Int.reduceEq,Int.reduceNe,Int.reduceLT,Int.reduceLE,or_true,or_false,and_false,false_and,false_implies,true_implies,qf]
      refine ⟨by omega, by omega, ?_⟩
      refine con_cG_K (p := 17 + 4 * m + 2) (by omega) ?_
      simp (disch := omega) only [cm_,aq_,ay_,ag_,b8_,af_,ba_,bc_,bg_,am_,ae_,ac_,b2_,bj_,bq_,ed_,bs_,ao_,c4_,az_,dw_,d6_,ea_,d3_,b5_,fl_,fn_,fh_,fu_,fp_,fz_,fq_,fk_,fr_,ft_,fs_,f0_,c5_,bd_,c3_,ck_,c2_,ct_,cr_,cf_,ch_,an_,cl_,dt_,dv_,du_,dr_,ds_,cd_,a9_,a8_,a7_,ce_,fy_,fv_,d1_,d0_,Int.toNat_natCast,f3_,di_,dm_,dn_,gv_,g1_,g0_,gz_,g4_,gx_,gk_,gi_,gj_,gu_,gt_,go_,gn_,gs_,gm_,f7_,f5_,f8_,f4_,Int.add_zero,Int.zero_add,Int.ediv_one,Nat.reduceAdd,Nat.reduceMul,Int.reduceNeg,Nat.reduceLeDiff,List.length_cons,List.length_nil,true_and,and_true,Nat.zero_add,eq_self,Nat.reduceEqDiff,Int.reduceAdd,Int.reduceSub,Int.reduceMul,not_true_eq_false,not_false_eq_true,Nat.reduceLT,Int.reduceToNat,Int.reduceEq,Int.reduceNe,Int.reduceLT,Int.reduceLE,or_true,or_false,and_false,false_and,false_implies,true_implies,qa]
      refine ⟨by omega, by omega, ?_⟩
      refine con_cG_K (p := 17 + 4 * m + 3) (by omega) ?_
      simp (disch := omega) only [cm_,aq_,ay_,ag_,b8_,af_,ba_,bc_,bg_,am_,ae_,ac_,b2_,bj_,bq_,ed_,bs_,ao_,c4_,az_,dw_,d6_,ea_,d3_,b5_,fl_,fn_,fh_,fu_,fp_,fz_,fq_,fk_,fr_,ft_,fs_,f0_,c5_,bd_,c3_,ck_,c2_,ct_,cr_,cf_,ch_,an_,cl_,dt_,dv_,du_,dr_,ds_,cd_,a9_,a8_,a7_,ce_,fy_,fv_,d1_,d0_,Int.toNat_natCast,f3_,di_,dm_,dn_,gv_,g1_,g0_,gz_,g4_,gx_,gk_,gi_,gj_,gu_,gt_,go_,gn_,gs_,gm_,f7_,f5_,f8_,f4_,Int.add_zero,Int.zero_add,Int.ediv_one,Nat.reduceAdd,Nat.reduceMul,Int.reduceNeg,Nat.reduceLeDiff,List.length_cons,List.length_nil,true_and,and_true,Nat.zero_add,eq_self,Nat.reduceEqDiff,Int.reduceAdd,Int.reduceSub,Int.reduceMul,not_true_eq_false,not_false_eq_true,Nat.reduceLT,Int.reduceToNat,Int.reduceEq,Int.reduceNe,Int.reduceLT,Int.reduceLE,or_true,or_false,and_false,false_and,false_implies,true_implies,qw]
      refine ⟨by omega, ?_⟩
      exact step
  have loop1 : ∀ n s : Nat, s + n = 12 → J M_M_carryAll 77 [some (.ref 90), some (.ref 101), some (.int (zI 0)), some (.int (zI s))] [] (HM (mkR (mixI (rSl S) (rSl R) s) (rKi R) (rFi R) (rFa R) (rWo R) (rMen S) (hd_ S) (rLoad S) (rSnow S) (hh_ S)) rf lt lsz a0 ib sm pl lo nu kp ig hmg (((5 + s : Nat) : Int)) (0) (.ref 101) tu tz tf tn tsz ga sd bb) Q := by
    intro n
    induction n with
    | zero =>
      intro s hs
      have e : s = 12 := by omega
      subst e
      have step := loop2 8 0 (by omega)
      rw [mix_0, mix_0, mix_0, mix_0] at step
      rw [mix_all (fun j hj => by rw [hS.1 j hj, hC.1 j hj])]
      refine w_M_carryAll_77 ?_
      simp (disch := omega) only [cm_,aq_,ay_,ag_,b8_,af_,ba_,bc_,bg_,am_,ae_,ac_,b2_,bj_,bq_,ed_,bs_,ao_,c4_,az_,dw_,d6_,ea_,d3_,b5_,fl_,fn_,fh_,fu_,fp_,fz_,fq_,fk_,fr_,ft_,fs_,f0_,c5_,bd_,c3_,ck_,c2_,ct_,cr_,cf_,ch_,an_,cl_,dt_,dv_,du_,dr_,ds_,cd_,a9_,a8_,a7_,ce_,fy_,fv_,d1_,d0_,Int.toNat_natCast,f3_,di_,dm_,dn_,gv_,g1_,g0_,gz_,g4_,gx_,gk_,gi_,gj_,gu_,gt_,go_,gn_,gs_,gm_,f7_,f5_,f8_,f4_,Int.add_zero,Int.zero_add,Int.ediv_one,Nat.reduceAdd,Nat.reduceMul,Int.reduceNeg,Nat.reduceLeDiff,List.length_cons,List.length_nil,true_and,and_true,Nat.zero_add,eq_self,Nat.reduceEqDiff,Int.reduceAdd,Int.reduceSub,Int.reduceMul,not_true_eq_false,not_false_eq_true,Nat.reduceLT,Int.reduceToNat,Int.reduceEq,Int.reduceNe,Int.reduceLT,Int.reduceLE,or_true,or_false,and_false,false_and,false_implies,true_implies]
      refine w_M_carryAll_105 ?_
      simp (disch := omega) only [cm_,aq_,ay_,ag_,b8_,af_,ba_,bc_,bg_,am_,ae_,ac_,b2_,bj_,bq_,ed_,bs_,ao_,c4_,az_,dw_,d6_,ea_,d3_,b5_,fl_,fn_,fh_,fu_,fp_,fz_,fq_,fk_,fr_,ft_,fs_,f0_,c5_,bd_,c3_,ck_,c2_,ct_,cr_,cf_,ch_,an_,cl_,dt_,dv_,du_,dr_,ds_,cd_,a9_,a8_,a7_,ce_,fy_,fv_,d1_,d0_,Int.toNat_natCast,f3_,di_,dm_,dn_,gv_,g1_,g0_,gz_,g4_,gx_,gk_,gi_,gj_,gu_,gt_,go_,gn_,gs_,gm_,f7_,f5_,f8_,f4_,Int.add_zero,Int.zero_add,Int.ediv_one,Nat.reduceAdd,Nat.reduceMul,Int.reduceNeg,Nat.reduceLeDiff,List.length_cons,List.length_nil,true_and,and_true,Nat.zero_add,eq_self,Nat.reduceEqDiff,Int.reduceAdd,Int.reduceSub,Int.reduceMul,not_true_eq_false,not_false_eq_true,Nat.reduceLT,Int.reduceToNat,Int.reduceEq,Int.reduceNe,Int.reduceLT,Int.reduceLE,or_true,or_false,and_false,false_and,false_implies,true_implies]
      exact step
    | succ n ih =>
      intro s hs
      have step := ih (s + 1) (by omega)
      rw [← mix_s] at step
      have qs : kp (5 + s) = rSl S s := (hk _ (by omega)).trans (fl_s S (by omega))
      refine w_M_carryAll_77 ?_
      simp (disch := omega) only [cm_,aq_,ay_,ag_,b8_,af_,ba_,bc_,bg_,am_,ae_,ac_,b2_,bj_,bq_,ed_,bs_,ao_,c4_,az_,dw_,d6_,ea_,d3_,b5_,fl_,fn_,fh_,fu_,fp_,fz_,fq_,fk_,fr_,ft_,fs_,f0_,c5_,bd_,c3_,ck_,c2_,ct_,cr_,cf_,ch_,an_,cl_,dt_,dv_,du_,dr_,ds_,cd_,a9_,a8_,a7_,ce_,fy_,fv_,d1_,d0_,Int.toNat_natCast,f3_,di_,dm_,dn_,gv_,g1_,g0_,gz_,g4_,gx_,gk_,gi_,gj_,gu_,gt_,go_,gn_,gs_,gm_,f7_,f5_,f8_,f4_,Int.add_zero,Int.zero_add,Int.ediv_one,Nat.reduceAdd,Nat.reduceMul,Int.reduceNeg,Nat.reduceLeDiff,List.length_cons,List.length_nil,true_and,and_true,Nat.zero_add,eq_self,Nat.reduceEqDiff,Int.reduceAdd,Int.reduceSub,Int.reduceMul,not_true_eq_false,not_false_eq_true,Nat.reduceLT,Int.reduceToNat,Int.reduceEq,Int.reduceNe,Int.reduceLT,Int.reduceLE,or_true,or_false,and_false,false_and,false_implies,true_implies]
      refine ⟨fun q => by omega, fun _ => ⟨by omega, ?_⟩⟩
      refine con_cG_K (p := 5 + s) (by omega) ?_
      simp (disch := omega) only [cm_,aq_,ay_,ag_,b8_,af_,ba_,bc_,bg_,am_,ae_,ac_,b2_,bj_,bq_,ed_,bs_,ao_,c4_,az_,dw_,d6_,ea_,d3_,b5_,fl_,fn_,fh_,fu_,fp_,fz_,fq_,fk_,fr_,ft_,fs_,f0_,c5_,bd_,c3_,ck_,c2_,ct_,cr_,cf_,ch_,an_,cl_,dt_,dv_,du_,dr_,ds_,cd_,a9_,a8_,a7_,ce_,fy_,fv_,d1_,d0_,Int.toNat_natCast,f3_,di_,dm_,dn_,gv_,g1_,g0_,gz_,g4_,gx_,gk_,gi_,gj_,gu_,gt_,go_,gn_,gs_,gm_,f7_,f5_,f8_,f4_,Int.add_zero,Int.zero_add,Int.ediv_one,Nat.reduceAdd,Nat.reduceMul,Int.reduceNeg,Nat.reduceLeDiff,List.length_cons,List.length_nil,true_and,and_true,Nat.zero_add,eq_self,Nat.reduceEqDiff,Int.reduceAdd,Int.reduceSub,Int.reduceMul,not_true_eq_false,not_false_eq_true,Nat.reduceLT,Int.reduceToNat,Int.reduceEq,Int.reduceNe,Int.reduceLT,Int.reduceLE,or_true,or_false,and_false,false_and,false_implies,true_implies,qs]
      refine ⟨by omega, ?_⟩
      exact step
  have l1 := loop1 12 0 (by omega)
  rw [mix_0] at l1
  exact l1
theorem con_cT_G {F : Nat → Int} {p : Nat} {v : Int} (hp : p < 49) (hk : ∀ j, j < p → ig j = F j) (hv : v = F p) (hQ : ∀ x : Nat → Int, (∀ j, j < p + 1 → x j = F j) → Q (some (.int (zI v))) (HM R rf lt lsz a0 ib sm pl lo nu kp (x) hmg (((p + 1 : Nat) : Int)) (1) (.ref 102) tu tz tf tn tsz ga sd bb)) : Con M_M_carry [.ref 90, .int (zI v)] (HM R rf lt lsz a0 ib sm pl lo nu kp ig hmg ((p : Int)) (1) (.ref 102) tu tz tf tn tsz ga sd bb) Q := by
  have kk := hQ (upI ig p v) (fun j hj => by
    simp only [upI]
    by_cases e : j = p
    · subst e; rw [if_pos rfl, hv]
    · rw [if_neg e, hk j (by omega)])
  have e : ((p + 1 : Nat) : Int) - 1 = (p : Int) := by omega
  refine g8_ (L := [some (.ref 90), some (.int (zI v))]) ok_M_carry (Nat.le_of_ble_eq_true rfl) rfl ?_
  refine w_M_carry_0 ?_
  simp (disch := omega) only [cm_,aq_,ay_,ag_,b8_,af_,ba_,bc_,bg_,am_,ae_,ac_,b2_,bj_,bq_,ed_,bs_,ao_,c4_,az_,dw_,d6_,ea_,d3_,b5_,fl_,fn_,fh_,fu_,fp_,fz_,fq_,fk_,fr_,ft_,fs_,f0_,c5_,bd_,c3_,ck_,c2_,ct_,cr_,cf_,ch_,an_,cl_,dt_,dv_,du_,dr_,ds_,cd_,a9_,a8_,a7_,ce_,fy_,fv_,d1_,d0_,Int.toNat_natCast,f3_,di_,dm_,dn_,gv_,g1_,g0_,gz_,g4_,gx_,gk_,gi_,gj_,gu_,gt_,go_,gn_,gs_,gm_,f7_,f5_,f8_,f4_,Int.add_zero,Int.zero_add,Int.ediv_one,Nat.reduceAdd,Nat.reduceMul,Int.reduceNeg,Nat.reduceLeDiff,List.length_cons,List.length_nil,true_and,and_true,Nat.zero_add,eq_self,Nat.reduceEqDiff,Int.reduceAdd,Int.reduceSub,Int.reduceMul,not_true_eq_false,not_false_eq_true,Nat.reduceLT,Int.reduceToNat,Int.reduceEq,Int.reduceNe,Int.reduceLT,Int.reduceLE,or_true,or_false,and_false,false_and,false_implies,true_implies]
  refine ⟨by omega, ?_⟩
  refine w_M_carry_17 ?_
  simp (disch := omega) only [cm_,aq_,ay_,ag_,b8_,af_,ba_,bc_,bg_,am_,ae_,ac_,b2_,bj_,bq_,ed_,bs_,ao_,c4_,az_,dw_,d6_,ea_,d3_,b5_,fl_,fn_,fh_,fu_,fp_,fz_,fq_,fk_,fr_,ft_,fs_,f0_,c5_,bd_,c3_,ck_,c2_,ct_,cr_,cf_,ch_,an_,cl_,dt_,dv_,du_,dr_,ds_,cd_,a9_,a8_,a7_,ce_,fy_,fv_,d1_,d0_,Int.toNat_natCast,f3_,di_,dm_,dn_,gv_,g1_,g0_,gz_,g4_,gx_,gk_,gi_,gj_,gu_,gt_,go_,gn_,gs_,gm_,f7_,f5_,f8_,f4_,Int.add_zero,Int.zero_add,Int.ediv_one,Nat.reduceAdd,Nat.reduceMul,Int.reduceNeg,Nat.reduceLeDiff,List.length_cons,List.length_nil,true_and,and_true,Nat.zero_add,eq_self,Nat.reduceEqDiff,Int.reduceAdd,Int.reduceSub,Int.reduceMul,not_true_eq_false,not_false_eq_true,Nat.reduceLT,Int.reduceToNat,Int.reduceEq,Int.reduceNe,Int.reduceLT,Int.reduceLE,or_true,or_false,and_false,false_and,false_implies,true_implies,e,upI_s]
  exact ⟨by omega, kk⟩
theorem con_cG_G {p : Nat} {v : Int} (hp : p < 49) (hQ : Q (some (.int (zI (ig p)))) (HM R rf lt lsz a0 ib sm pl lo nu kp ig hmg (((p + 1 : Nat) : Int)) (0) (.ref 102) tu tz tf tn tsz ga sd bb)) : Con M_M_carry [.ref 90, .int (zI v)] (HM R rf lt lsz a0 ib sm pl lo nu kp ig hmg ((p : Int)) (0) (.ref 102) tu tz tf tn tsz ga sd bb) Q := by
  have e : ((p + 1 : Nat) : Int) - 1 = (p : Int) := by omega
  refine g8_ (L := [some (.ref 90), some (.int (zI v))]) ok_M_carry (Nat.le_of_ble_eq_true rfl) rfl ?_
  refine w_M_carry_0 ?_
  simp (disch := omega) only [cm_,aq_,ay_,ag_,b8_,af_,ba_,bc_,bg_,am_,ae_,ac_,b2_,bj_,bq_,ed_,bs_,ao_,c4_,az_,dw_,d6_,ea_,d3_,b5_,fl_,fn_,fh_,fu_,fp_,fz_,fq_,fk_,fr_,ft_,fs_,f0_,c5_,bd_,c3_,ck_,c2_,ct_,cr_,cf_,ch_,an_,cl_,dt_,dv_,du_,dr_,ds_,cd_,a9_,a8_,a7_,ce_,fy_,fv_,d1_,d0_,Int.toNat_natCast,f3_,di_,dm_,dn_,gv_,g1_,g0_,gz_,g4_,gx_,gk_,gi_,gj_,gu_,gt_,go_,gn_,gs_,gm_,f7_,f5_,f8_,f4_,Int.add_zero,Int.zero_add,Int.ediv_one,Nat.reduceAdd,Nat.reduceMul,Int.reduceNeg,Nat.reduceLeDiff,List.length_cons,List.length_nil,true_and,and_true,Nat.zero_add,eq_self,Nat.reduceEqDiff,Int.reduceAdd,Int.reduceSub,Int.reduceMul,not_true_eq_false,not_false_eq_true,Nat.reduceLT,Int.reduceToNat,Int.reduceEq,Int.reduceNe,Int.reduceLT,Int.reduceLE,or_true,or_false,and_false,false_and,false_implies,true_implies]
  refine w_M_carry_17 ?_
  simp (disch := omega) only [cm_,aq_,ay_,ag_,b8_,af_,ba_,bc_,bg_,am_,ae_,ac_,b2_,bj_,bq_,ed_,bs_,ao_,c4_,az_,dw_,d6_,ea_,d3_,b5_,fl_,fn_,fh_,fu_,fp_,fz_,fq_,fk_,fr_,ft_,fs_,f0_,c5_,bd_,c3_,ck_,c2_,ct_,cr_,cf_,ch_,an_,cl_,dt_,dv_,du_,dr_,ds_,cd_,a9_,a8_,a7_,ce_,fy_,fv_,d1_,d0_,Int.toNat_natCast,f3_,di_,dm_,dn_,gv_,g1_,g0_,gz_,g4_,gx_,gk_,gi_,gj_,gu_,gt_,go_,gn_,gs_,gm_,f7_,f5_,f8_,f4_,Int.add_zero,Int.zero_add,Int.ediv_one,Nat.reduceAdd,Nat.reduceMul,Int.reduceNeg,Nat.reduceLeDiff,List.length_cons,List.length_nil,true_and,and_true,Nat.zero_add,eq_self,Nat.reduceEqDiff,Int.reduceAdd,Int.reduceSub,Int.reduceMul,not_true_eq_false,not_false_eq_true,Nat.reduceLT,Int.reduceToNat,Int.reduceEq,Int.reduceNe,Int.reduceLT,Int.reduceLE,or_true,or_false,and_false,false_and,false_implies,true_implies,e]
  exact ⟨by omega, hQ⟩
theorem con_take_G (hQ : ∀ x : Nat → Int, (∀ j, j < 49 → x j = fl R j) → Q none (HM R rf lt lsz a0 ib sm pl lo nu kp (x) hmg (49) (1) (.ref 102) tu tz tf tn tsz ga sd bb)) : Con M_M_carryAll [.ref 90, .ref 102, .int (zI 1)] (HM R rf lt lsz a0 ib sm pl lo nu kp ig hmg p0 tk ki tu tz tf tn tsz ga sd bb) Q := by
  refine g8_ (L := [some (.ref 90), some (.ref 102), some (.int (zI 1)), none]) ok_M_carryAll (Nat.le_of_ble_eq_true rfl) rfl ?_
  refine w_M_carryAll_0 ?_
  simp (disch := omega) only [cm_,aq_,ay_,ag_,b8_,af_,ba_,bc_,bg_,am_,ae_,ac_,b2_,bj_,bq_,ed_,bs_,ao_,c4_,az_,dw_,d6_,ea_,d3_,b5_,fl_,fn_,fh_,fu_,fp_,fz_,fq_,fk_,fr_,ft_,fs_,f0_,c5_,bd_,c3_,ck_,c2_,ct_,cr_,cf_,ch_,an_,cl_,dt_,dv_,du_,dr_,ds_,cd_,a9_,a8_,a7_,ce_,fy_,fv_,d1_,d0_,Int.toNat_natCast,f3_,di_,dm_,dn_,gv_,g1_,g0_,gz_,g4_,gx_,gk_,gi_,gj_,gu_,gt_,go_,gn_,gs_,gm_,f7_,f5_,f8_,f4_,Int.add_zero,Int.zero_add,Int.ediv_one,Nat.reduceAdd,Nat.reduceMul,Int.reduceNeg,Nat.reduceLeDiff,List.length_cons,List.length_nil,true_and,and_true,Nat.zero_add,eq_self,Nat.reduceEqDiff,Int.reduceAdd,Int.reduceSub,Int.reduceMul,not_true_eq_false,not_false_eq_true,Nat.reduceLT,Int.reduceToNat,Int.reduceEq,Int.reduceNe,Int.reduceLT,Int.reduceLE,or_true,or_false,and_false,false_and,false_implies,true_implies]
  refine con_cT_G (p := 0) (F := fl R) (by omega) (fun j hj => by omega) (fl_0 R).symm (fun x h1 => ?_)
  simp (disch := omega) only [cm_,aq_,ay_,ag_,b8_,af_,ba_,bc_,bg_,am_,ae_,ac_,b2_,bj_,bq_,ed_,bs_,ao_,c4_,az_,dw_,d6_,ea_,d3_,b5_,fl_,fn_,fh_,fu_,fp_,fz_,fq_,fk_,fr_,ft_,fs_,f0_,c5_,bd_,c3_,ck_,c2_,ct_,cr_,cf_,ch_,an_,cl_,dt_,dv_,du_,dr_,ds_,cd_,a9_,a8_,a7_,ce_,fy_,fv_,d1_,d0_,Int.toNat_natCast,f3_,di_,dm_,dn_,gv_,g1_,g0_,gz_,g4_,gx_,gk_,gi_,gj_,gu_,gt_,go_,gn_,gs_,gm_,f7_,f5_,f8_,f4_,Int.add_zero,Int.zero_add,Int.ediv_one,Nat.reduceAdd,Nat.reduceMul,Int.reduceNeg,Nat.reduceLeDiff,List.length_cons,List.length_nil,true_and,and_true,Nat.zero_add,eq_self,Nat.reduceEqDiff,Int.reduceAdd,Int.reduceSub,Int.reduceMul,not_true_eq_false,not_false_eq_true,Nat.reduceLT,Int.reduceToNat,Int.reduceEq,Int.reduceNe,Int.reduceLT,Int.reduceLE,or_true,or_false,and_false,false_and,false_implies,true_implies]
  refine con_cT_G (p := 1) (F := fl R) (by omega) h1 (fl_1 R).symm (fun x h1 => ?_)
  simp (disch := omega) only [cm_,aq_,ay_,ag_,b8_,af_,ba_,bc_,bg_,am_,ae_,ac_,b2_,bj_,bq_,ed_,bs_,ao_,c4_,az_,dw_,d6_,ea_,d3_,b5_,fl_,fn_,fh_,fu_,fp_,fz_,fq_,fk_,fr_,ft_,fs_,f0_,c5_,bd_,c3_,ck_,c2_,ct_,cr_,cf_,ch_,an_,cl_,dt_,dv_,du_,dr_,ds_,cd_,a9_,a8_,a7_,ce_,fy_,fv_,d1_,d0_,Int.toNat_natCast,f3_,di_,dm_,dn_,gv_,g1_,g0_,gz_,g4_,gx_,gk_,gi_,gj_,gu_,gt_,go_,gn_,gs_,gm_,f7_,f5_,f8_,f4_,Int.add_zero,Int.zero_add,Int.ediv_one,Nat.reduceAdd,Nat.reduceMul,Int.reduceNeg,Nat.reduceLeDiff,List.length_cons,List.length_nil,true_and,and_true,Nat.zero_add,eq_self,Nat.reduceEqDiff,Int.reduceAdd,Int.reduceSub,Int.reduceMul,not_true_eq_false,not_false_eq_true,Nat.reduceLT,Int.reduceToNat,Int.reduceEq,Int.reduceNe,Int.reduceLT,Int.reduceLE,or_true,or_false,and_false,false_and,false_implies,true_implies]
  refine con_cT_G (p := 2) (F := fl R) (by omega) h1 (fl_2 R).symm (fun x h1 => ?_)
  simp (disch := omega) only [cm_,aq_,ay_,ag_,b8_,af_,ba_,bc_,bg_,am_,ae_,ac_,b2_,bj_,bq_,ed_,bs_,ao_,c4_,az_,dw_,d6_,ea_,d3_,b5_,fl_,fn_,fh_,fu_,fp_,fz_,fq_,fk_,fr_,ft_,fs_,f0_,c5_,bd_,c3_,ck_,c2_,ct_,cr_,cf_,ch_,an_,cl_,dt_,dv_,du_,dr_,ds_,cd_,a9_,a8_,a7_,ce_,fy_,fv_,d1_,d0_,Int.toNat_natCast,f3_,di_,dm_,dn_,gv_,g1_,g0_,gz_,g4_,gx_,gk_,gi_,gj_,gu_,gt_,go_,gn_,gs_,gm_,f7_,f5_,f8_,f4_,Int.add_zero,Int.zero_add,Int.ediv_one,Nat.reduceAdd,Nat.reduceMul,Int.reduceNeg,Nat.reduceLeDiff,List.length_cons,List.length_nil,true_and,and_true,Nat.zero_add,eq_self,Nat.reduceEqDiff,Int.reduceAdd,Int.reduceSub,Int.reduceMul,not_true_eq_false,not_false_eq_true,Nat.reduceLT,Int.reduceToNat,Int.reduceEq,Int.reduceNe,Int.reduceLT,Int.reduceLE,or_true,or_false,and_false,false_and,false_implies,true_implies]
  refine con_cT_G (p := 3) (F := fl R) (by omega) h1 (fl_3 R).symm (fun x h1 => ?_)
  simp (disch := omega) only [cm_,aq_,ay_,ag_,b8_,af_,ba_,bc_,bg_,am_,ae_,ac_,b2_,bj_,bq_,ed_,bs_,ao_,c4_,az_,dw_,d6_,ea_,d3_,b5_,fl_,fn_,fh_,fu_,fp_,fz_,fq_,fk_,fr_,ft_,fs_,f0_,c5_,bd_,c3_,ck_,c2_,ct_,cr_,cf_,ch_,an_,cl_,dt_,dv_,du_,dr_,ds_,cd_,a9_,a8_,a7_,ce_,fy_,fv_,d1_,d0_,Int.toNat_natCast,f3_,di_,dm_,dn_,gv_,g1_,g0_,gz_,g4_,gx_,gk_,gi_,gj_,gu_,gt_,go_,gn_,gs_,gm_,f7_,f5_,f8_,f4_,Int.add_zero,Int.zero_add,Int.ediv_one,Nat.reduceAdd,Nat.reduceMul,Int.reduceNeg,Nat.reduceLeDiff,List.length_cons,List.length_nil,true_and,and_true,Nat.zero_add,eq_self,Nat.reduceEqDiff,Int.reduceAdd,Int.reduceSub,Int.reduceMul,not_true_eq_false,not_false_eq_true,Nat.reduceLT,Int.reduceToNat,Int.reduceEq,Int.reduceNe,Int.reduceLT,Int.reduceLE,or_true,or_false,and_false,false_and,false_implies,true_implies]
  refine con_cT_G (p := 4) (F := fl R) (by omega) h1 (fl_4 R).symm (fun x h1 => ?_)
  simp (disch := omega) only [cm_,aq_,ay_,ag_,b8_,af_,ba_,bc_,bg_,am_,ae_,ac_,b2_,bj_,bq_,ed_,bs_,ao_,c4_,az_,dw_,d6_,ea_,d3_,b5_,fl_,fn_,fh_,fu_,fp_,fz_,fq_,fk_,fr_,ft_,fs_,f0_,c5_,bd_,c3_,ck_,c2_,ct_,cr_,cf_,ch_,an_,cl_,dt_,dv_,du_,dr_,ds_,cd_,a9_,a8_,a7_,ce_,fy_,fv_,d1_,d0_,Int.toNat_natCast,f3_,di_,dm_,dn_,gv_,g1_,g0_,gz_,g4_,gx_,gk_,gi_,gj_,gu_,gt_,go_,gn_,gs_,gm_,f7_,f5_,f8_,f4_,Int.add_zero,Int.zero_add,Int.ediv_one,Nat.reduceAdd,Nat.reduceMul,Int.reduceNeg,Nat.reduceLeDiff,List.length_cons,List.length_nil,true_and,and_true,Nat.zero_add,eq_self,Nat.reduceEqDiff,Int.reduceAdd,Int.reduceSub,Int.reduceMul,not_true_eq_false,not_false_eq_true,Nat.reduceLT,Int.reduceToNat,Int.reduceEq,Int.reduceNe,Int.reduceLT,Int.reduceLE,or_true,or_false,and_false,false_and,false_implies,true_implies]
  have loop2 : ∀ n m : Nat, m + n = 8 → ∀ x : Nat → Int, (∀ j, j < 17 + 4 * m → x j = fl R j) → J M_M_carryAll 107 [some (.ref 90), some (.ref 102), some (.int (zI 1)), some (.int (zI m))] [] (HM R rf lt lsz a0 ib sm pl lo nu kp (x) hmg (((17 + 4 * m : Nat) : Int)) (1) (.ref 102) tu tz tf tn tsz ga sd bb) Q := by
    intro n
    induction n with
    | zero =>
      intro m hm x hx
      have e : m = 8 := by omega
      subst e
      refine w_M_carryAll_107 ?_
      simp (disch := omega) only [cm_,aq_,ay_,ag_,b8_,af_,ba_,bc_,bg_,am_,ae_,ac_,b2_,bj_,bq_,ed_,bs_,ao_,c4_,az_,dw_,d6_,ea_,d3_,b5_,fl_,fn_,fh_,fu_,fp_,fz_,fq_,fk_,fr_,ft_,fs_,f0_,c5_,bd_,c3_,ck_,c2_,ct_,cr_,cf_,ch_,an_,cl_,dt_,dv_,du_,dr_,ds_,cd_,a9_,a8_,a7_,ce_,fy_,fv_,d1_,d0_,Int.toNat_natCast,f3_,di_,dm_,dn_,gv_,g1_,g0_,gz_,g4_,gx_,gk_,gi_,gj_,gu_,gt_,go_,gn_,gs_,gm_,f7_,f5_,f8_,f4_,Int.add_zero,Int.zero_add,Int.ediv_one,Nat.reduceAdd,Nat.reduceMul,Int.reduceNeg,Nat.reduceLeDiff,List.length_cons,List.length_nil,true_and,and_true,Nat.zero_add,eq_self,Nat.reduceEqDiff,Int.reduceAdd,Int.reduceSub,Int.reduceMul,not_true_eq_false,not_false_eq_true,Nat.reduceLT,Int.reduceToNat,Int.reduceEq,Int.reduceNe,Int.reduceLT,Int.reduceLE,or_true,or_false,and_false,false_and,false_implies,true_implies]
      refine w_M_carryAll_183 ?_
      simp (disch := omega) only [cm_,aq_,ay_,ag_,b8_,af_,ba_,bc_,bg_,am_,ae_,ac_,b2_,bj_,bq_,ed_,bs_,ao_,c4_,az_,dw_,d6_,ea_,d3_,b5_,fl_,fn_,fh_,fu_,fp_,fz_,fq_,fk_,fr_,ft_,fs_,f0_,c5_,bd_,c3_,ck_,c2_,ct_,cr_,cf_,ch_,an_,cl_,dt_,dv_,du_,dr_,ds_,cd_,a9_,a8_,a7_,ce_,fy_,fv_,d1_,d0_,Int.toNat_natCast,f3_,di_,dm_,dn_,gv_,g1_,g0_,gz_,g4_,gx_,gk_,gi_,gj_,gu_,gt_,go_,gn_,gs_,gm_,f7_,f5_,f8_,f4_,Int.add_zero,Int.zero_add,Int.ediv_one,Nat.reduceAdd,Nat.reduceMul,Int.reduceNeg,Nat.reduceLeDiff,List.length_cons,List.length_nil,true_and,and_true,Nat.zero_add,eq_self,Nat.reduceEqDiff,Int.reduceAdd,Int.reduceSub,Int.reduceMul,not_true_eq_false,not_false_eq_true,Nat.reduceLT,Int.reduceToNat,Int.reduceEq,Int.reduceNe,Int.reduceLT,Int.reduceLE,or_true,or_false,and_false,false_and,false_implies,true_implies]
      exact hQ x hx
    | succ n ih =>
      intro m hm x hx
      refine w_M_carryAll_107 ?_
      simp (disch := omega) only [cm_,aq_,ay_,ag_,b8_,af_,ba_,bc_,bg_,am_,ae_,ac_,b2_,bj_,bq_,ed_,bs_,ao_,c4_,az_,dw_,d6_,ea_,d3_,b5_,fl_,fn_,fh_,fu_,fp_,fz_,fq_,fk_,fr_,ft_,fs_,f0_,c5_,bd_,c3_,ck_,c2_,ct_,cr_,cf_,ch_,an_,cl_,dt_,dv_,du_,dr_,ds_,cd_,a9_,a8_,a7_,ce_,fy_,fv_,d1_,d0_,Int.toNat_natCast,f3_,di_,dm_,dn_,gv_,g1_,g0_,gz_,g4_,gx_,gk_,gi_,gj_,gu_,gt_,go_,gn_,gs_,gm_,f7_,f5_,f8_,f4_,Int.add_zero,Int.zero_add,Int.ediv_one,Nat.reduceAdd,Nat.reduceMul,Int.reduceNeg,Nat.reduceLeDiff,List.length_cons,List.length_nil,true_and,and_true,Nat.zero_add,eq_self,Nat.reduceEqDiff,Int.reduceAdd,Int.reduceSub,Int.reduceMul,not_true_eq_false,not_false_eq_true,Nat.reduceLT,Int.reduceToNat,Int.reduceEq,Int.reduceNe,Int.reduceLT,Int.reduceLE,or_true,or_false,and_false,false_and,false_implies,true_implies]
      refine ⟨fun q => by omega, fun _ => ⟨by omega, ?_⟩⟩
      refine con_cT_G (p := 17 + 4 * m) (F := fl R) (by omega) hx (fl_k R m).symm (fun x hx => ?_)
      simp (disch := omega) only [cm_,aq_,ay_,ag_,b8_,af_,ba_,bc_,bg_,am_,ae_,ac_,b2_,bj_,bq_,ed_,bs_,ao_,c4_,az_,dw_,d6_,ea_,d3_,b5_,fl_,fn_,fh_,fu_,fp_,fz_,fq_,fk_,fr_,ft_,fs_,f0_,c5_,bd_,c3_,ck_,c2_,ct_,cr_,cf_,ch_,an_,cl_,dt_,dv_,du_,dr_,ds_,cd_,a9_,a8_,a7_,ce_,fy_,fv_,d1_,d0_,Int.toNat_natCast,f3_,di_,dm_,dn_,gv_,g1_,g0_,gz_,g4_,gx_,gk_,gi_,gj_,gu_,gt_,go_,gn_,gs_,gm_,f7_,f5_,f8_,f4_,Int.add_zero,Int.zero_add,Int.ediv_one,Nat.reduceAdd,Nat.reduceMul,Int.reduceNeg,Nat.reduceLeDiff,List.length_cons,List.length_nil,true_and,and_true,Nat.zero_add,eq_self,Nat.reduceEqDiff,Int.reduceAdd,Int.reduceSub,Int.reduceMul,not_true_eq_false,not_false_eq_true,Nat.reduceLT,Int.reduceToNat,Int.reduceEq,Int.reduceNe,Int.reduceLT,Int.reduceLE,or_true,or_false,and_false,false_and,false_implies,true_implies,upI_id,sKi_id]
      refine ⟨by omega, by omega, ?_⟩
      refine con_cT_G (p := 17 + 4 * m + 1) (F := fl R) (by omega) hx (fl_f R m).symm (fun x hx => ?_)
      simp (disch := omega) only [cm_,aq_,ay_,ag_,b8_,af_,ba_,bc_,bg_,am_,ae_,ac_,b2_,bj_,bq_,ed_,bs_,ao_,c4_,az_,dw_,d6_,ea_,d3_,b5_,fl_,fn_,fh_,fu_,fp_,fz_,fq_,fk_,fr_,ft_,fs_,f0_,c5_,bd_,c3_,ck_,c2_,ct_,cr_,cf_,ch_,an_,cl_,dt_,dv_,du_,dr_,ds_,cd_,a9_,a8_,a7_,ce_,fy_,fv_,d1_,d0_,Int.toNat_natCast,f3_,di_,dm_,dn_,gv_,g1_,g0_,gz_,g4_,gx_,gk_,gi_,gj_,gu_,gt_,go_,gn_,gs_,gm_,f7_,f5_,f8_,f4_,Int.add_zero,Int.zero_add,Int.ediv_one,Nat.reduceAdd,Nat.reduceMul,Int.reduceNeg,Nat.reduceLeDiff,List.length_cons,List.length_nil,true_and,and_true,Nat.zero_add,eq_self,Nat.reduceEqDiff,Int.reduceAdd,Int.reduceSub,Int.reduceMul,not_true_eq_false,not_false_eq_true,Nat.reduceLT,Int.reduceToNat,Int.reduceEq,Int.reduceNe,Int.reduceLT,Int.reduceLE,or_true,or_false,and_false,false_and,false_implies,true_implies,upI_id,sFi_id]
      refine ⟨by omega, by omega, ?_⟩
      refine con_cT_G (p := 17 + 4 * m + 2) (F := fl R) (by omega) hx (fl_a R m).symm (fun x hx => ?_)
      simp (disch := omega) only [cm_,aq_,ay_,ag_,b8_,af_,ba_,bc_,bg_,am_,ae_,ac_,b2_,bj_,bq_,ed_,bs_,ao_,c4_,az_,dw_,d6_,ea_,d3_,b5_,fl_,fn_,fh_,fu_,fp_,fz_,fq_,fk_,fr_,ft_,fs_,f0_,c5_,bd_,c3_,ck_,c2_,ct_,cr_,cf_,ch_,an_,cl_,dt_,dv_,du_,dr_,ds_,cd_,a9_,a8_,a7_,ce_,fy_,fv_,d1_,d0_,Int.toNat_natCast,f3_,di_,dm_,dn_,gv_,g1_,g0_,gz_,g4_,gx_,gk_,gi_,gj_,gu_,gt_,go_,gn_,gs_,gm_,f7_,f5_,f8_,f4_,Int.add_zero,Int.zero_add,Int.ediv_one,Nat.reduceAdd,Nat.reduceMul,Int.reduceNeg,Nat.reduceLeDiff,List.length_cons,List.length_nil,true_and,and_true,Nat.zero_add,eq_self,Nat.reduceEqDiff,Int.reduceAdd,Int.reduceSub,Int.reduceMul,not_true_eq_false,not_false_eq_true,Nat.reduceLT,Int.reduceToNat,Int.reduceEq,Int.reduceNe,Int.reduceLT,Int.reduceLE,or_true,or_false,and_false,false_and,false_implies,true_implies,upI_id,sFa_id]
      refine ⟨by omega, by omega, ?_⟩
      refine con_cT_G (p := 17 + 4 * m + 3) (F := fl R) (by omega) hx (fl_w R m).symm (fun x hx => ?_)
      simp (disch := omega) only [cm_,aq_,ay_,ag_,b8_,af_,ba_,bc_,bg_,am_,ae_,ac_,b2_,bj_,bq_,ed_,bs_,ao_,c4_,az_,dw_,d6_,ea_,d3_,b5_,fl_,fn_,fh_,fu_,fp_,fz_,fq_,fk_,fr_,ft_,fs_,f0_,c5_,bd_,c3_,ck_,c2_,ct_,cr_,cf_,ch_,an_,cl_,dt_,dv_,du_,dr_,ds_,cd_,a9_,a8_,a7_,ce_,fy_,fv_,d1_,d0_,Int.toNat_natCast,f3_,di_,dm_,dn_,gv_,g1_,g0_,gz_,g4_,gx_,gk_,gi_,gj_,gu_,gt_,go_,gn_,gs_,gm_,f7_,f5_,f8_,f4_,Int.add_zero,Int.zero_add,Int.ediv_one,Nat.reduceAdd,Nat.reduceMul,Int.reduceNeg,Nat.reduceLeDiff,List.length_cons,List.length_nil,true_and,and_true,Nat.zero_add,eq_self,Nat.reduceEqDiff,Int.reduceAdd,Int.reduceSub,Int.reduceMul,not_true_eq_false,not_false_eq_true,Nat.reduceLT,Int.reduceToNat,Int.reduceEq,Int.reduceNe,Int.reduceLT,Int.reduceLE,or_true,or_false,and_false,false_and,false_implies,true_implies,upI_id,sWo_id]
      refine ⟨by omega, ?_⟩
      exact ih (m + 1) (by omega) x hx
  have loop1 : ∀ n s : Nat, s + n = 12 → ∀ x : Nat → Int, (∀ j, j < 5 + s → x j = fl R j) → J M_M_carryAll 77 [some (.ref 90), some (.ref 102), some (.int (zI 1)), some (.int (zI s))] [] (HM R rf lt lsz a0 ib sm pl lo nu kp (x) hmg (((5 + s : Nat) : Int)) (1) (.ref 102) tu tz tf tn tsz ga sd bb) Q := by
    intro n
    induction n with
    | zero =>
      intro s hs x hx
      have e : s = 12 := by omega
      subst e
      refine w_M_carryAll_77 ?_
      simp (disch := omega) only [cm_,aq_,ay_,ag_,b8_,af_,ba_,bc_,bg_,am_,ae_,ac_,b2_,bj_,bq_,ed_,bs_,ao_,c4_,az_,dw_,d6_,ea_,d3_,b5_,fl_,fn_,fh_,fu_,fp_,fz_,fq_,fk_,fr_,ft_,fs_,f0_,c5_,bd_,c3_,ck_,c2_,ct_,cr_,cf_,ch_,an_,cl_,dt_,dv_,du_,dr_,ds_,cd_,a9_,a8_,a7_,ce_,fy_,fv_,d1_,d0_,Int.toNat_natCast,f3_,di_,dm_,dn_,gv_,g1_,g0_,gz_,g4_,gx_,gk_,gi_,gj_,gu_,gt_,go_,gn_,gs_,gm_,f7_,f5_,f8_,f4_,Int.add_zero,Int.zero_add,Int.ediv_one,Nat.reduceAdd,Nat.reduceMul,Int.reduceNeg,Nat.reduceLeDiff,List.length_cons,List.length_nil,true_and,and_true,Nat.zero_add,eq_self,Nat.reduceEqDiff,Int.reduceAdd,Int.reduceSub,Int.reduceMul,not_true_eq_false,not_false_eq_true,Nat.reduceLT,Int.reduceToNat,Int.reduceEq,Int.reduceNe,Int.reduceLT,Int.reduceLE,or_true,or_false,and_false,false_and,false_implies,true_implies]
      refine w_M_carryAll_105 ?_
      simp (disch := omega) only [cm_,aq_,ay_,ag_,b8_,af_,ba_,bc_,bg_,am_,ae_,ac_,b2_,bj_,bq_,ed_,bs_,ao_,c4_,az_,dw_,d6_,ea_,d3_,b5_,fl_,fn_,fh_,fu_,fp_,fz_,fq_,fk_,fr_,ft_,fs_,f0_,c5_,bd_,c3_,ck_,c2_,ct_,cr_,cf_,ch_,an_,cl_,dt_,dv_,du_,dr_,ds_,cd_,a9_,a8_,a7_,ce_,fy_,fv_,d1_,d0_,Int.toNat_natCast,f3_,di_,dm_,dn_,gv_,g1_,g0_,gz_,g4_,gx_,gk_,gi_,gj_,gu_,gt_,go_,gn_,gs_,gm_,f7_,f5_,f8_,f4_,Int.add_zero,Int.zero_add,Int.ediv_one,Nat.reduceAdd,Nat.reduceMul,Int.reduceNeg,Nat.reduceLeDiff,List.length_cons,List.length_nil,true_and,and_true,Nat.zero_add,eq_self,Nat.reduceEqDiff,Int.reduceAdd,Int.reduceSub,Int.reduceMul,not_true_eq_false,not_false_eq_true,Nat.reduceLT,Int.reduceToNat,Int.reduceEq,Int.reduceNe,Int.reduceLT,Int.reduceLE,or_true,or_false,and_false,false_and,false_implies,true_implies]
      exact loop2 8 0 (by omega) x hx
    | succ n ih =>
      intro s hs x hx
      refine w_M_carryAll_77 ?_
      simp (disch := omega) only [cm_,aq_,ay_,ag_,b8_,af_,ba_,bc_,bg_,am_,ae_,ac_,b2_,bj_,bq_,ed_,bs_,ao_,c4_,az_,dw_,d6_,ea_,d3_,b5_,fl_,fn_,fh_,fu_,fp_,fz_,fq_,fk_,fr_,ft_,fs_,f0_,c5_,bd_,c3_,ck_,c2_,ct_,cr_,cf_,ch_,an_,cl_,dt_,dv_,du_,dr_,ds_,cd_,a9_,a8_,a7_,ce_,fy_,fv_,d1_,d0_,Int.toNat_natCast,f3_,di_,dm_,dn_,gv_,g1_,g0_,gz_,g4_,gx_,gk_,gi_,gj_,gu_,gt_,go_,gn_,gs_,gm_,f7_,f5_,f8_,f4_,Int.add_zero,Int.zero_add,Int.ediv_one,Nat.reduceAdd,Nat.reduceMul,Int.reduceNeg,Nat.reduceLeDiff,List.length_cons,List.length_nil,true_and,and_true,Nat.zero_add,eq_self,Nat.reduceEqDiff,Int.reduceAdd,Int.reduceSub,Int.reduceMul,not_true_eq_false,not_false_eq_true,Nat.reduceLT,Int.reduceToNat,Int.reduceEq,Int.reduceNe,Int.reduceLT,Int.reduceLE,or_true,or_false,and_false,false_and,false_implies,true_implies]
      refine ⟨fun q => by omega, fun _ => ⟨by omega, ?_⟩⟩
      refine con_cT_G (p := 5 + s) (F := fl R) (by omega) hx (fl_s R (by omega)).symm (fun x hx => ?_)
      simp (disch := omega) only [cm_,aq_,ay_,ag_,b8_,af_,ba_,bc_,bg_,am_,ae_,ac_,b2_,bj_,bq_,ed_,bs_,ao_,c4_,az_,dw_,d6_,ea_,d3_,b5_,fl_,fn_,fh_,fu_,fp_,fz_,fq_,fk_,fr_,ft_,fs_,f0_,c5_,bd_,c3_,ck_,c2_,ct_,cr_,cf_,ch_,an_,cl_,dt_,dv_,du_,dr_,ds_,cd_,a9_,a8_,a7_,ce_,fy_,fv_,d1_,d0_,Int.toNat_natCast,f3_,di_,dm_,dn_,gv_,g1_,g0_,gz_,g4_,gx_,gk_,gi_,gj_,gu_,gt_,go_,gn_,gs_,gm_,f7_,f5_,f8_,f4_,Int.add_zero,Int.zero_add,Int.ediv_one,Nat.reduceAdd,Nat.reduceMul,Int.reduceNeg,Nat.reduceLeDiff,List.length_cons,List.length_nil,true_and,and_true,Nat.zero_add,eq_self,Nat.reduceEqDiff,Int.reduceAdd,Int.reduceSub,Int.reduceMul,not_true_eq_false,not_false_eq_true,Nat.reduceLT,Int.reduceToNat,Int.reduceEq,Int.reduceNe,Int.reduceLT,Int.reduceLE,or_true,or_false,and_false,false_and,false_implies,true_implies,upI_id,sSl_id]
      refine ⟨by omega, ?_⟩
      exact ih (s + 1) (by omega) x hx
  exact loop1 12 0 (by omega) x h1
theorem con_give_G {S : RR} (hk : ∀ j, j < 49 → ig j = fl S j) (hC : NR R) (hS : NR S) (hQ : Q none (HM (S) rf lt lsz a0 ib sm pl lo nu kp ig hmg (49) (0) (.ref 102) tu tz tf tn tsz ga sd bb)) : Con M_M_carryAll [.ref 90, .ref 102, .int (zI 0)] (HM R rf lt lsz a0 ib sm pl lo nu kp ig hmg p0 tk ki tu tz tf tn tsz ga sd bb) Q := by
  have q0 : ig 0 = rMen S := (hk 0 (by omega)).trans (fl_0 S)
  have q1 : ig 1 = hd_ S := (hk 1 (by omega)).trans (fl_1 S)
  have q2 : ig 2 = rLoad S := (hk 2 (by omega)).trans (fl_2 S)
  have q3 : ig 3 = rSnow S := (hk 3 (by omega)).trans (fl_3 S)
  have q4 : ig 4 = hh_ S := (hk 4 (by omega)).trans (fl_4 S)
  refine g8_ (L := [some (.ref 90), some (.ref 102), some (.int (zI 0)), none]) ok_M_carryAll (Nat.le_of_ble_eq_true rfl) rfl ?_
  refine w_M_carryAll_0 ?_
  simp (disch := omega) only [cm_,aq_,ay_,ag_,b8_,af_,ba_,bc_,bg_,am_,ae_,ac_,b2_,bj_,bq_,ed_,bs_,ao_,c4_,az_,dw_,d6_,ea_,d3_,b5_,fl_,fn_,fh_,fu_,fp_,fz_,fq_,fk_,fr_,ft_,fs_,f0_,c5_,bd_,c3_,ck_,c2_,ct_,cr_,cf_,ch_,an_,cl_,dt_,dv_,du_,dr_,ds_,cd_,a9_,a8_,a7_,ce_,fy_,fv_,d1_,d0_,Int.toNat_natCast,f3_,di_,dm_,dn_,gv_,g1_,g0_,gz_,g4_,gx_,gk_,gi_,gj_,gu_,gt_,go_,gn_,gs_,gm_,f7_,f5_,f8_,f4_,Int.add_zero,Int.zero_add,Int.ediv_one,Nat.reduceAdd,Nat.reduceMul,Int.reduceNeg,Nat.reduceLeDiff,List.length_cons,List.length_nil,true_and,and_true,Nat.zero_add,eq_self,Nat.reduceEqDiff,Int.reduceAdd,Int.reduceSub,Int.reduceMul,not_true_eq_false,not_false_eq_true,Nat.reduceLT,Int.reduceToNat,Int.reduceEq,Int.reduceNe,Int.reduceLT,Int.reduceLE,or_true,or_false,and_false,false_and,false_implies,true_implies]
  refine con_cG_G (p := 0) (by omega) ?_
  simp (disch := omega) only [cm_,aq_,ay_,ag_,b8_,af_,ba_,bc_,bg_,am_,ae_,ac_,b2_,bj_,bq_,ed_,bs_,ao_,c4_,az_,dw_,d6_,ea_,d3_,b5_,fl_,fn_,fh_,fu_,fp_,fz_,fq_,fk_,fr_,ft_,fs_,f0_,c5_,bd_,c3_,ck_,c2_,ct_,cr_,cf_,ch_,an_,cl_,dt_,dv_,du_,dr_,ds_,cd_,a9_,a8_,a7_,ce_,fy_,fv_,d1_,d0_,Int.toNat_natCast,f3_,di_,dm_,dn_,gv_,g1_,g0_,gz_,g4_,gx_,gk_,gi_,gj_,gu_,gt_,go_,gn_,gs_,gm_,f7_,f5_,f8_,f4_,Int.add_zero,Int.zero_add,Int.ediv_one,Nat.reduceAdd,Nat.reduceMul,Int.reduceNeg,Nat.reduceLeDiff,List.length_cons,List.length_nil,true_and,and_true,Nat.zero_add,eq_self,Nat.reduceEqDiff,Int.reduceAdd,Int.reduceSub,Int.reduceMul,not_true_eq_false,not_false_eq_true,Nat.reduceLT,Int.reduceToNat,Int.reduceEq,Int.reduceNe,Int.reduceLT,Int.reduceLE,or_true,or_false,and_false,false_and,false_implies,true_implies,q0]
  refine con_cG_G (p := 1) (by omega) ?_
  simp (disch := omega) only [cm_,aq_,ay_,ag_,b8_,af_,ba_,bc_,bg_,am_,ae_,ac_,b2_,bj_,bq_,ed_,bs_,ao_,c4_,az_,dw_,d6_,ea_,d3_,b5_,fl_,fn_,fh_,fu_,fp_,fz_,fq_,fk_,fr_,ft_,fs_,f0_,c5_,bd_,c3_,ck_,c2_,ct_,cr_,cf_,ch_,an_,cl_,dt_,dv_,du_,dr_,ds_,cd_,a9_,a8_,a7_,ce_,fy_,fv_,d1_,d0_,Int.toNat_natCast,f3_,di_,dm_,dn_,gv_,g1_,g0_,gz_,g4_,gx_,gk_,gi_,gj_,gu_,gt_,go_,gn_,gs_,gm_,f7_,f5_,f8_,f4_,Int.add_zero,Int.zero_add,Int.ediv_one,Nat.reduceAdd,Nat.reduceMul,Int.reduceNeg,Nat.reduceLeDiff,List.length_cons,List.length_nil,true_and,and_true,Nat.zero_add,eq_self,Nat.reduceEqDiff,Int.reduceAdd,Int.reduceSub,Int.reduceMul,not_true_eq_false,not_false_eq_true,Nat.reduceLT,Int.reduceToNat,Int.reduceEq,Int.reduceNe,Int.reduceLT,Int.reduceLE,or_true,or_false,and_false,false_and,false_implies,true_implies,q1]
  refine con_cG_G (p := 2) (by omega) ?_
  simp (disch := omega) only [cm_,aq_,ay_,ag_,b8_,af_,ba_,bc_,bg_,am_,ae_,ac_,b2_,bj_,bq_,ed_,bs_,ao_,c4_,az_,dw_,d6_,ea_,d3_,b5_,fl_,fn_,fh_,fu_,fp_,fz_,fq_,fk_,fr_,ft_,fs_,f0_,c5_,bd_,c3_,ck_,c2_,ct_,cr_,cf_,ch_,an_,cl_,dt_,dv_,du_,dr_,ds_,cd_,a9_,a8_,a7_,ce_,fy_,fv_,d1_,d0_,Int.toNat_natCast,f3_,di_,dm_,dn_,gv_,g1_,g0_,gz_,g4_,gx_,gk_,gi_,gj_,gu_,gt_,go_,gn_,gs_,gm_,f7_,f5_,f8_,f4_,Int.add_zero,Int.zero_add,Int.ediv_one,Nat.reduceAdd,Nat.reduceMul,Int.reduceNeg,Nat.reduceLeDiff,List.length_cons,List.length_nil,true_and,and_true,Nat.zero_add,eq_self,Nat.reduceEqDiff,Int.reduceAdd,Int.reduceSub,Int.reduceMul,not_true_eq_false,not_false_eq_true,Nat.reduceLT,Int.reduceToNat,Int.reduceEq,Int.reduceNe,Int.reduceLT,Int.reduceLE,or_true,or_false,and_false,false_and,false_implies,true_implies,q2]
  refine con_cG_G (p := 3) (by omega) ?_
  simp (disch := omega) only [cm_,aq_,ay_,ag_,b8_,af_,ba_,bc_,bg_,am_,ae_,ac_,b2_,bj_,bq_,ed_,bs_,ao_,c4_,az_,dw_,d6_,ea_,d3_,b5_,fl_,fn_,fh_,fu_,fp_,fz_,fq_,fk_,fr_,ft_,fs_,f0_,c5_,bd_,c3_,ck_,c2_,ct_,cr_,cf_,ch_,an_,cl_,dt_,dv_,du_,dr_,ds_,cd_,a9_,a8_,a7_,ce_,fy_,fv_,d1_,d0_,Int.toNat_natCast,f3_,di_,dm_,dn_,gv_,g1_,g0_,gz_,g4_,gx_,gk_,gi_,gj_,gu_,gt_,go_,gn_,gs_,gm_,f7_,f5_,f8_,f4_,Int.add_zero,Int.zero_add,Int.ediv_one,Nat.reduceAdd,Nat.reduceMul,Int.reduceNeg,Nat.reduceLeDiff,List.length_cons,List.length_nil,true_and,and_true,Nat.zero_add,eq_self,Nat.reduceEqDiff,Int.reduceAdd,Int.reduceSub,Int.reduceMul,not_true_eq_false,not_false_eq_true,Nat.reduceLT,Int.reduceToNat,Int.reduceEq,Int.reduceNe,Int.reduceLT,Int.reduceLE,or_true,or_false,and_false,false_and,false_implies,true_implies,q3]
  refine con_cG_G (p := 4) (by omega) ?_
  simp (disch := omega) only [cm_,aq_,ay_,ag_,b8_,af_,ba_,bc_,bg_,am_,ae_,ac_,b2_,bj_,bq_,ed_,bs_,ao_,c4_,az_,dw_,d6_,ea_,d3_,b5_,fl_,fn_,fh_,fu_,fp_,fz_,fq_,fk_,fr_,ft_,fs_,f0_,c5_,bd_,c3_,ck_,c2_,ct_,cr_,cf_,ch_,an_,cl_,dt_,dv_,du_,dr_,ds_,cd_,a9_,a8_,a7_,ce_,fy_,fv_,d1_,d0_,Int.toNat_natCast,f3_,di_,dm_,dn_,gv_,g1_,g0_,gz_,g4_,gx_,gk_,gi_,gj_,gu_,gt_,go_,gn_,gs_,gm_,f7_,f5_,f8_,f4_,Int.add_zero,Int.zero_add,Int.ediv_one,Nat.reduceAdd,Nat.reduceMul,Int.reduceNeg,Nat.reduceLeDiff,List.length_cons,List.length_nil,true_and,and_true,Nat.zero_add,eq_self,Nat.reduceEqDiff,Int.reduceAdd,Int.reduceSub,Int.reduceMul,not_true_eq_false,not_false_eq_true,Nat.reduceLT,Int.reduceToNat,Int.reduceEq,Int.reduceNe,Int.reduceLT,Int.reduceLE,or_true,or_false,and_false,false_and,false_implies,true_implies,q4]
  have loop2 : ∀ n m : Nat, m + n = 8 → J M_M_carryAll 107 [some (.ref 90), some (.ref 102), some (.int (zI 0)), some (.int (zI m))] [] (HM (mkR (rSl S) (mixI (rKi S) (rKi R) m) (mixI (rFi S) (rFi R) m) (mixI (rFa S) (rFa R) m) (mixI (rWo S) (rWo R) m) (rMen S) (hd_ S) (rLoad S) (rSnow S) (hh_ S)) rf lt lsz a0 ib sm pl lo nu kp ig hmg (((17 + 4 * m : Nat) : Int)) (0) (.ref 102) tu tz tf tn tsz ga sd bb) Q := by
    intro n
    induction n with
    | zero =>
      intro m hm
      have e : m = 8 := by omega
      subst e
      rw [mix_all (fun j hj => by rw [hS.2.1 j hj, hC.2.1 j hj]), mix_all (fun j hj => by rw [hS.2.2.1 j hj, hC.2.2.1 j hj]), mix_all (fun j hj => by rw [hS.2.2.2.1 j hj, hC.2.2.2.1 j hj]), mix_all (fun j hj => by rw [hS.2.2.2.2 j hj, hC.2.2.2.2 j hj]), f4_]
      refine w_M_carryAll_107 ?_
      simp (disch := omega) only [cm_,aq_,ay_,ag_,b8_,af_,ba_,bc_,bg_,am_,ae_,ac_,b2_,bj_,bq_,ed_,bs_,ao_,c4_,az_,dw_,d6_,ea_,d3_,b5_,fl_,fn_,fh_,fu_,fp_,fz_,fq_,fk_,fr_,ft_,fs_,f0_,c5_,bd_,c3_,ck_,c2_,ct_,cr_,cf_,ch_,an_,cl_,dt_,dv_,du_,dr_,ds_,cd_,a9_,a8_,a7_,ce_,fy_,fv_,d1_,d0_,Int.toNat_natCast,f3_,di_,dm_,dn_,gv_,g1_,g0_,gz_,g4_,gx_,gk_,gi_,gj_,gu_,gt_,go_,gn_,gs_,gm_,f7_,f5_,f8_,f4_,Int.add_zero,Int.zero_add,Int.ediv_one,Nat.reduceAdd,Nat.reduceMul,Int.reduceNeg,Nat.reduceLeDiff,List.length_cons,List.length_nil,true_and,and_true,Nat.zero_add,eq_self,Nat.reduceEqDiff,Int.reduceAdd,Int.reduceSub,Int.reduceMul,not_true_eq_false,not_false_eq_true,Nat.reduceLT,Int.reduceToNat,Int.reduceEq,Int.reduceNe,Int.reduceLT,Int.reduceLE,or_true,or_false,and_false,false_and,false_implies,true_implies]
      refine w_M_carryAll_183 ?_
      simp (disch := omega) only [cm_,aq_,ay_,ag_,b8_,af_,ba_,bc_,bg_,am_,ae_,ac_,b2_,bj_,bq_,ed_,bs_,ao_,c4_,az_,dw_,d6_,ea_,d3_,b5_,fl_,fn_,fh_,fu_,fp_,fz_,fq_,fk_,fr_,ft_,fs_,f0_,c5_,bd_,c3_,ck_,c2_,ct_,cr_,cf_,ch_,an_,cl_,dt_,dv_,du_,dr_,ds_,cd_,a9_,a8_,a7_,ce_,fy_,fv_,d1_,d0_,Int.toNat_natCast,f3_,di_,dm_,dn_,gv_,g1_,g0_,gz_,g4_,gx_,gk_,gi_,gj_,gu_,gt_,go_,gn_,gs_,gm_,f7_,f5_,f8_,f4_,Int.add_zero,Int.zero_add,Int.ediv_one,Nat.reduceAdd,Nat.reduceMul,Int.reduceNeg,Nat.reduceLeDiff,List.length_cons,List.length_nil,true_and,and_true,Nat.zero_add,eq_self,Nat.reduceEqDiff,Int.reduceAdd,Int.reduceSub,Int.reduceMul,not_true_eq_false,not_false_eq_true,Nat.reduceLT,Int.reduceToNat,Int.reduceEq,Int.reduceNe,Int.reduceLT,Int.reduceLE,or_true,or_false,and_false,false_and,false_implies,true_implies]
      exact hQ
    | succ n ih =>
      intro m hm
      have step := ih (m + 1) (by omega)
      rw [← mix_s, ← mix_s, ← mix_s, ← mix_s] at step
      have qk : ig (17 + 4 * m) = rKi S m := (hk _ (by omega)).trans (fl_k S m)
      have qf : ig (17 + 4 * m + 1) = rFi S m := (hk _ (by omega)).trans (fl_f S m)
      have qa : ig (17 + 4 * m + 2) = rFa S m := (hk _ (by omega)).trans (fl_a S m)
      have qw : ig (17 + 4 * m + 3) = rWo S m := (hk _ (by omega)).trans (fl_w S m)
      refine w_M_carryAll_107 ?_
      simp (disch := omega) only [cm_,aq_,ay_,ag_,b8_,af_,ba_,bc_,bg_,am_,ae_,ac_,b2_,bj_,bq_,ed_,bs_,ao_,c4_,az_,dw_,d6_,ea_,d3_,b5_,fl_,fn_,fh_,fu_,fp_,fz_,fq_,fk_,fr_,ft_,fs_,f0_,c5_,bd_,c3_,ck_,c2_,ct_,cr_,cf_,ch_,an_,cl_,dt_,dv_,du_,dr_,ds_,cd_,a9_,a8_,a7_,ce_,fy_,fv_,d1_,d0_,Int.toNat_natCast,f3_,di_,dm_,dn_,gv_,g1_,g0_,gz_,g4_,gx_,gk_,gi_,gj_,gu_,gt_,go_,gn_,gs_,gm_,f7_,f5_,f8_,f4_,Int.add_zero,Int.zero_add,Int.ediv_one,Nat.reduceAdd,Nat.reduceMul,Int.reduceNeg,Nat.reduceLeDiff,List.length_cons,List.length_nil,true_and,and_true,Nat.zero_add,eq_self,Nat.reduceEqDiff,Int.reduceAdd,Int.reduceSub,Int.reduceMul,not_true_eq_false,not_false_eq_true,Nat.reduceLT,Int.reduceToNat,Int.reduceEq,Int.reduceNe,Int.reduceLT,Int.reduceLE,or_true,or_false,and_false,false_and,false_implies,true_implies]
      refine ⟨fun q => by omega, fun _ => ⟨by omega, ?_⟩⟩
      refine con_cG_G (p := 17 + 4 * m) (by omega) ?_
      simp (disch := omega) only [cm_,aq_,ay_,ag_,b8_,af_,ba_,bc_,bg_,am_,ae_,ac_,b2_,bj_,bq_,ed_,bs_,ao_,c4_,az_,dw_,d6_,ea_,d3_,b5_,fl_,fn_,fh_,fu_,fp_,fz_,fq_,fk_,fr_,ft_,fs_,f0_,c5_,bd_,c3_,ck_,c2_,ct_,cr_,cf_,ch_,an_,cl_,dt_,dv_,du_,dr_,ds_,cd_,a9_,a8_,a7_,ce_,fy_,fv_,d1_,d0_,Int.toNat_natCast,f3_,di_,dm_,dn_,gv_,g1_,g0_,gz_,g4_,gx_,gk_,gi_,gj_,gu_,gt_,go_,gn_,gs_,gm_,f7_,f5_,f8_,f4_,Int.add_zero,Int.zero_add,Int.ediv_one,Nat.reduceAdd,Nat.reduceMul,Int.reduceNeg,Nat.reduceLeDiff,List.length_cons,List.length_nil,true_and,and_true,Nat.zero_add,eq_self,Nat.reduceEqDiff,Int.reduceAdd,Int.reduceSub,Int.reduceMul,not_true_eq_false,not_false_eq_true,Nat.reduceLT,Int.reduceToNat,Int.reduceEq,Int.reduceNe,Int.reduceLT,Int.reduceLE,or_true,or_false,and_false,false_and,false_implies,true_implies,qk]
      refine ⟨by omega, by omega, ?_⟩
      refine con_cG_G (p := 17 + 4 * m + 1) (by omega) ?_
      simp (disch := omega) only [cm_,aq_,ay_,ag_,b8_,af_,ba_,bc_,bg_,am_,ae_,ac_,b2_,bj_,bq_,ed_,bs_,ao_,c4_,az_,dw_,d6_,ea_,d3_,b5_,fl_,fn_,fh_,fu_,fp_,fz_,fq_,fk_,fr_,ft_,fs_,f0_,c5_,bd_,c3_,ck_,c2_,ct_,cr_,cf_,ch_,an_,cl_,dt_,dv_,du_,dr_,ds_,cd_,a9_,a8_,a7_,ce_,fy_,fv_,d1_,d0_,Int.toNat_natCast,f3_,di_,dm_,dn_,gv_,g1_,g0_,gz_,g4_,gx_,gk_,gi_,gj_,gu_,gt_,go_,gn_,gs_,gm_,f7_,f5_,f8_,f4_,Int.add_zero,Int.zero_add,Int.ediv_one,Nat.reduceAdd,Nat.reduceMul,Int.reduceNeg,Nat.reduceLeDiff,List.length_cons,List.length_nil,true_and,and_true,Nat.zero_add,eq_self,Nat.reduceEqDiff,Int.reduceAdd,Int.reduceSub,Int.reduceMul,not_true_eq_false,not_false_eq_true,Nat.reduceLT,Int.reduceToNat,Int.reduceEq,Int.reduceNe,Int.reduceLT,Int.reduceLE,or_true,or_false,and_false,false_and,false_implies,true_implies,qf]
      refine ⟨by omega, by omega, ?_⟩
      refine con_cG_G (p := 17 + 4 * m + 2) (by omega) ?_
      simp (disch := omega) only [cm_,aq_,ay_,ag_,b8_,af_,ba_,bc_,bg_,am_,ae_,ac_,b2_,bj_,bq_,ed_,bs_,ao_,c4_,az_,dw_,d6_,ea_,d3_,b5_,fl_,fn_,fh_,fu_,fp_,fz_,fq_,fk_,fr_,ft_,fs_,f0_,c5_,bd_,c3_,ck_,c2_,ct_,cr_,cf_,ch_,an_,cl_,dt_,dv_,du_,dr_,ds_,cd_,a9_,a8_,a7_,ce_,fy_,fv_,d1_,d0_,Int.toNat_natCast,f3_,di_,dm_,dn_,gv_,g1_,g0_,gz_,g4_,gx_,gk_,gi_,gj_,gu_,gt_,go_,gn_,gs_,gm_,f7_,f5_,f8_,f4_,Int.add_zero,Int.zero_add,Int.ediv_one,Nat.reduceAdd,Nat.reduceMul,Int.reduceNeg,Nat.reduceLeDiff,List.length_cons,List.length_nil,true_and,and_true,Nat.zero_add,eq_self,Nat.reduceEqDiff,Int.reduceAdd,Int.reduceSub,Int.reduceMul,not_true_eq_false,not_false_eq_true,Nat.reduceLT,Int.reduceToNat,Int.reduceEq,Int.reduceNe,Int.reduceLT,Int.reduceLE,or_true,or_false,and_false,false_and,false_implies,true_implies,qa]
      refine ⟨by omega, by omega, ?_⟩
      refine con_cG_G (p := 17 + 4 * m + 3) (by omega) ?_
      simp (disch := omega) only [cm_,aq_,ay_,ag_,b8_,af_,ba_,bc_,bg_,am_,ae_,ac_,b2_,bj_,bq_,ed_,bs_,ao_,c4_,az_,dw_,d6_,ea_,d3_,b5_,fl_,fn_,fh_,fu_,fp_,fz_,fq_,fk_,fr_,ft_,fs_,f0_,c5_,bd_,c3_,ck_,c2_,ct_,cr_,cf_,ch_,an_,cl_,dt_,dv_,du_,dr_,ds_,cd_,a9_,a8_,a7_,ce_,fy_,fv_,d1_,d0_,Int.toNat_natCast,f3_,di_,dm_,dn_,gv_,g1_,g0_,gz_,g4_,gx_,gk_,gi_,gj_,gu_,gt_,go_,gn_,gs_,gm_,f7_,f5_,f8_,f4_,Int.add_zero,Int.zero_add,Int.ediv_one,Nat.reduceAdd,Nat.reduceMul,Int.reduceNeg,Nat.reduceLeDiff,List.length_cons,List.length_nil,true_and,and_true,Nat.zero_add,eq_self,Nat.reduceEqDiff,Int.reduceAdd,Int.reduceSub,Int.reduceMul,not_true_eq_false,not_false_eq_true,Nat.reduceLT,Int.reduceToNat,Int.reduceEq,Int.reduceNe,Int.reduceLT,Int.reduceLE,or_true,or_false,and_false,false_and,false_implies,true_implies,qw]
      refine ⟨by omega, ?_⟩
      exact step
  have loop1 : ∀ n s : Nat, s + n = 12 → J M_M_carryAll 77 [some (.ref 90), some (.ref 102), some (.int (zI 0)), some (.int (zI s))] [] (HM (mkR (mixI (rSl S) (rSl R) s) (rKi R) (rFi R) (rFa R) (rWo R) (rMen S) (hd_ S) (rLoad S) (rSnow S) (hh_ S)) rf lt lsz a0 ib sm pl lo nu kp ig hmg (((5 + s : Nat) : Int)) (0) (.ref 102) tu tz tf tn tsz ga sd bb) Q := by
    intro n
    induction n with
    | zero =>
      intro s hs
      have e : s = 12 := by omega
      subst e
      have step := loop2 8 0 (by omega)
      rw [mix_0, mix_0, mix_0, mix_0] at step
      rw [mix_all (fun j hj => by rw [hS.1 j hj, hC.1 j hj])]
      refine w_M_carryAll_77 ?_
      simp (disch := omega) only [cm_,aq_,ay_,ag_,b8_,af_,ba_,bc_,bg_,am_,ae_,ac_,b2_,bj_,bq_,ed_,bs_,ao_,c4_,az_,dw_,d6_,ea_,d3_,b5_,fl_,fn_,fh_,fu_,fp_,fz_,fq_,fk_,fr_,ft_,fs_,f0_,c5_,bd_,c3_,ck_,c2_,ct_,cr_,cf_,ch_,an_,cl_,dt_,dv_,du_,dr_,ds_,cd_,a9_,a8_,a7_,ce_,fy_,fv_,d1_,d0_,Int.toNat_natCast,f3_,di_,dm_,dn_,gv_,g1_,g0_,gz_,g4_,gx_,gk_,gi_,gj_,gu_,gt_,go_,gn_,gs_,gm_,f7_,f5_,f8_,f4_,Int.add_zero,Int.zero_add,Int.ediv_one,Nat.reduceAdd,Nat.reduceMul,Int.reduceNeg,Nat.reduceLeDiff,List.length_cons,List.length_nil,true_and,and_true,Nat.zero_add,eq_self,Nat.reduceEqDiff,Int.reduceAdd,Int.reduceSub,Int.reduceMul,not_true_eq_false,not_false_eq_true,Nat.reduceLT,Int.reduceToNat,Int.reduceEq,Int.reduceNe,Int.reduceLT,Int.reduceLE,or_true,or_false,and_false,false_and,false_implies,true_implies]
      refine w_M_carryAll_105 ?_
      simp (disch := omega) only [cm_,aq_,ay_,ag_,b8_,af_,ba_,bc_,bg_,am_,ae_,ac_,b2_,bj_,bq_,ed_,bs_,ao_,c4_,az_,dw_,d6_,ea_,d3_,b5_,fl_,fn_,fh_,fu_,fp_,fz_,fq_,fk_,fr_,ft_,fs_,f0_,c5_,bd_,c3_,ck_,c2_,ct_,cr_,cf_,ch_,an_,cl_,dt_,dv_,du_,dr_,ds_,cd_,a9_,a8_,a7_,ce_,fy_,fv_,d1_,d0_,Int.toNat_natCast,f3_,di_,dm_,dn_,gv_,g1_,g0_,gz_,g4_,gx_,gk_,gi_,gj_,gu_,gt_,go_,gn_,gs_,gm_,f7_,f5_,f8_,f4_,Int.add_zero,Int.zero_add,Int.ediv_one,Nat.reduceAdd,Nat.reduceMul,Int.reduceNeg,Nat.reduceLeDiff,List.length_cons,List.length_nil,true_and,and_true,Nat.zero_add,eq_self,Nat.reduceEqDiff,Int.reduceAdd,Int.reduceSub,Int.reduceMul,not_true_eq_false,not_false_eq_true,Nat.reduceLT,Int.reduceToNat,Int.reduceEq,Int.reduceNe,Int.reduceLT,Int.reduceLE,or_true,or_false,and_false,false_and,false_implies,true_implies]
      exact step
    | succ n ih =>
      intro s hs
      have step := ih (s + 1) (by omega)
      rw [← mix_s] at step
      have qs : ig (5 + s) = rSl S s := (hk _ (by omega)).trans (fl_s S (by omega))
      refine w_M_carryAll_77 ?_
      simp (disch := omega) only [cm_,aq_,ay_,ag_,b8_,af_,ba_,bc_,bg_,am_,ae_,ac_,b2_,bj_,bq_,ed_,bs_,ao_,c4_,az_,dw_,d6_,ea_,d3_,b5_,fl_,fn_,fh_,fu_,fp_,fz_,fq_,fk_,fr_,ft_,fs_,f0_,c5_,bd_,c3_,ck_,c2_,ct_,cr_,cf_,ch_,an_,cl_,dt_,dv_,du_,dr_,ds_,cd_,a9_,a8_,a7_,ce_,fy_,fv_,d1_,d0_,Int.toNat_natCast,f3_,di_,dm_,dn_,gv_,g1_,g0_,gz_,g4_,gx_,gk_,gi_,gj_,gu_,gt_,go_,gn_,gs_,gm_,f7_,f5_,f8_,f4_,Int.add_zero,Int.zero_add,Int.ediv_one,Nat.reduceAdd,Nat.reduceMul,Int.reduceNeg,Nat.reduceLeDiff,List.length_cons,List.length_nil,true_and,and_true,Nat.zero_add,eq_self,Nat.reduceEqDiff,Int.reduceAdd,Int.reduceSub,Int.reduceMul,not_true_eq_false,not_false_eq_true,Nat.reduceLT,Int.reduceToNat,Int.reduceEq,Int.reduceNe,Int.reduceLT,Int.reduceLE,or_true,or_false,and_false,false_and,false_implies,true_implies]
      refine ⟨fun q => by omega, fun _ => ⟨by omega, ?_⟩⟩
      refine con_cG_G (p := 5 + s) (by omega) ?_
      simp (disch := omega) only [cm_,aq_,ay_,ag_,b8_,af_,ba_,bc_,bg_,am_,ae_,ac_,b2_,bj_,bq_,ed_,bs_,ao_,c4_,az_,dw_,d6_,ea_,d3_,b5_,fl_,fn_,fh_,fu_,fp_,fz_,fq_,fk_,fr_,ft_,fs_,f0_,c5_,bd_,c3_,ck_,c2_,ct_,cr_,cf_,ch_,an_,cl_,dt_,dv_,du_,dr_,ds_,cd_,a9_,a8_,a7_,ce_,fy_,fv_,d1_,d0_,Int.toNat_natCast,f3_,di_,dm_,dn_,gv_,g1_,g0_,gz_,g4_,gx_,gk_,gi_,gj_,gu_,gt_,go_,gn_,gs_,gm_,f7_,f5_,f8_,f4_,Int.add_zero,Int.zero_add,Int.ediv_one,Nat.reduceAdd,Nat.reduceMul,Int.reduceNeg,Nat.reduceLeDiff,List.length_cons,List.length_nil,true_and,and_true,Nat.zero_add,eq_self,Nat.reduceEqDiff,Int.reduceAdd,Int.reduceSub,Int.reduceMul,not_true_eq_false,not_false_eq_true,Nat.reduceLT,Int.reduceToNat,Int.reduceEq,Int.reduceNe,Int.reduceLT,Int.reduceLE,or_true,or_false,and_false,false_and,false_implies,true_implies,qs]
      refine ⟨by omega, ?_⟩
      exact step
  have l1 := loop1 12 0 (by omega)
  rw [mix_0] at l1
  exact l1
theorem con_cT_T {F : Nat → Int} {p : Nat} {v : Int} (hp : p < 49) (hk : ∀ j, j < p → tf j = F j) (hv : v = F p) (hQ : ∀ x : Nat → Int, (∀ j, j < p + 1 → x j = F j) → Q (some (.int (zI v))) (HM R rf lt lsz a0 ib sm pl lo nu kp ig hmg (((p + 1 : Nat) : Int)) (1) (.ref 104) tu tz (x) tn tsz ga sd bb)) : Con M_M_carry [.ref 90, .int (zI v)] (HM R rf lt lsz a0 ib sm pl lo nu kp ig hmg ((p : Int)) (1) (.ref 104) tu tz tf tn tsz ga sd bb) Q := by
  have kk := hQ (upI tf p v) (fun j hj => by
    simp only [upI]
    by_cases e : j = p
    · subst e; rw [if_pos rfl, hv]
    · rw [if_neg e, hk j (by omega)])
  have e : ((p + 1 : Nat) : Int) - 1 = (p : Int) := by omega
  refine g8_ (L := [some (.ref 90), some (.int (zI v))]) ok_M_carry (Nat.le_of_ble_eq_true rfl) rfl ?_
  refine w_M_carry_0 ?_
  simp (disch := omega) only [cm_,aq_,ay_,ag_,b8_,af_,ba_,bc_,bg_,am_,ae_,ac_,b2_,bj_,bq_,ed_,bs_,ao_,c4_,az_,dw_,d6_,ea_,d3_,b5_,fl_,fn_,fh_,fu_,fp_,fz_,fq_,fk_,fr_,ft_,fs_,f0_,c5_,bd_,c3_,ck_,c2_,ct_,cr_,cf_,ch_,an_,cl_,dt_,dv_,du_,dr_,ds_,cd_,a9_,a8_,a7_,ce_,fy_,fv_,d1_,d0_,Int.toNat_natCast,f3_,di_,dm_,dn_,gv_,g1_,g0_,gz_,g4_,gx_,gk_,gi_,gj_,gu_,gt_,go_,gn_,gs_,gm_,f7_,f5_,f8_,f4_,Int.add_zero,Int.zero_add,Int.ediv_one,Nat.reduceAdd,Nat.reduceMul,Int.reduceNeg,Nat.reduceLeDiff,List.length_cons,List.length_nil,true_and,and_true,Nat.zero_add,eq_self,Nat.reduceEqDiff,Int.reduceAdd,Int.reduceSub,Int.reduceMul,not_true_eq_false,not_false_eq_true,Nat.reduceLT,Int.reduceToNat,Int.reduceEq,Int.reduceNe,Int.reduceLT,Int.reduceLE,or_true,or_false,and_false,false_and,false_implies,true_implies]
  refine ⟨by omega, ?_⟩
  refine w_M_carry_17 ?_
  simp (disch := omega) only [cm_,aq_,ay_,ag_,b8_,af_,ba_,bc_,bg_,am_,ae_,ac_,b2_,bj_,bq_,ed_,bs_,ao_,c4_,az_,dw_,d6_,ea_,d3_,b5_,fl_,fn_,fh_,fu_,fp_,fz_,fq_,fk_,fr_,ft_,fs_,f0_,c5_,bd_,c3_,ck_,c2_,ct_,cr_,cf_,ch_,an_,cl_,dt_,dv_,du_,dr_,ds_,cd_,a9_,a8_,a7_,ce_,fy_,fv_,d1_,d0_,Int.toNat_natCast,f3_,di_,dm_,dn_,gv_,g1_,g0_,gz_,g4_,gx_,gk_,gi_,gj_,gu_,gt_,go_,gn_,gs_,gm_,f7_,f5_,f8_,f4_,Int.add_zero,Int.zero_add,Int.ediv_one,Nat.reduceAdd,Nat.reduceMul,Int.reduceNeg,Nat.reduceLeDiff,List.length_cons,List.length_nil,true_and,and_true,Nat.zero_add,eq_self,Nat.reduceEqDiff,Int.reduceAdd,Int.reduceSub,Int.reduceMul,not_true_eq_false,not_false_eq_true,Nat.reduceLT,Int.reduceToNat,Int.reduceEq,Int.reduceNe,Int.reduceLT,Int.reduceLE,or_true,or_false,and_false,false_and,false_implies,true_implies,e,upI_s]
  exact ⟨by omega, kk⟩
theorem con_cG_T {p : Nat} {v : Int} (hp : p < 49) (hQ : Q (some (.int (zI (tf p)))) (HM R rf lt lsz a0 ib sm pl lo nu kp ig hmg (((p + 1 : Nat) : Int)) (0) (.ref 104) tu tz tf tn tsz ga sd bb)) : Con M_M_carry [.ref 90, .int (zI v)] (HM R rf lt lsz a0 ib sm pl lo nu kp ig hmg ((p : Int)) (0) (.ref 104) tu tz tf tn tsz ga sd bb) Q := by
  have e : ((p + 1 : Nat) : Int) - 1 = (p : Int) := by omega
  refine g8_ (L := [some (.ref 90), some (.int (zI v))]) ok_M_carry (Nat.le_of_ble_eq_true rfl) rfl ?_
  refine w_M_carry_0 ?_
  simp (disch := omega) only [cm_,aq_,ay_,ag_,b8_,af_,ba_,bc_,bg_,am_,ae_,ac_,b2_,bj_,bq_,ed_,bs_,ao_,c4_,az_,dw_,d6_,ea_,d3_,b5_,fl_,fn_,fh_,fu_,fp_,fz_,fq_,fk_,fr_,ft_,fs_,f0_,c5_,bd_,c3_,ck_,c2_,ct_,cr_,cf_,ch_,an_,cl_,dt_,dv_,du_,dr_,ds_,cd_,a9_,a8_,a7_,ce_,fy_,fv_,d1_,d0_,Int.toNat_natCast,f3_,di_,dm_,dn_,gv_,g1_,g0_,gz_,g4_,gx_,gk_,gi_,gj_,gu_,gt_,go_,gn_,gs_,gm_,f7_,f5_,f8_,f4_,Int.add_zero,Int.zero_add,Int.ediv_one,Nat.reduceAdd,Nat.reduceMul,Int.reduceNeg,Nat.reduceLeDiff,List.length_cons,List.length_nil,true_and,and_true,Nat.zero_add,eq_self,Nat.reduceEqDiff,Int.reduceAdd,Int.reduceSub,Int.reduceMul,not_true_eq_false,not_false_eq_true,Nat.reduceLT,Int.reduceToNat,Int.reduceEq,Int.reduceNe,Int.reduceLT,Int.reduceLE,or_true,or_false,and_false,false_and,false_implies,true_implies]
  refine w_M_carry_17 ?_
  simp (disch := omega) only [cm_,aq_,ay_,ag_,b8_,af_,ba_,bc_,bg_,am_,ae_,ac_,b2_,bj_,bq_,ed_,bs_,ao_,c4_,az_,dw_,d6_,ea_,d3_,b5_,fl_,fn_,fh_,fu_,fp_,fz_,fq_,fk_,fr_,ft_,fs_,f0_,c5_,bd_,c3_,ck_,c2_,ct_,cr_,cf_,ch_,an_,cl_,dt_,dv_,du_,dr_,ds_,cd_,a9_,a8_,a7_,ce_,fy_,fv_,d1_,d0_,Int.toNat_natCast,f3_,di_,dm_,dn_,gv_,g1_,g0_,gz_,g4_,gx_,gk_,gi_,gj_,gu_,gt_,go_,gn_,gs_,gm_,f7_,f5_,f8_,f4_,Int.add_zero,Int.zero_add,Int.ediv_one,Nat.reduceAdd,Nat.reduceMul,Int.reduceNeg,Nat.reduceLeDiff,List.length_cons,List.length_nil,true_and,and_true,Nat.zero_add,eq_self,Nat.reduceEqDiff,Int.reduceAdd,Int.reduceSub,Int.reduceMul,not_true_eq_false,not_false_eq_true,Nat.reduceLT,Int.reduceToNat,Int.reduceEq,Int.reduceNe,Int.reduceLT,Int.reduceLE,or_true,or_false,and_false,false_and,false_implies,true_implies,e]
  exact ⟨by omega, hQ⟩
theorem con_take_T (hQ : ∀ x : Nat → Int, (∀ j, j < 49 → x j = fl R j) → Q none (HM R rf lt lsz a0 ib sm pl lo nu kp ig hmg (49) (1) (.ref 104) tu tz (x) tn tsz ga sd bb)) : Con M_M_carryAll [.ref 90, .ref 104, .int (zI 1)] (HM R rf lt lsz a0 ib sm pl lo nu kp ig hmg p0 tk ki tu tz tf tn tsz ga sd bb) Q := by
  refine g8_ (L := [some (.ref 90), some (.ref 104), some (.int (zI 1)), none]) ok_M_carryAll (Nat.le_of_ble_eq_true rfl) rfl ?_
  refine w_M_carryAll_0 ?_
  simp (disch := omega) only [cm_,aq_,ay_,ag_,b8_,af_,ba_,bc_,bg_,am_,ae_,ac_,b2_,bj_,bq_,ed_,bs_,ao_,c4_,az_,dw_,d6_,ea_,d3_,b5_,fl_,fn_,fh_,fu_,fp_,fz_,fq_,fk_,fr_,ft_,fs_,f0_,c5_,bd_,c3_,ck_,c2_,ct_,cr_,cf_,ch_,an_,cl_,dt_,dv_,du_,dr_,ds_,cd_,a9_,a8_,a7_,ce_,fy_,fv_,d1_,d0_,Int.toNat_natCast,f3_,di_,dm_,dn_,gv_,g1_,g0_,gz_,g4_,gx_,gk_,gi_,gj_,gu_,gt_,go_,gn_,gs_,gm_,f7_,f5_,f8_,f4_,Int.add_zero,Int.zero_add,Int.ediv_one,Nat.reduceAdd,Nat.reduceMul,Int.reduceNeg,Nat.reduceLeDiff,List.length_cons,List.length_nil,true_and,and_true,Nat.zero_add,eq_self,Nat.reduceEqDiff,Int.reduceAdd,Int.reduceSub,Int.reduceMul,not_true_eq_false,not_false_eq_true,Nat.reduceLT,Int.reduceToNat,Int.reduceEq,Int.reduceNe,Int.reduceLT,Int.reduceLE,or_true,or_false,and_false,false_and,false_implies,true_implies]
  refine con_cT_T (p := 0) (F := fl R) (by omega) (fun j hj => by omega) (fl_0 R).symm (fun x h1 => ?_)
  simp (disch := omega) only [cm_,aq_,ay_,ag_,b8_,af_,ba_,bc_,bg_,am_,ae_,ac_,b2_,bj_,bq_,ed_,bs_,ao_,c4_,az_,dw_,d6_,ea_,d3_,b5_,fl_,fn_,fh_,fu_,fp_,fz_,fq_,fk_,fr_,ft_,fs_,f0_,c5_,bd_,c3_,ck_,c2_,ct_,cr_,cf_,ch_,an_,cl_,dt_,dv_,du_,dr_,ds_,cd_,a9_,a8_,a7_,ce_,fy_,fv_,d1_,d0_,Int.toNat_natCast,f3_,di_,dm_,dn_,gv_,g1_,g0_,gz_,g4_,gx_,gk_,gi_,gj_,gu_,gt_,go_,gn_,gs_,gm_,f7_,f5_,f8_,f4_,Int.add_zero,Int.zero_add,Int.ediv_one,Nat.reduceAdd,Nat.reduceMul,Int.reduceNeg,Nat.reduceLeDiff,List.length_cons,List.length_nil,true_and,and_true,Nat.zero_add,eq_self,Nat.reduceEqDiff,Int.reduceAdd,Int.reduceSub,Int.reduceMul,not_true_eq_false,not_false_eq_true,Nat.reduceLT,Int.reduceToNat,Int.reduceEq,Int.reduceNe,Int.reduceLT,Int.reduceLE,or_true,or_false,and_false,false_and,false_implies,true_implies]
  refine con_cT_T (p := 1) (F := fl R) (by omega) h1 (fl_1 R).symm (fun x h1 => ?_)
  simp (disch := omega) only [cm_,aq_,ay_,ag_,b8_,af_,ba_,bc_,bg_,am_,ae_,ac_,b2_,bj_,bq_,ed_,bs_,ao_,c4_,az_,dw_,d6_,ea_,d3_,b5_,fl_,fn_,fh_,fu_,fp_,fz_,fq_,fk_,fr_,ft_,fs_,f0_,c5_,bd_,c3_,ck_,c2_,ct_,cr_,cf_,ch_,an_,cl_,dt_,dv_,du_,dr_,ds_,cd_,a9_,a8_,a7_,ce_,fy_,fv_,d1_,d0_,Int.toNat_natCast,f3_,di_,dm_,dn_,gv_,g1_,g0_,gz_,g4_,gx_,gk_,gi_,gj_,gu_,gt_,go_,gn_,gs_,gm_,f7_,f5_,f8_,f4_,Int.add_zero,Int.zero_add,Int.ediv_one,Nat.reduceAdd,Nat.reduceMul,Int.reduceNeg,Nat.reduceLeDiff,List.length_cons,List.length_nil,true_and,and_true,Nat.zero_add,eq_self,Nat.reduceEqDiff,Int.reduceAdd,Int.reduceSub,Int.reduceMul,not_true_eq_false,not_false_eq_true,Nat.reduceLT,Int.reduceToNat,Int.reduceEq,Int.reduceNe,Int.reduceLT,Int.reduceLE,or_true,or_false,and_false,false_and,false_implies,true_implies]
  refine con_cT_T (p := 2) (F := fl R) (by omega) h1 (fl_2 R).symm (fun x h1 => ?_)
  simp (disch := omega) only [cm_,aq_,ay_,ag_,b8_,af_,ba_,bc_,bg_,am_,ae_,ac_,b2_,bj_,bq_,ed_,bs_,ao_,c4_,az_,dw_,d6_,ea_,d3_,b5_,fl_,fn_,fh_,fu_,fp_,fz_,fq_,fk_,fr_,ft_,fs_,f0_,c5_,bd_,c3_,ck_,c2_,ct_,cr_,cf_,ch_,an_,cl_,dt_,dv_,du_,dr_,ds_,cd_,a9_,a8_,a7_,ce_,fy_,fv_,d1_,d0_,Int.toNat_natCast,f3_,di_,dm_,dn_,gv_,g1_,g0_,gz_,g4_,gx_,gk_,gi_,gj_,gu_,gt_,go_,gn_,gs_,gm_,f7_,f5_,f8_,f4_,Int.add_zero,Int.zero_add,Int.ediv_one,Nat.reduceAdd,Nat.reduceMul,Int.reduceNeg,Nat.reduceLeDiff,List.length_cons,List.length_nil,true_and,and_true,Nat.zero_add,eq_self,Nat.reduceEqDiff,Int.reduceAdd,Int.reduceSub,Int.reduceMul,not_true_eq_false,not_false_eq_true,Nat.reduceLT,Int.reduceToNat,Int.reduceEq,Int.reduceNe,Int.reduceLT,Int.reduceLE,or_true,or_false,and_false,false_and,false_implies,true_implies]
  refine con_cT_T (p := 3) (F := fl R) (by omega) h1 (fl_3 R).symm (fun x h1 => ?_)
  simp (disch := omega) only [cm_,aq_,ay_,ag_,b8_,af_,ba_,bc_,bg_,am_,ae_,ac_,b2_,bj_,bq_,ed_,bs_,ao_,c4_,az_,dw_,d6_,ea_,d3_,b5_,fl_,fn_,fh_,fu_,fp_,fz_,fq_,fk_,fr_,ft_,fs_,f0_,c5_,bd_,c3_,ck_,c2_,ct_,cr_,cf_,ch_,an_,cl_,dt_,dv_,du_,dr_,ds_,cd_,a9_,a8_,a7_,ce_,fy_,fv_,d1_,d0_,Int.toNat_natCast,f3_,di_,dm_,dn_,gv_,g1_,g0_,gz_,g4_,gx_,gk_,gi_,gj_,gu_,gt_,go_,gn_,gs_,gm_,f7_,f5_,f8_,f4_,Int.add_zero,Int.zero_add,Int.ediv_one,Nat.reduceAdd,Nat.reduceMul,Int.reduceNeg,Nat.reduceLeDiff,List.length_cons,List.length_nil,true_and,and_true,Nat.zero_add,eq_self,Nat.reduceEqDiff,Int.reduceAdd,Int.reduceSub,Int.reduceMul,not_true_eq_false,not_false_eq_true,Nat.reduceLT,Int.reduceToNat,Int.reduceEq,Int.reduceNe,Int.reduceLT,Int.reduceLE,or_true,or_false,and_false,false_and,false_implies,true_implies]
  refine con_cT_T (p := 4) (F := fl R) (by omega) h1 (fl_4 R).symm (fun x h1 => ?_)
  simp (disch := omega) only [cm_,aq_,ay_,ag_,b8_,af_,ba_,bc_,bg_,am_,ae_,ac_,b2_,bj_,bq_,ed_,bs_,ao_,c4_,az_,dw_,d6_,ea_,d3_,b5_,fl_,fn_,fh_,fu_,fp_,fz_,fq_,fk_,fr_,ft_,fs_,f0_,c5_,bd_,c3_,ck_,c2_,ct_,cr_,cf_,ch_,an_,cl_,dt_,dv_,du_,dr_,ds_,cd_,a9_,a8_,a7_,ce_,fy_,fv_,d1_,d0_,Int.toNat_natCast,f3_,di_,dm_,dn_,gv_,g1_,g0_,gz_,g4_,gx_,gk_,gi_,gj_,gu_,gt_,go_,gn_,gs_,gm_,f7_,f5_,f8_,f4_,Int.add_zero,Int.zero_add,Int.ediv_one,Nat.reduceAdd,Nat.reduceMul,Int.reduceNeg,Nat.reduceLeDiff,List.length_cons,List.length_nil,true_and,and_true,Nat.zero_add,eq_self,Nat.reduceEqDiff,Int.reduceAdd,Int.reduceSub,Int.reduceMul,not_true_eq_false,not_false_eq_true,Nat.reduceLT,Int.reduceToNat,Int.reduceEq,Int.reduceNe,Int.reduceLT,Int.reduceLE,or_true,or_false,and_false,false_and,false_implies,true_implies]
  have loop2 : ∀ n m : Nat, m + n = 8 → ∀ x : Nat → Int, (∀ j, j < 17 + 4 * m → x j = fl R j) → J M_M_carryAll 107 [some (.ref 90), some (.ref 104), some (.int (zI 1)), some (.int (zI m))] [] (HM R rf lt lsz a0 ib sm pl lo nu kp ig hmg (((17 + 4 * m : Nat) : Int)) (1) (.ref 104) tu tz (x) tn tsz ga sd bb) Q := by
    intro n
    induction n with
    | zero =>
      intro m hm x hx
      have e : m = 8 := by omega
      subst e
      refine w_M_carryAll_107 ?_
      simp (disch := omega) only [cm_,aq_,ay_,ag_,b8_,af_,ba_,bc_,bg_,am_,ae_,ac_,b2_,bj_,bq_,ed_,bs_,ao_,c4_,az_,dw_,d6_,ea_,d3_,b5_,fl_,fn_,fh_,fu_,fp_,fz_,fq_,fk_,fr_,ft_,fs_,f0_,c5_,bd_,c3_,ck_,c2_,ct_,cr_,cf_,ch_,an_,cl_,dt_,dv_,du_,dr_,ds_,cd_,a9_,a8_,a7_,ce_,fy_,fv_,d1_,d0_,Int.toNat_natCast,f3_,di_,dm_,dn_,gv_,g1_,g0_,gz_,g4_,gx_,gk_,gi_,gj_,gu_,gt_,go_,gn_,gs_,gm_,f7_,f5_,f8_,f4_,Int.add_zero,Int.zero_add,Int.ediv_one,Nat.reduceAdd,Nat.reduceMul,Int.reduceNeg,Nat.reduceLeDiff,List.length_cons,List.length_nil,true_and,and_true,Nat.zero_add,eq_self,Nat.reduceEqDiff,Int.reduceAdd,Int.reduceSub,Int.reduceMul,not_true_eq_false,not_false_eq_true,Nat.reduceLT,Int.reduceToNat,Int.reduceEq,Int.reduceNe,Int.reduceLT,Int.reduceLE,or_true,or_false,and_false,false_and,false_implies,true_implies]
      refine w_M_carryAll_183 ?_
      simp (disch := omega) only [cm_,aq_,ay_,ag_,b8_,af_,ba_,bc_,bg_,am_,ae_,ac_,b2_,bj_,bq_,ed_,bs_,ao_,c4_,az_,dw_,d6_,ea_,d3_,b5_,fl_,fn_,fh_,fu_,fp_,fz_,fq_,fk_,fr_,ft_,fs_,f0_,c5_,bd_,c3_,ck_,c2_,ct_,cr_,cf_,ch_,an_,cl_,dt_,dv_,du_,dr_,ds_,cd_,a9_,a8_,a7_,ce_,fy_,fv_,d1_,d0_,Int.toNat_natCast,f3_,di_,dm_,dn_,gv_,g1_,g0_,gz_,g4_,gx_,gk_,gi_,gj_,gu_,gt_,go_,gn_,gs_,gm_,f7_,f5_,f8_,f4_,Int.add_zero,Int.zero_add,Int.ediv_one,Nat.reduceAdd,Nat.reduceMul,Int.reduceNeg,Nat.reduceLeDiff,List.length_cons,List.length_nil,true_and,and_true,Nat.zero_add,eq_self,Nat.reduceEqDiff,Int.reduceAdd,Int.reduceSub,Int.reduceMul,not_true_eq_false,not_false_eq_true,Nat.reduceLT,Int.reduceToNat,Int.reduceEq,Int.reduceNe,Int.reduceLT,Int.reduceLE,or_true,or_false,and_false,false_and,false_implies,true_implies]
      exact hQ x hx
    | succ n ih =>
      intro m hm x hx
      refine w_M_carryAll_107 ?_
      simp (disch := omega) only [cm_,aq_,ay_,ag_,b8_,af_,ba_,bc_,bg_,am_,ae_,ac_,b2_,bj_,bq_,ed_,bs_,ao_,c4_,az_,dw_,d6_,ea_,d3_,b5_,fl_,fn_,fh_,fu_,fp_,fz_,fq_,fk_,fr_,ft_,fs_,f0_,c5_,bd_,c3_,ck_,c2_,ct_,cr_,cf_,ch_,an_,cl_,dt_,dv_,du_,dr_,ds_,cd_,a9_,a8_,a7_,ce_,fy_,fv_,d1_,d0_,Int.toNat_natCast,f3_,di_,dm_,dn_,gv_,g1_,g0_,gz_,g4_,gx_,gk_,gi_,gj_,gu_,gt_,go_,gn_,gs_,gm_,f7_,f5_,f8_,f4_,Int.add_zero,Int.zero_add,Int.ediv_one,Nat.reduceAdd,Nat.reduceMul,Int.reduceNeg,Nat.reduceLeDiff,List.length_cons,List.length_nil,true_and,and_true,Nat.zero_add,eq_self,Nat.reduceEqDiff,Int.reduceAdd,Int.reduceSub,Int.reduceMul,not_true_eq_false,not_false_eq_true,Nat.reduceLT,Int.reduceToNat,Int.reduceEq,Int.reduceNe,Int.reduceLT,Int.reduceLE,or_true,or_false,and_false,false_and,false_implies,true_implies]
      refine ⟨fun q => by omega, fun _ => ⟨by omega, ?_⟩⟩
      refine con_cT_T (p := 17 + 4 * m) (F := fl R) (by omega) hx (fl_k R m).symm (fun x hx => ?_)
      simp (disch := omega) only [cm_,aq_,ay_,ag_,b8_,af_,ba_,bc_,bg_,am_,ae_,ac_,b2_,bj_,bq_,ed_,bs_,ao_,c4_,az_,dw_,d6_,ea_,d3_,b5_,fl_,fn_,fh_,fu_,fp_,fz_,fq_,fk_,fr_,ft_,fs_,f0_,c5_,bd_,c3_,ck_,c2_,ct_,cr_,cf_,ch_,an_,cl_,dt_,dv_,du_,dr_,ds_,cd_,a9_,a8_,a7_,ce_,fy_,fv_,d1_,d0_,Int.toNat_natCast,f3_,di_,dm_,dn_,gv_,g1_,g0_,gz_,g4_,gx_,gk_,gi_,gj_,gu_,gt_,go_,gn_,gs_,gm_,f7_,f5_,f8_,f4_,Int.add_zero,Int.zero_add,Int.ediv_one,Nat.reduceAdd,Nat.reduceMul,Int.reduceNeg,Nat.reduceLeDiff,List.length_cons,List.length_nil,true_and,and_true,Nat.zero_add,eq_self,Nat.reduceEqDiff,Int.reduceAdd,Int.reduceSub,Int.reduceMul,not_true_eq_false,not_false_eq_true,Nat.reduceLT,Int.reduceToNat,Int.reduceEq,Int.reduceNe,Int.reduceLT,Int.reduceLE,or_true,or_false,and_false,false_and,false_implies,true_implies,upI_id,sKi_id]
      refine ⟨by omega, by omega, ?_⟩
      refine con_cT_T (p := 17 + 4 * m + 1) (F := fl R) (by omega) hx (fl_f R m).symm (fun x hx => ?_)
      simp (disch := omega) only [cm_,aq_,ay_,ag_,b8_,af_,ba_,bc_,bg_,am_,ae_,ac_,b2_,bj_,bq_,ed_,bs_,ao_,c4_,az_,dw_,d6_,ea_,d3_,b5_,fl_,fn_,fh_,fu_,fp_,fz_,fq_,fk_,fr_,ft_,fs_,f0_,c5_,bd_,c3_,ck_,c2_,ct_,cr_,cf_,ch_,an_,cl_,dt_,dv_,du_,dr_,ds_,cd_,a9_,a8_,a7_,ce_,fy_,fv_,d1_,d0_,Int.toNat_natCast,f3_,di_,dm_,dn_,gv_,g1_,g0_,gz_,g4_,gx_,gk_,gi_,gj_,gu_,gt_,go_,gn_,gs_,gm_,f7_,f5_,f8_,f4_,Int.add_zero,Int.zero_add,Int.ediv_one,Nat.reduceAdd,Nat.reduceMul,Int.reduceNeg,Nat.reduceLeDiff,List.length_cons,List.length_nil,true_and,and_true,Nat.zero_add,eq_self,Nat.reduceEqDiff,Int.reduceAdd,Int.reduceSub,Int.reduceMul,not_true_eq_false,not_false_eq_true,Nat.reduceLT,Int.reduceToNat,Int.reduceEq,Int.reduceNe,Int.reduceLT,Int.reduceLE,or_true,or_false,and_false,false_and,false_implies,true_implies,upI_id,sFi_id]
      refine ⟨by omega, by omega, ?_⟩
      refine con_cT_T (p := 17 + 4 * m + 2) (F := fl R) (by omega) hx (fl_a R m).symm (fun x hx => ?_)
      simp (disch := omega) only [cm_,aq_,ay_,ag_,b8_,af_,ba_,bc_,bg_,am_,ae_,ac_,b2_,bj_,bq_,ed_,bs_,ao_,c4_,az_,dw_,d6_,ea_,d3_,b5_,fl_,fn_,fh_,fu_,fp_,fz_,fq_,fk_,fr_,ft_,fs_,f0_,c5_,bd_,c3_,ck_,c2_,ct_,cr_,cf_,ch_,an_,cl_,dt_,dv_,du_,dr_,ds_,cd_,a9_,a8_,a7_,ce_,fy_,fv_,d1_,d0_,Int.toNat_natCast,f3_,di_,dm_,dn_,gv_,g1_,g0_,gz_,g4_,gx_,gk_,gi_,gj_,gu_,gt_,go_,gn_,gs_,gm_,f7_,f5_,f8_,f4_,Int.add_zero,Int.zero_add,Int.ediv_one,Nat.reduceAdd,Nat.reduceMul,Int.reduceNeg,Nat.reduceLeDiff,List.length_cons,List.length_nil,true_and,and_true,Nat.zero_add,eq_self,Nat.reduceEqDiff,Int.reduceAdd,Int.reduceSub,Int.reduceMul,not_true_eq_false,not_false_eq_true,Nat.reduceLT,Int.reduceToNat,Int.reduceEq,Int.reduceNe,Int.reduceLT,Int.reduceLE,or_true,or_false,and_false,false_and,false_implies,true_implies,upI_id,sFa_id]
      refine ⟨by omega, by omega, ?_⟩
      refine con_cT_T (p := 17 + 4 * m + 3) (F := fl R) (by omega) hx (fl_w R m).symm (fun x hx => ?_)
      simp (disch := omega) only [cm_,aq_,ay_,ag_,b8_,af_,ba_,bc_,bg_,am_,ae_,ac_,b2_,bj_,bq_,ed_,bs_,ao_,c4_,az_,dw_,d6_,ea_,d3_,b5_,fl_,fn_,fh_,fu_,fp_,fz_,fq_,fk_,fr_,ft_,fs_,f0_,c5_,bd_,c3_,ck_,c2_,ct_,cr_,cf_,ch_,an_,cl_,dt_,dv_,du_,dr_,ds_,cd_,a9_,a8_,a7_,ce_,fy_,fv_,d1_,d0_,Int.toNat_natCast,f3_,di_,dm_,dn_,gv_,g1_,g0_,gz_,g4_,gx_,gk_,gi_,gj_,gu_,gt_,go_,gn_,gs_,gm_,f7_,f5_,f8_,f4_,Int.add_zero,Int.zero_add,Int.ediv_one,Nat.reduceAdd,Nat.reduceMul,Int.reduceNeg,Nat.reduceLeDiff,List.length_cons,List.length_nil,true_and,and_true,Nat.zero_add,eq_self,Nat.reduceEqDiff,Int.reduceAdd,Int.reduceSub,Int.reduceMul,not_true_eq_false,not_false_eq_true,Nat.reduceLT,Int.reduceToNat,Int.reduceEq,Int.reduceNe,Int.reduceLT,Int.reduceLE,or_true,or_false,and_false,false_and,false_implies,true_implies,upI_id,sWo_id]
      refine ⟨by omega, ?_⟩
      exact ih (m + 1) (by omega) x hx
  have loop1 : ∀ n s : Nat, s + n = 12 → ∀ x : Nat → Int, (∀ j, j < 5 + s → x j = fl R j) → J M_M_carryAll 77 [some (.ref 90), some (.ref 104), some (.int (zI 1)), some (.int (zI s))] [] (HM R rf lt lsz a0 ib sm pl lo nu kp ig hmg (((5 + s : Nat) : Int)) (1) (.ref 104) tu tz (x) tn tsz ga sd bb) Q := by
    intro n
    induction n with
    | zero =>
      intro s hs x hx
      have e : s = 12 := by omega
      subst e
      refine w_M_carryAll_77 ?_
      simp (disch := omega) only [cm_,aq_,ay_,ag_,b8_,af_,ba_,bc_,bg_,am_,ae_,ac_,b2_,bj_,bq_,ed_,bs_,ao_,c4_,az_,dw_,d6_,ea_,d3_,b5_,fl_,fn_,fh_,fu_,fp_,fz_,fq_,fk_,fr_,ft_,fs_,f0_,c5_,bd_,c3_,ck_,c2_,ct_,cr_,cf_,ch_,an_,cl_,dt_,dv_,du_,dr_,ds_,cd_,a9_,a8_,a7_,ce_,fy_,fv_,d1_,d0_,Int.toNat_natCast,f3_,di_,dm_,dn_,gv_,g1_,g0_,gz_,g4_,gx_,gk_,gi_,gj_,gu_,gt_,go_,gn_,gs_,gm_,f7_,f5_,f8_,f4_,Int.add_zero,Int.zero_add,Int.ediv_one,Nat.reduceAdd,Nat.reduceMul,Int.reduceNeg,Nat.reduceLeDiff,List.length_cons,List.length_nil,true_and,and_true,Nat.zero_add,eq_self,Nat.reduceEqDiff,Int.reduceAdd,Int.reduceSub,Int.reduceMul,not_true_eq_false,not_false_eq_true,Nat.reduceLT,Int.reduceToNat,Int.reduceEq,Int.reduceNe,Int.reduceLT,Int.reduceLE,or_true,or_false,and_false,false_and,false_implies,true_implies]
      refine w_M_carryAll_105 ?_
      simp (disch := omega) only [cm_,aq_,ay_,ag_,b8_,af_,ba_,bc_,bg_,am_,ae_,ac_,b2_,bj_,bq_,ed_,bs_,ao_,c4_,az_,dw_,d6_,ea_,d3_,b5_,fl_,fn_,fh_,fu_,fp_,fz_,fq_,fk_,fr_,ft_,fs_,f0_,c5_,bd_,c3_,ck_,c2_,ct_,cr_,cf_,ch_,an_,cl_,dt_,dv_,du_,dr_,ds_,cd_,a9_,a8_,a7_,ce_,fy_,fv_,d1_,d0_,Int.toNat_natCast,f3_,di_,dm_,dn_,gv_,g1_,g0_,gz_,g4_,gx_,gk_,gi_,gj_,gu_,gt_,go_,gn_,gs_,gm_,f7_,f5_,f8_,f4_,Int.add_zero,Int.zero_add,Int.ediv_one,Nat.reduceAdd,Nat.reduceMul,Int.reduceNeg,Nat.reduceLeDiff,List.length_cons,List.length_nil,true_and,and_true,Nat.zero_add,eq_self,Nat.reduceEqDiff,Int.reduceAdd,Int.reduceSub,Int.reduceMul,not_true_eq_false,not_false_eq_true,Nat.reduceLT,Int.reduceToNat,Int.reduceEq,Int.reduceNe,Int.reduceLT,Int.reduceLE,or_true,or_false,and_false,false_and,false_implies,true_implies]
      exact loop2 8 0 (by omega) x hx
    | succ n ih =>
      intro s hs x hx
      refine w_M_carryAll_77 ?_
      simp (disch := omega) only [cm_,aq_,ay_,ag_,b8_,af_,ba_,bc_,bg_,am_,ae_,ac_,b2_,bj_,bq_,ed_,bs_,ao_,c4_,az_,dw_,d6_,ea_,d3_,b5_,fl_,fn_,fh_,fu_,fp_,fz_,fq_,fk_,fr_,ft_,fs_,f0_,c5_,bd_,c3_,ck_,c2_,ct_,cr_,cf_,ch_,an_,cl_,dt_,dv_,du_,dr_,ds_,cd_,a9_,a8_,a7_,ce_,fy_,fv_,d1_,d0_,Int.toNat_natCast,f3_,di_,dm_,dn_,gv_,g1_,g0_,gz_,g4_,gx_,gk_,gi_,gj_,gu_,gt_,go_,gn_,gs_,gm_,f7_,f5_,f8_,f4_,Int.add_zero,Int.zero_add,Int.ediv_one,Nat.reduceAdd,Nat.reduceMul,Int.reduceNeg,Nat.reduceLeDiff,List.length_cons,List.length_nil,true_and,and_true,Nat.zero_add,eq_self,Nat.reduceEqDiff,Int.reduceAdd,Int.reduceSub,Int.reduceMul,not_true_eq_false,not_false_eq_true,Nat.reduceLT,Int.reduceToNat,Int.reduceEq,Int.reduceNe,Int.reduceLT,Int.reduceLE,or_true,or_false,and_false,false_and,false_implies,true_implies]
      refine ⟨fun q => by omega, fun _ => ⟨by omega, ?_⟩⟩
      refine con_cT_T (p := 5 + s) (F := fl R) (by omega) hx (fl_s R (by omega)).symm (fun x hx => ?_)
      simp (disch := omega) only [cm_,aq_,ay_,ag_,b8_,af_,ba_,bc_,bg_,am_,ae_,ac_,b2_,bj_,bq_,ed_,bs_,ao_,c4_,az_,dw_,d6_,ea_,d3_,b5_,fl_,fn_,fh_,fu_,fp_,fz_,fq_,fk_,fr_,ft_,fs_,f0_,c5_,bd_,c3_,ck_,c2_,ct_,cr_,cf_,ch_,an_,cl_,dt_,dv_,du_,dr_,ds_,cd_,a9_,a8_,a7_,ce_,fy_,fv_,d1_,d0_,Int.toNat_natCast,f3_,di_,dm_,dn_,gv_,g1_,g0_,gz_,g4_,gx_,gk_,gi_,gj_,gu_,gt_,go_,gn_,gs_,gm_,f7_,f5_,f8_,f4_,Int.add_zero,Int.zero_add,Int.ediv_one,Nat.reduceAdd,Nat.reduceMul,Int.reduceNeg,Nat.reduceLeDiff,List.length_cons,List.length_nil,true_and,and_true,Nat.zero_add,eq_self,Nat.reduceEqDiff,Int.reduceAdd,Int.reduceSub,Int.reduceMul,not_true_eq_false,not_false_eq_true,Nat.reduceLT,Int.reduceToNat,Int.reduceEq,Int.reduceNe,Int.reduceLT,Int.reduceLE,or_true,or_false,and_false,false_and,false_implies,true_implies,upI_id,sSl_id]
      refine ⟨by omega, ?_⟩
      exact ih (s + 1) (by omega) x hx
  exact loop1 12 0 (by omega) x h1
theorem con_give_T {S : RR} (hk : ∀ j, j < 49 → tf j = fl S j) (hC : NR R) (hS : NR S) (hQ : Q none (HM (S) rf lt lsz a0 ib sm pl lo nu kp ig hmg (49) (0) (.ref 104) tu tz tf tn tsz ga sd bb)) : Con M_M_carryAll [.ref 90, .ref 104, .int (zI 0)] (HM R rf lt lsz a0 ib sm pl lo nu kp ig hmg p0 tk ki tu tz tf tn tsz ga sd bb) Q := by
  have q0 : tf 0 = rMen S := (hk 0 (by omega)).trans (fl_0 S)
  have q1 : tf 1 = hd_ S := (hk 1 (by omega)).trans (fl_1 S)
  have q2 : tf 2 = rLoad S := (hk 2 (by omega)).trans (fl_2 S)
  have q3 : tf 3 = rSnow S := (hk 3 (by omega)).trans (fl_3 S)
  have q4 : tf 4 = hh_ S := (hk 4 (by omega)).trans (fl_4 S)
  refine g8_ (L := [some (.ref 90), some (.ref 104), some (.int (zI 0)), none]) ok_M_carryAll (Nat.le_of_ble_eq_true rfl) rfl ?_
  refine w_M_carryAll_0 ?_
  simp (disch := omega) only [cm_,aq_,ay_,ag_,b8_,af_,ba_,bc_,bg_,am_,ae_,ac_,b2_,bj_,bq_,ed_,bs_,ao_,c4_,az_,dw_,d6_,ea_,d3_,b5_,fl_,fn_,fh_,fu_,fp_,fz_,fq_,fk_,fr_,ft_,fs_,f0_,c5_,bd_,c3_,ck_,c2_,ct_,cr_,cf_,ch_,an_,cl_,dt_,dv_,du_,dr_,ds_,cd_,a9_,a8_,a7_,ce_,fy_,fv_,d1_,d0_,Int.toNat_natCast,f3_,di_,dm_,dn_,gv_,g1_,g0_,gz_,g4_,gx_,gk_,gi_,gj_,gu_,gt_,go_,gn_,gs_,gm_,f7_,f5_,f8_,f4_,Int.add_zero,Int.zero_add,Int.ediv_one,Nat.reduceAdd,Nat.reduceMul,Int.reduceNeg,Nat.reduceLeDiff,List.length_cons,List.length_nil,true_and,and_true,Nat.zero_add,eq_self,Nat.reduceEqDiff,Int.reduceAdd,Int.reduceSub,Int.reduceMul,not_true_eq_false,not_false_eq_true,Nat.reduceLT,Int.reduceToNat,Int.reduceEq,Int.reduceNe,Int.reduceLT,Int.reduceLE,or_true,or_false,and_false,false_and,false_implies,true_implies]
  refine con_cG_T (p := 0) (by omega) ?_
  simp (disch := omega) only [cm_,aq_,ay_,ag_,b8_,af_,ba_,bc_,bg_,am_,ae_,ac_,b2_,bj_,bq_,ed_,bs_,ao_,c4_,az_,dw_,d6_,ea_,d3_,b5_,fl_,fn_,fh_,fu_,fp_,fz_,fq_,fk_,fr_,ft_,fs_,f0_,c5_,bd_,c3_,ck_,c2_,ct_,cr_,cf_,ch_,an_,cl_,dt_,dv_,du_,dr_,ds_,cd_,a9_,a8_,a7_,ce_,fy_,fv_,d1_,d0_,Int.toNat_natCast,f3_,di_,dm_,dn_,gv_,g1_,g0_,gz_,g4_,gx_,gk_,gi_,gj_,gu_,gt_,go_,gn_,gs_,gm_,f7_,f5_,f8_,f4_,Int.add_zero,Int.zero_add,Int.ediv_one,Nat.reduceAdd,Nat.reduceMul,Int.reduceNeg,Nat.reduceLeDiff,List.length_cons,List.length_nil,true_and,and_true,Nat.zero_add,eq_self,Nat.reduceEqDiff,Int.reduceAdd,Int.reduceSub,Int.reduceMul,not_true_eq_false,not_false_eq_true,Nat.reduceLT,Int.reduceToNat,Int.reduceEq,Int.reduceNe,Int.reduceLT,Int.reduceLE,or_true,or_false,and_false,false_and,false_implies,true_implies,q0]
  refine con_cG_T (p := 1) (by omega) ?_
  simp (disch := omega) only [cm_,aq_,ay_,ag_,b8_,af_,ba_,bc_,bg_,am_,ae_,ac_,b2_,bj_,bq_,ed_,bs_,ao_,c4_,az_,dw_,d6_,ea_,d3_,b5_,fl_,fn_,fh_,fu_,fp_,fz_,fq_,fk_,fr_,ft_,fs_,f0_,c5_,bd_,c3_,ck_,c2_,ct_,cr_,cf_,ch_,an_,cl_,dt_,dv_,du_,dr_,ds_,cd_,a9_,a8_,a7_,ce_,fy_,fv_,d1_,d0_,Int.toNat_natCast,f3_,di_,dm_,dn_,gv_,g1_,g0_,gz_,g4_,gx_,gk_,gi_,gj_,gu_,gt_,go_,gn_,gs_,gm_,f7_,f5_,f8_,f4_,Int.add_zero,Int.zero_add,Int.ediv_one,Nat.reduceAdd,Nat.reduceMul,Int.reduceNeg,Nat.reduceLeDiff,List.length_cons,List.length_nil,true_and,and_true,Nat.zero_add,eq_self,Nat.reduceEqDiff,Int.reduceAdd,Int.reduceSub,Int.reduceMul,not_true_eq_false,not_false_eq_true,Nat.reduceLT,Int.reduceToNat,Int.reduceEq,Int.reduceNe,Int.reduceLT,Int.reduceLE,or_true,or_false,and_false,false_and,false_implies,true_implies,q1]
  refine con_cG_T (p := 2) (by omega) ?_
  simp (disch := omega) only [cm_,aq_,ay_,ag_,b8_,af_,ba_,bc_,bg_,am_,ae_,ac_,b2_,bj_,bq_,ed_,bs_,ao_,c4_,az_,dw_,d6_,ea_,d3_,b5_,fl_,fn_,fh_,fu_,fp_,fz_,fq_,fk_,fr_,ft_,fs_,f0_,c5_,bd_,c3_,ck_,c2_,ct_,cr_,cf_,ch_,an_,cl_,dt_,dv_,du_,dr_,ds_,cd_,a9_,a8_,a7_,ce_,fy_,fv_,d1_,d0_,Int.toNat_natCast,f3_,di_,dm_,dn_,gv_,g1_,g0_,gz_,g4_,gx_,gk_,gi_,gj_,gu_,gt_,go_,gn_,gs_,gm_,f7_,f5_,f8_,f4_,Int.add_zero,Int.zero_add,Int.ediv_one,Nat.reduceAdd,Nat.reduceMul,Int.reduceNeg,Nat.reduceLeDiff,List.length_cons,List.length_nil,true_and,and_true,Nat.zero_add,eq_self,Nat.reduceEqDiff,Int.reduceAdd,Int.reduceSub,Int.reduceMul,not_true_eq_false,not_false_eq_true,Nat.reduceLT,Int.reduceToNat,Int.reduceEq,Int.reduceNe,Int.reduceLT,Int.reduceLE,or_true,or_false,and_false,false_and,false_implies,true_implies,q2]
  refine con_cG_T (p := 3) (by omega) ?_
  simp (disch := omega) only [cm_,aq_,ay_,ag_,b8_,af_,ba_,bc_,bg_,am_,ae_,ac_,b2_,bj_,bq_,ed_,bs_,ao_,c4_,az_,dw_,d6_,ea_,d3_,b5_,fl_,fn_,fh_,fu_,fp_,fz_,fq_,fk_,fr_,ft_,fs_,f0_,c5_,bd_,c3_,ck_,c2_,ct_,cr_,cf_,ch_,an_,cl_,dt_,dv_,du_,dr_,ds_,cd_,a9_,a8_,a7_,ce_,fy_,fv_,d1_,d0_,Int.toNat_natCast,f3_,di_,dm_,dn_,gv_,g1_,g0_,gz_,g4_,gx_,gk_,gi_,gj_,gu_,gt_,go_,gn_,gs_,gm_,f7_,f5_,f8_,f4_,Int.add_zero,Int.zero_add,Int.ediv_one,Nat.reduceAdd,Nat.reduceMul,Int.reduceNeg,Nat.reduceLeDiff,List.length_cons,List.length_nil,true_and,and_true,Nat.zero_add,eq_self,Nat.reduceEqDiff,Int.reduceAdd,Int.reduceSub,Int.reduceMul,not_true_eq_false,not_false_eq_true,Nat.reduceLT,Int.reduceToNat,Int.reduceEq,Int.reduceNe,Int.reduceLT,Int.reduceLE,or_true,or_false,and_false,false_and,false_implies,true_implies,q3]
  refine con_cG_T (p := 4) (by omega) ?_
  simp (disch := omega) only [cm_,aq_,ay_,ag_,b8_,af_,ba_,bc_,bg_,am_,ae_,ac_,b2_,bj_,bq_,ed_,bs_,ao_,c4_,az_,dw_,d6_,ea_,d3_,b5_,fl_,fn_,fh_,fu_,fp_,fz_,fq_,fk_,fr_,ft_,fs_,f0_,c5_,bd_,c3_,ck_,c2_,ct_,cr_,cf_,ch_,an_,cl_,dt_,dv_,du_,dr_,ds_,cd_,a9_,a8_,a7_,ce_,fy_,fv_,d1_,d0_,Int.toNat_natCast,f3_,di_,dm_,dn_,gv_,g1_,g0_,gz_,g4_,gx_,gk_,gi_,gj_,gu_,gt_,go_,gn_,gs_,gm_,f7_,f5_,f8_,f4_,Int.add_zero,Int.zero_add,Int.ediv_one,Nat.reduceAdd,Nat.reduceMul,Int.reduceNeg,Nat.reduceLeDiff,List.length_cons,List.length_nil,true_and,and_true,Nat.zero_add,eq_self,Nat.reduceEqDiff,Int.reduceAdd,Int.reduceSub,Int.reduceMul,not_true_eq_false,not_false_eq_true,Nat.reduceLT,Int.reduceToNat,Int.reduceEq,Int.reduceNe,Int.reduceLT,Int.reduceLE,or_true,or_false,and_false,false_and,false_implies,true_implies,q4]
  have loop2 : ∀ n m : Nat, m + n = 8 → J M_M_carryAll 107 [some (.ref 90), some (.ref 104), some (.int (zI 0)), some (.int (zI m))] [] (HM (mkR (rSl S) (mixI (rKi S) (rKi R) m) (mixI (rFi S) (rFi R) m) (mixI (rFa S) (rFa R) m) (mixI (rWo S) (rWo R) m) (rMen S) (hd_ S) (rLoad S) (rSnow S) (hh_ S)) rf lt lsz a0 ib sm pl lo nu kp ig hmg (((17 + 4 * m : Nat) : Int)) (0) (.ref 104) tu tz tf tn tsz ga sd bb) Q := by
    intro n
    induction n with
    | zero =>
      intro m hm
      have e : m = 8 := by omega
      subst e
      rw [mix_all (fun j hj => by rw [hS.2.1 j hj, hC.2.1 j hj]), mix_all (fun j hj => by rw [hS.2.2.1 j hj, hC.2.2.1 j hj]), mix_all (fun j hj => by rw [hS.2.2.2.1 j hj, hC.2.2.2.1 j hj]), mix_all (fun j hj => by rw [hS.2.2.2.2 j hj, hC.2.2.2.2 j hj]), f4_]
      refine w_M_carryAll_107 ?_
      simp (disch := omega) only [cm_,aq_,ay_,ag_,b8_,af_,ba_,bc_,bg_,am_,ae_,ac_,b2_,bj_,bq_,ed_,bs_,ao_,c4_,az_,dw_,d6_,ea_,d3_,b5_,fl_,fn_,fh_,fu_,fp_,fz_,fq_,fk_,fr_,ft_,fs_,f0_,c5_,bd_,c3_,ck_,c2_,ct_,cr_,cf_,ch_,an_,cl_,dt_,dv_,du_,dr_,ds_,cd_,a9_,a8_,a7_,ce_,fy_,fv_,d1_,d0_,Int.toNat_natCast,f3_,di_,dm_,dn_,gv_,g1_,g0_,gz_,g4_,gx_,gk_,gi_,gj_,gu_,gt_,go_,gn_,gs_,gm_,f7_,f5_,f8_,f4_,Int.add_zero,Int.zero_add,Int.ediv_one,Nat.reduceAdd,Nat.reduceMul,Int.reduceNeg,Nat.reduceLeDiff,List.length_cons,List.length_nil,true_and,and_true,Nat.zero_add,eq_self,Nat.reduceEqDiff,Int.reduceAdd,Int.reduceSub,Int.reduceMul,not_true_eq_false,not_false_eq_true,Nat.reduceLT,Int.reduceToNat,Int.reduceEq,Int.reduceNe,Int.reduceLT,Int.reduceLE,or_true,or_false,and_false,false_and,false_implies,true_implies]
      refine w_M_carryAll_183 ?_
      simp (disch := omega) only [cm_,aq_,ay_,ag_,b8_,af_,ba_,bc_,bg_,am_,ae_,ac_,b2_,bj_,bq_,ed_,bs_,ao_,c4_,az_,dw_,d6_,ea_,d3_,b5_,fl_,fn_,fh_,fu_,fp_,fz_,fq_,fk_,fr_,ft_,fs_,f0_,c5_,bd_,c3_,ck_,c2_,ct_,cr_,cf_,ch_,an_,cl_,dt_,dv_,du_,dr_,ds_,cd_,a9_,a8_,a7_,ce_,fy_,fv_,d1_,d0_,Int.toNat_natCast,f3_,di_,dm_,dn_,gv_,g1_,g0_,gz_,g4_,gx_,gk_,gi_,gj_,gu_,gt_,go_,gn_,gs_,gm_,f7_,f5_,f8_,f4_,Int.add_zero,Int.zero_add,Int.ediv_one,Nat.reduceAdd,Nat.reduceMul,Int.reduceNeg,Nat.reduceLeDiff,List.length_cons,List.length_nil,true_and,and_true,Nat.zero_add,eq_self,Nat.reduceEqDiff,Int.reduceAdd,Int.reduceSub,Int.reduceMul,not_true_eq_false,not_false_eq_true,Nat.reduceLT,Int.reduceToNat,Int.reduceEq,Int.reduceNe,Int.reduceLT,Int.reduceLE,or_true,or_false,and_false,false_and,false_implies,true_implies]
      exact hQ
    | succ n ih =>
      intro m hm
      have step := ih (m + 1) (by omega)
      rw [← mix_s, ← mix_s, ← mix_s, ← mix_s] at step
      have qk : tf (17 + 4 * m) = rKi S m := (hk _ (by omega)).trans (fl_k S m)
      have qf : tf (17 + 4 * m + 1) = rFi S m := (hk _ (by omega)).trans (fl_f S m)
      have qa : tf (17 + 4 * m + 2) = rFa S m := (hk _ (by omega)).trans (fl_a S m)
      have qw : tf (17 + 4 * m + 3) = rWo S m := (hk _ (by omega)).trans (fl_w S m)
      refine w_M_carryAll_107 ?_
      simp (disch := omega) only [cm_,aq_,ay_,ag_,b8_,af_,ba_,bc_,bg_,am_,ae_,ac_,b2_,bj_,bq_,ed_,bs_,ao_,c4_,az_,dw_,d6_,ea_,d3_,b5_,fl_,fn_,fh_,fu_,fp_,fz_,fq_,fk_,fr_,ft_,fs_,f0_,c5_,bd_,c3_,ck_,c2_,ct_,cr_,cf_,ch_,an_,cl_,dt_,dv_,du_,dr_,ds_,cd_,a9_,a8_,a7_,ce_,fy_,fv_,d1_,d0_,Int.toNat_natCast,f3_,di_,dm_,dn_,gv_,g1_,g0_,gz_,g4_,gx_,gk_,gi_,gj_,gu_,gt_,go_,gn_,gs_,gm_,f7_,f5_,f8_,f4_,Int.add_zero,Int.zero_add,Int.ediv_one,Nat.reduceAdd,Nat.reduceMul,Int.reduceNeg,Nat.reduceLeDiff,List.length_cons,List.length_nil,true_and,and_true,Nat.zero_add,eq_self,Nat.reduceEqDiff,Int.reduceAdd,Int.reduceSub,Int.reduceMul,not_true_eq_false,not_false_eq_true,Nat.reduceLT,Int.reduceToNat,Int.reduceEq,Int.reduceNe,Int.reduceLT,Int.reduceLE,or_true,or_false,and_false,false_and,false_implies,true_implies]
      refine ⟨fun q => by omega, fun _ => ⟨by omega, ?_⟩⟩
      refine con_cG_T (p := 17 + 4 * m) (by omega) ?_
      simp (disch := omega) only [cm_,aq_,ay_,ag_,b8_,af_,ba_,bc_,bg_,am_,ae_,ac_,b2_,bj_,bq_,ed_,bs_,ao_,c4_,az_,dw_,d6_,ea_,d3_,b5_,fl_,fn_,fh_,fu_,fp_,fz_,fq_,fk_,fr_,ft_,fs_,f0_,c5_,bd_,c3_,ck_,c2_,ct_,cr_,cf_,ch_,an_,cl_,dt_,dv_,du_,dr_,ds_,cd_,a9_,a8_,a7_,ce_,fy_,fv_,d1_,d0_,Int.toNat_natCast,f3_,di_,dm_,dn_,gv_,g1_,g0_,gz_,g4_,gx_,gk_,gi_,gj_,gu_,gt_,go_,gn_,gs_,gm_,f7_,f5_,f8_,f4_,Int.add_zero,Int.zero_add,Int.ediv_one,Nat.reduceAdd,Nat.reduceMul,Int.reduceNeg,Nat.reduceLeDiff,List.length_cons,List.length_nil,true_and,and_true,Nat.zero_add,eq_self,Nat.reduceEqDiff,Int.reduceAdd,Int.reduceSub,Int.reduceMul,not_true_eq_false,not_false_eq_true,Nat.reduceLT,Int.reduceToNat,Int.reduceEq,Int.reduceNe,Int.reduceLT,Int.reduceLE,or_true,or_false,and_false,false_and,false_implies,true_implies,qk]
      refine ⟨by omega, by omega, ?_⟩
      refine con_cG_T (p := 17 + 4 * m + 1) (by omega) ?_
      simp (disch := omega) only [cm_,aq_,ay_,ag_,b8_,af_,ba_,bc_,bg_,am_,ae_,ac_,b2_,bj_,bq_,ed_,bs_,ao_,c4_,az_,dw_,d6_,ea_,d3_,b5_,fl_,fn_,fh_,fu_,fp_,fz_,fq_,fk_,fr_,ft_,fs_,f0_,c5_,bd_,c3_,ck_,c2_,ct_,cr_,cf_,ch_,an_,cl_,dt_,dv_,du_,dr_,ds_,cd_,a9_,a8_,a7_,ce_,fy_,fv_,d1_,d0_,Int.toNat_natCast,f3_,di_,dm_,dn_,gv_,g1_,g0_,gz_,g4_,gx_,gk_,gi_,gj_,gu_,gt_,go_,gn_,gs_,gm_,f7_,f5_,f8_,f4_,Int.add_zero,Int.zero_add,Int.ediv_one,Nat.reduceAdd,Nat.reduceMul,Int.reduceNeg,Nat.reduceLeDiff,List.length_cons,List.length_nil,true_and,and_true,Nat.zero_add,eq_self,Nat.reduceEqDiff,Int.reduceAdd,Int.reduceSub,Int.reduceMul,not_true_eq_false,not_false_eq_true,Nat.reduceLT,Int.reduceToNat,Int.reduceEq,Int.reduceNe,Int.reduceLT,Int.reduceLE,or_true,or_false,and_false,false_and,false_implies,true_implies,qf]
      refine ⟨by omega, by omega, ?_⟩
      refine con_cG_T (p := 17 + 4 * m + 2) (by omega) ?_
      simp (disch := omega) only [cm_,aq_,ay_,ag_,b8_,af_,ba_,bc_,bg_,am_,ae_,ac_,b2_,bj_,bq_,ed_,bs_,ao_,c4_,az_,dw_,d6_,ea_,d3_,b5_,fl_,fn_,fh_,fu_,fp_,fz_,fq_,fk_,fr_,ft_,fs_,f0_,c5_,bd_,c3_,ck_,c2_,ct_,cr_,cf_,ch_,an_,cl_,dt_,dv_,du_,dr_,ds_,cd_,a9_,a8_,a7_,ce_,fy_,fv_,d1_,d0_,Int.toNat_natCast,f3_,di_,dm_,dn_,gv_,g1_,g0_,gz_,g4_,gx_,gk_,gi_,gj_,gu_,gt_,go_,gn_,gs_,gm_,f7_,f5_,f8_,f4_,Int.add_zero,Int.zero_add,Int.ediv_one,Nat.reduceAdd,Nat.reduceMul,Int.reduceNeg,Nat.reduceLeDiff,List.length_cons,List.length_nil,true_and,and_true,Nat.zero_add,eq_self,Nat.reduceEqDiff,Int.reduceAdd,Int.reduceSub,Int.reduceMul,not_true_eq_false,not_false_eq_true,Nat.reduceLT,Int.reduceToNat,Int.reduceEq,Int.reduceNe,Int.reduceLT,Int.reduceLE,or_true,or_false,and_false,false_and,false_implies,true_implies,qa]
      refine ⟨by omega, by omega, ?_⟩
      refine con_cG_T (p := 17 + 4 * m + 3) (by omega) ?_
      simp (disch := omega) only [cm_,aq_,ay_,ag_,b8_,af_,ba_,bc_,bg_,am_,ae_,ac_,b2_,bj_,bq_,ed_,bs_,ao_,c4_,az_,dw_,d6_,ea_,d3_,b5_,fl_,fn_,fh_,fu_,fp_,fz_,fq_,fk_,fr_,ft_,fs_,f0_,c5_,bd_,c3_,ck_,c2_,ct_,cr_,cf_,ch_,an_,cl_,dt_,dv_,du_,dr_,ds_,cd_,a9_,a8_,a7_,ce_,fy_,fv_,d1_,d0_,Int.toNat_natCast,f3_,di_,dm_,dn_,gv_,g1_,g0_,gz_,g4_,gx_,gk_,gi_,gj_,gu_,gt_,go_,gn_,gs_,gm_,f7_,f5_,f8_,f4_,Int.add_zero,Int.zero_add,Int.ediv_one,Nat.reduceAdd,Nat.reduceMul,Int.reduceNeg,Nat.reduceLeDiff,List.length_cons,List.length_nil,true_and,and_true,Nat.zero_add,eq_self,Nat.reduceEqDiff,Int.reduceAdd,Int.reduceSub,Int.reduceMul,not_true_eq_false,not_false_eq_true,Nat.reduceLT,Int.reduceToNat,Int.reduceEq,Int.reduceNe,Int.reduceLT,Int.reduceLE,or_true,or_false,and_false,false_and,false_implies,true_implies,qw]
      refine ⟨by omega, ?_⟩
      exact step
  have loop1 : ∀ n s : Nat, s + n = 12 → J M_M_carryAll 77 [some (.ref 90), some (.ref 104), some (.int (zI 0)), some (.int (zI s))] [] (HM (mkR (mixI (rSl S) (rSl R) s) (rKi R) (rFi R) (rFa R) (rWo R) (rMen S) (hd_ S) (rLoad S) (rSnow S) (hh_ S)) rf lt lsz a0 ib sm pl lo nu kp ig hmg (((5 + s : Nat) : Int)) (0) (.ref 104) tu tz tf tn tsz ga sd bb) Q := by
    intro n
    induction n with
    | zero =>
      intro s hs
      have e : s = 12 := by omega
      subst e
      have step := loop2 8 0 (by omega)
      rw [mix_0, mix_0, mix_0, mix_0] at step
      rw [mix_all (fun j hj => by rw [hS.1 j hj, hC.1 j hj])]
      refine w_M_carryAll_77 ?_
      simp (disch := omega) only [cm_,aq_,ay_,ag_,b8_,af_,ba_,bc_,bg_,am_,ae_,ac_,b2_,bj_,bq_,ed_,bs_,ao_,c4_,az_,dw_,d6_,ea_,d3_,b5_,fl_,fn_,fh_,fu_,fp_,fz_,fq_,fk_,fr_,ft_,fs_,f0_,c5_,bd_,c3_,ck_,c2_,ct_,cr_,cf_,ch_,an_,cl_,dt_,dv_,du_,dr_,ds_,cd_,a9_,a8_,a7_,ce_,fy_,fv_,d1_,d0_,Int.toNat_natCast,f3_,di_,dm_,dn_,gv_,g1_,g0_,gz_,g4_,gx_,gk_,gi_,gj_,gu_,gt_,go_,gn_,gs_,gm_,f7_,f5_,f8_,f4_,Int.add_zero,Int.zero_add,Int.ediv_one,Nat.reduceAdd,Nat.reduceMul,Int.reduceNeg,Nat.reduceLeDiff,List.length_cons,List.length_nil,true_and,and_true,Nat.zero_add,eq_self,Nat.reduceEqDiff,Int.reduceAdd,Int.reduceSub,Int.reduceMul,not_true_eq_false,not_false_eq_true,Nat.reduceLT,Int.reduceToNat,Int.reduceEq,Int.reduceNe,Int.reduceLT,Int.reduceLE,or_true,or_false,and_false,false_and,false_implies,true_implies]
      refine w_M_carryAll_105 ?_
      simp (disch := omega) only [cm_,aq_,ay_,ag_,b8_,af_,ba_,bc_,bg_,am_,ae_,ac_,b2_,bj_,bq_,ed_,bs_,ao_,c4_,az_,dw_,d6_,ea_,d3_,b5_,fl_,fn_,fh_,fu_,fp_,fz_,fq_,fk_,fr_,ft_,fs_,f0_,c5_,bd_,c3_,ck_,c2_,ct_,cr_,cf_,ch_,an_,cl_,dt_,dv_,du_,dr_,ds_,cd_,a9_,a8_,a7_,ce_,fy_,fv_,d1_,d0_,Int.toNat_natCast,f3_,di_,dm_,dn_,gv_,g1_,g0_,gz_,g4_,gx_,gk_,gi_,gj_,gu_,gt_,go_,gn_,gs_,gm_,f7_,f5_,f8_,f4_,Int.add_zero,Int.zero_add,Int.ediv_one,Nat.reduceAdd,Nat.reduceMul,Int.reduceNeg,Nat.reduceLeDiff,List.length_cons,List.length_nil,true_and,and_true,Nat.zero_add,eq_self,Nat.reduceEqDiff,Int.reduceAdd,Int.reduceSub,Int.reduceMul,not_true_eq_false,not_false_eq_true,Nat.reduceLT,Int.reduceToNat,Int.reduceEq,Int.reduceNe,Int.reduceLT,Int.reduceLE,or_true,or_false,and_false,false_and,false_implies,true_implies]
      exact step
    | succ n ih =>
      intro s hs
      have step := ih (s + 1) (by omega)
      rw [← mix_s] at step
      have qs : tf (5 + s) = rSl S s := (hk _ (by omega)).trans (fl_s S (by omega))
      refine w_M_carryAll_77 ?_
      simp (disch := omega) only [cm_,aq_,ay_,ag_,b8_,af_,ba_,bc_,bg_,am_,ae_,ac_,b2_,bj_,bq_,ed_,bs_,ao_,c4_,az_,dw_,d6_,ea_,d3_,b5_,fl_,fn_,fh_,fu_,fp_,fz_,fq_,fk_,fr_,ft_,fs_,f0_,c5_,bd_,c3_,ck_,c2_,ct_,cr_,cf_,ch_,an_,cl_,dt_,dv_,du_,dr_,ds_,cd_,a9_,a8_,a7_,ce_,fy_,fv_,d1_,d0_,Int.toNat_natCast,f3_,di_,dm_,dn_,gv_,g1_,g0_,gz_,g4_,gx_,gk_,gi_,gj_,gu_,gt_,go_,gn_,gs_,gm_,f7_,f5_,f8_,f4_,Int.add_zero,Int.zero_add,Int.ediv_one,Nat.reduceAdd,Nat.reduceMul,Int.reduceNeg,Nat.reduceLeDiff,List.length_cons,List.length_nil,true_and,and_true,Nat.zero_add,eq_self,Nat.reduceEqDiff,Int.reduceAdd,Int.reduceSub,Int.reduceMul,not_true_eq_false,not_false_eq_true,Nat.reduceLT,Int.reduceToNat,Int.reduceEq,Int.reduceNe,Int.reduceLT,Int.reduceLE,or_true,or_false,and_false,false_and,false_implies,true_implies]
      refine ⟨fun q => by omega, fun _ => ⟨by omega, ?_⟩⟩
      refine con_cG_T (p := 5 + s) (by omega) ?_
      simp (disch := omega) only [cm_,aq_,ay_,ag_,b8_,af_,ba_,bc_,bg_,am_,ae_,ac_,b2_,bj_,bq_,ed_,bs_,ao_,c4_,az_,dw_,d6_,ea_,d3_,b5_,fl_,fn_,fh_,fu_,fp_,fz_,fq_,fk_,fr_,ft_,fs_,f0_,c5_,bd_,c3_,ck_,c2_,ct_,cr_,cf_,ch_,an_,cl_,dt_,dv_,du_,dr_,ds_,cd_,a9_,a8_,a7_,ce_,fy_,fv_,d1_,d0_,Int.toNat_natCast,f3_,di_,dm_,dn_,gv_,g1_,g0_,gz_,g4_,gx_,gk_,gi_,gj_,gu_,gt_,go_,gn_,gs_,gm_,f7_,f5_,f8_,f4_,Int.add_zero,Int.zero_add,Int.ediv_one,Nat.reduceAdd,Nat.reduceMul,Int.reduceNeg,Nat.reduceLeDiff,List.length_cons,List.length_nil,true_and,and_true,Nat.zero_add,eq_self,Nat.reduceEqDiff,Int.reduceAdd,Int.reduceSub,Int.reduceMul,not_true_eq_false,not_false_eq_true,Nat.reduceLT,Int.reduceToNat,Int.reduceEq,Int.reduceNe,Int.reduceLT,Int.reduceLE,or_true,or_false,and_false,false_and,false_implies,true_implies,qs]
      refine ⟨by omega, ?_⟩
      exact step
  have l1 := loop1 12 0 (by omega)
  rw [mix_0] at l1
  exact l1
end D6
end
/-! think -/
section
/-! ===== the reference: thinking, days ===== -/
/-- good in all ways -/
def GI (R : RR) : Prop := GR R ∧ Inv R ∧ NR R
theorem Inv.moved {R : RR} (h : Inv R) : Inv (movedX R) := by
  simp only [movedX]
  by_cases c : brF R = 0
  · rw [if_pos c]; exact h
  · rw [if_neg c]
    intro k hk hne
    obtain ⟨W, hW⟩ : ∃ W, W = sKing (wearN R (brF R) 8) (hd_ R + 1) := ⟨_, rfl⟩
    have hf : rFa (buryN W (hb_ R)) k = if k < hb_ R ∧ lasts W k ≤ rWo W k then 2 else rFa W k := rfl
    have hl : lasts (buryN W (hb_ R)) k = lasts W k := rfl
    have hw : rWo (buryN W (hb_ R)) k = rWo W k := rfl
    have hn : hb_ (buryN W (hb_ R)) = hb_ R := by rw [hW]; rfl
    rw [← hW] at hk hne ⊢
    rw [hn] at hk
    rw [hf] at hne
    rw [hl, hw]
    rcases Int.lt_or_le (rWo W k) (lasts W k) with q | q
    · exact q
    · rw [if_pos ⟨hk, q⟩] at hne
      exact absurd rfl hne
theorem Inv.dX {R : RR} (h : Inv R) : Inv (dayX R) := by
  simp only [dayX]
  split
  · exact h
  · exact Inv.moved (R := sDay R (hh_ R + 1)) h
theorem NR.moved {R : RR} (hG : GR R) (h : NR R) : NR (movedX R) := by
  have gn := hG.nM
  obtain ⟨h1, h2, h3, h4, h5⟩ := id h
  simp only [movedX]
  split
  · exact h
  · refine ⟨h1, h2, h3, fun j hj => ?_, fun j hj => ?_⟩
    · show (if j < hb_ R ∧ _ then 2 else rFa R j) = 0
      rw [if_neg (fun q => by omega)]
      exact h4 j hj
    · show (if j < 8 ∧ _ then _ else rWo R j) = 0
      rw [if_neg (fun q => by omega)]
      exact h5 j hj
theorem NR.dX {R : RR} (hG : GR R) (h : NR R) : NR (dayX R) := by
  simp only [dayX]
  split
  · exact h
  · exact NR.moved (R := sDay R (hh_ R + 1)) hG h
theorem GI.dX {R : RR} (h : GI R) : GI (dayX R) := ⟨h.1.dX, h.2.1.dX, h.2.2.dX h.1⟩
theorem GI.dsX {R : RR} (h : GI R) (n : Nat) : GI (g6_ R n) := by
  induction n with
  | zero => exact h
  | succ n ih => exact ih.dX
theorem GI.setKing {R : RR} (h : GI R) {x : Int} (hx : 0 ≤ x ∧ x ≤ 12) : GI (sKing R x) := ⟨h.1.setKing hx, h.2.1, h.2.2⟩
theorem GI.setSnow {R : RR} (h : GI R) {x : Int} (hx : 0 ≤ x ∧ x ≤ 9) : GI (sSnow R x) := ⟨h.1.setSnow hx, h.2.1, h.2.2⟩
theorem GI.setLoad {R : RR} (h : GI R) {x : Int} (hx : 1 ≤ x ∧ x ≤ 60) : GI (sLoad R x) := ⟨h.1.setLoad hx, h.2.1, h.2.2⟩
theorem upI_hi {f : Nat → Int} {n i : Nat} {x : Int} (hf : ∀ j, n ≤ j → f j = 0) (hi : i < n) : ∀ j, n ≤ j → upI f i x j = 0 := by
  intro j hj
  simp only [upI]
  rw [if_neg (by omega)]
  exact hf j hj
theorem GI.setSl {R : RR} (h : GI R) {x : Int} (i : Nat) (hi : i < 12) (hx : 0 ≤ x ∧ x ≤ 9) : GI (sSl R (upI (rSl R) i x)) :=
  ⟨h.1.setSl i hx, h.2.1, upI_hi h.2.2.1 hi, h.2.2.2⟩
theorem GI.setFa {R : RR} (h : GI R) {x : Int} (i : Nat) (hi : i < 8) (hx : 0 ≤ x ∧ x ≤ 2) (hf : rFa R i ≠ 2) : GI (sFa R (upI (rFa R) i x)) := by
  refine ⟨h.1.setFa i hx, fun k hk hne => ?_, h.2.2.1, h.2.2.2.1, h.2.2.2.2.1, upI_hi h.2.2.2.2.2.1 hi, h.2.2.2.2.2.2⟩
  have hne : upI (rFa R) i x k ≠ 2 := hne
  by_cases e : k = i
  · subst e
    exact h.2.1 k hk hf
  · simp only [upI] at hne
    rw [if_neg e] at hne
    exact h.2.1 k hk hne
theorem GI.add {R : RR} (h : GI R) (hm : rMen R < 8) {k f : Int} (hk : 0 ≤ k ∧ k ≤ 5) (hf : 0 ≤ f ∧ f ≤ 9) : GI (addR R k f) := by
  have gm := h.1.men
  have hg := h.1.add hm hk hf
  obtain ⟨n1, n2, n3, n4, n5⟩ := h.2.2
  refine ⟨hg, fun j hj hne => ?_, n1, upI_hi n2 (by omega), upI_hi n3 (by omega), upI_hi n4 (by omega), upI_hi n5 (by omega)⟩
  have l1 := lasts_rng hg j
  have hj : j < (rMen R + 1).toNat := hj
  have hw : rWo (addR R k f) j = upI (rWo R) (rMen R).toNat 0 j := rfl
  rw [hw]
  by_cases e : j = (rMen R).toNat
  · subst e
    rw [upI_s]
    omega
  · have a1 : rFa (addR R k f) j = rFa R j := by
      show upI (rFa R) (rMen R).toNat 0 j = _
      simp only [upI]; rw [if_neg e]
    have a2 : lasts (addR R k f) j = lasts R j := by
      show laF (upI (rKi R) (rMen R).toNat k j) (upI (rFi R) (rMen R).toNat f j) = _
      simp only [upI]; rw [if_neg e, if_neg e]; rfl
    have a3 : upI (rWo R) (rMen R).toNat 0 j = rWo R j := by simp only [upI]; rw [if_neg e]
    rw [a1] at hne
    rw [a2, a3]
    exact h.2.1 j (show j < (rMen R).toNat by omega) hne
def KP (kp : Nat → Int) (S : RR) : Prop := ∀ j, j < 49 → kp j = fl S j
theorem king_dX (R : RR) : hd_ (dayX R) = if hd_ R = 12 then 12 else if brF (sDay R (hh_ R + 1)) = 0 then hd_ R else hd_ R + 1 := by
  simp only [dayX]
  by_cases c : hd_ R = 12
  · rw [if_pos c, if_pos c]; exact c
  · rw [if_neg c, if_neg c]
    show hd_ (movedX (sDay R (hh_ R + 1))) = _
    simp only [movedX]
    by_cases c2 : brF (sDay R (hh_ R + 1)) = 0
    · rw [if_pos c2, if_pos c2]; rfl
    · rw [if_neg c2, if_neg c2]; rfl
theorem waitX_iff {R : RR} (hG : GR R) : waitX R = true ↔ (hd_ R < 12 ∧ hd_ (dayX R) = hd_ R) := by
  have gk := hG.king
  have e := king_dX R
  simp only [waitX, Bool.and_eq_true, decide_eq_true_eq]
  constructor
  · rintro ⟨c1, c2⟩
    rw [if_neg c1, if_pos c2] at e
    exact ⟨by omega, e⟩
  · rintro ⟨c1, c2⟩
    refine ⟨by omega, ?_⟩
    rw [if_neg (by omega)] at e
    by_cases q : brF (sDay R (hh_ R + 1)) = 0
    · exact q
    · rw [if_neg q] at e
      omega
section D7
variable {R : RR} {rf : Nat → Int} {lt : Nat → Int} {lsz : Int} {a0 : Int} {ib : Int} {sm : Int} {pl : Nat → Int} {lo : Nat → Int} {nu : Nat → Int} {kp : Nat → Int} {ig : Nat → Int} {hmg : Int} {p0 : Int} {tk : Int} {ki : Value} {tu : Nat → Int} {tz : Int} {tf : Nat → Int} {tn : Nat → Int} {tsz : Int} {ga : Nat → Int} {sd : Int} {bb : AH} {Q : Option Value → AH → Prop}
theorem con_Mthink (hQ : ∀ x : Nat → Int, KP x R → Q none (HM R rf lt lsz a0 ib sm pl lo nu (x) ig hmg (49) (1) (.ref 101) tu tz tf tn tsz ga sd bb)) : Con M_M_think [.ref 90] (HM R rf lt lsz a0 ib sm pl lo nu kp ig hmg p0 tk ki tu tz tf tn tsz ga sd bb) Q := by
  refine g8_ (L := [some (.ref 90)]) ok_M_think (Nat.le_of_ble_eq_true rfl) rfl ?_
  refine w_M_think_0 ?_
  simp (disch := omega) only [cm_,aq_,ay_,ag_,b8_,af_,ba_,cp_,b3_,am_,ac_,bq_,bs_,ao_,c4_,a2_,az_,ar_,dw_,d6_,ea_,d3_,b5_,fh_,fu_,fp_,fz_,fq_,fk_,ft_,f0_,c5_,bt_,cx_,cr_,cf_,an_,fv_,Int.toNat_natCast,eh_,b9_,f3_,di_,dm_,dn_,gv_,g4_,f4_,Int.add_zero,Int.zero_add,Int.ediv_one,Nat.reduceAdd,Nat.reduceMul,Int.reduceNeg,Nat.reduceLeDiff,List.length_cons,List.length_nil,true_and,Nat.zero_add,eq_self,Nat.reduceEqDiff,Int.reduceAdd,Int.reduceSub,Int.reduceMul,Nat.reduceLT,Int.reduceToNat,Int.reduceEq,Int.reduceNe,Int.reduceLT,Int.reduceLE]
  refine con_take_K (fun x hx => ?_)
  simp (disch := omega) only [cm_,aq_,ay_,ag_,b8_,af_,ba_,cp_,b3_,am_,ac_,bq_,bs_,ao_,c4_,a2_,az_,ar_,dw_,d6_,ea_,d3_,b5_,fh_,fu_,fp_,fz_,fq_,fk_,ft_,f0_,c5_,bt_,cx_,cr_,cf_,an_,fv_,Int.toNat_natCast,eh_,b9_,f3_,di_,dm_,dn_,gv_,g4_,f4_,Int.add_zero,Int.zero_add,Int.ediv_one,Nat.reduceAdd,Nat.reduceMul,Int.reduceNeg,Nat.reduceLeDiff,List.length_cons,List.length_nil,true_and,Nat.zero_add,eq_self,Nat.reduceEqDiff,Int.reduceAdd,Int.reduceSub,Int.reduceMul,Nat.reduceLT,Int.reduceToNat,Int.reduceEq,Int.reduceNe,Int.reduceLT,Int.reduceLE]
  exact hQ x hx
theorem con_Magain {S : RR} (hk : KP kp S) (hC : NR R) (hS : NR S) (hQ : Q none (HM (S) rf lt lsz a0 ib sm pl lo nu kp ig hmg (49) (0) (.ref 101) tu tz tf tn tsz ga sd bb)) : Con M_M_again [.ref 90] (HM R rf lt lsz a0 ib sm pl lo nu kp ig hmg p0 tk ki tu tz tf tn tsz ga sd bb) Q := by
  refine g8_ (L := [some (.ref 90)]) ok_M_again (Nat.le_of_ble_eq_true rfl) rfl ?_
  refine w_M_again_0 ?_
  simp (disch := omega) only [cm_,aq_,ay_,ag_,b8_,af_,ba_,cp_,b3_,am_,ac_,bq_,bs_,ao_,c4_,a2_,az_,ar_,dw_,d6_,ea_,d3_,b5_,fh_,fu_,fp_,fz_,fq_,fk_,ft_,f0_,c5_,bt_,cx_,cr_,cf_,an_,fv_,Int.toNat_natCast,eh_,b9_,f3_,di_,dm_,dn_,gv_,g4_,f4_,Int.add_zero,Int.zero_add,Int.ediv_one,Nat.reduceAdd,Nat.reduceMul,Int.reduceNeg,Nat.reduceLeDiff,List.length_cons,List.length_nil,true_and,Nat.zero_add,eq_self,Nat.reduceEqDiff,Int.reduceAdd,Int.reduceSub,Int.reduceMul,Nat.reduceLT,Int.reduceToNat,Int.reduceEq,Int.reduceNe,Int.reduceLT,Int.reduceLE]
  refine con_give_K hk hC hS ?_
  simp (disch := omega) only [cm_,aq_,ay_,ag_,b8_,af_,ba_,cp_,b3_,am_,ac_,bq_,bs_,ao_,c4_,a2_,az_,ar_,dw_,d6_,ea_,d3_,b5_,fh_,fu_,fp_,fz_,fq_,fk_,ft_,f0_,c5_,bt_,cx_,cr_,cf_,an_,fv_,Int.toNat_natCast,eh_,b9_,f3_,di_,dm_,dn_,gv_,g4_,f4_,Int.add_zero,Int.zero_add,Int.ediv_one,Nat.reduceAdd,Nat.reduceMul,Int.reduceNeg,Nat.reduceLeDiff,List.length_cons,List.length_nil,true_and,Nat.zero_add,eq_self,Nat.reduceEqDiff,Int.reduceAdd,Int.reduceSub,Int.reduceMul,Nat.reduceLT,Int.reduceToNat,Int.reduceEq,Int.reduceNe,Int.reduceLT,Int.reduceLE]
  exact hQ
theorem con_MgoDays {n : Nat} (hn : n ≤ 100) (hI : GI R) (hQ : Q none (HM (g6_ R n) rf lt lsz a0 ib sm pl lo nu kp ig hmg p0 tk ki tu tz tf tn tsz ga sd bb)) : Con M_M_goDays [.ref 90, .int (zI n)] (HM R rf lt lsz a0 ib sm pl lo nu kp ig hmg p0 tk ki tu tz tf tn tsz ga sd bb) Q := by
  refine g8_ (L := [some (.ref 90), some (.int (zI n)), none]) ok_M_goDays (Nat.le_of_ble_eq_true rfl) rfl ?_
  refine w_M_goDays_0 ?_
  simp (disch := omega) only [cm_,aq_,ay_,ag_,b8_,af_,ba_,cp_,b3_,am_,ac_,bq_,bs_,ao_,c4_,a2_,az_,ar_,dw_,d6_,ea_,d3_,b5_,fh_,fu_,fp_,fz_,fq_,fk_,ft_,f0_,c5_,bt_,cx_,cr_,cf_,an_,fv_,Int.toNat_natCast,eh_,b9_,f3_,di_,dm_,dn_,gv_,g4_,f4_,Int.add_zero,Int.zero_add,Int.ediv_one,Nat.reduceAdd,Nat.reduceMul,Int.reduceNeg,Nat.reduceLeDiff,List.length_cons,List.length_nil,true_and,Nat.zero_add,eq_self,Nat.reduceEqDiff,Int.reduceAdd,Int.reduceSub,Int.reduceMul,Nat.reduceLT,Int.reduceToNat,Int.reduceEq,Int.reduceNe,Int.reduceLT,Int.reduceLE]
  have loop : ∀ k i : Nat, i + k = n → J M_M_goDays 2 [some (.ref 90), some (.int (zI n)), some (.int (zI i))] [] (HM (g6_ R i) rf lt lsz a0 ib sm pl lo nu kp ig hmg p0 tk ki tu tz tf tn tsz ga sd bb) Q := by
    intro k
    induction k with
    | zero =>
      intro i hi
      have e : i = n := by omega
      subst e
      refine w_M_goDays_2 ?_
      simp (disch := omega) only [cm_,aq_,ay_,ag_,b8_,af_,ba_,cp_,b3_,am_,ac_,bq_,bs_,ao_,c4_,a2_,az_,ar_,dw_,d6_,ea_,d3_,b5_,fh_,fu_,fp_,fz_,fq_,fk_,ft_,f0_,c5_,bt_,cx_,cr_,cf_,an_,fv_,Int.toNat_natCast,eh_,b9_,f3_,di_,dm_,dn_,gv_,g4_,f4_,Int.add_zero,Int.zero_add,Int.ediv_one,Nat.reduceAdd,Nat.reduceMul,Int.reduceNeg,Nat.reduceLeDiff,List.length_cons,List.length_nil,true_and,Nat.zero_add,eq_self,Nat.reduceEqDiff,Int.reduceAdd,Int.reduceSub,Int.reduceMul,Nat.reduceLT,Int.reduceToNat,Int.reduceEq,Int.reduceNe,Int.reduceLT,Int.reduceLE]
      repeat' (first | with_reducible refine And.intro ?_ ?_ | with_reducible intro _ | ((first | with_reducible refine w_M_goDays_17 ?_); simp (disch := omega) only [cm_,aq_,ay_,ag_,b8_,af_,ba_,cp_,b3_,am_,ac_,bq_,bs_,ao_,c4_,a2_,az_,ar_,dw_,d6_,ea_,d3_,b5_,fh_,fu_,fp_,fz_,fq_,fk_,ft_,f0_,c5_,bt_,cx_,cr_,cf_,an_,fv_,Int.toNat_natCast,eh_,b9_,f3_,di_,dm_,dn_,gv_,g4_,f4_,Int.add_zero,Int.zero_add,Int.ediv_one,Nat.reduceAdd,Nat.reduceMul,Int.reduceNeg,Nat.reduceLeDiff,List.length_cons,List.length_nil,true_and,Nat.zero_add,eq_self,Nat.reduceEqDiff,Int.reduceAdd,Int.reduceSub,Int.reduceMul,Nat.reduceLT,Int.reduceToNat,Int.reduceEq,Int.reduceNe,Int.reduceLT,Int.reduceLE]))
      all_goals first | omega | exact hQ
    | succ k ih =>
      intro i hi
      have step := ih (i + 1) (by omega)
      refine w_M_goDays_2 ?_
      simp (disch := omega) only [cm_,aq_,ay_,ag_,b8_,af_,ba_,cp_,b3_,am_,ac_,bq_,bs_,ao_,c4_,a2_,az_,ar_,dw_,d6_,ea_,d3_,b5_,fh_,fu_,fp_,fz_,fq_,fk_,ft_,f0_,c5_,bt_,cx_,cr_,cf_,an_,fv_,Int.toNat_natCast,eh_,b9_,f3_,di_,dm_,dn_,gv_,g4_,f4_,Int.add_zero,Int.zero_add,Int.ediv_one,Nat.reduceAdd,Nat.reduceMul,Int.reduceNeg,Nat.reduceLeDiff,List.length_cons,List.length_nil,true_and,Nat.zero_add,eq_self,Nat.reduceEqDiff,Int.reduceAdd,Int.reduceSub,Int.reduceMul,Nat.reduceLT,Int.reduceToNat,Int.reduceEq,Int.reduceNe,Int.reduceLT,Int.reduceLE]
      refine ⟨fun q => by omega, fun _ => ?_⟩
      refine con_MdayOn (hI.dsX i).1 (hI.dsX i).2.1 ?_
      simp (disch := omega) only [cm_,aq_,ay_,ag_,b8_,af_,ba_,cp_,b3_,am_,ac_,bq_,bs_,ao_,c4_,a2_,az_,ar_,dw_,d6_,ea_,d3_,b5_,fh_,fu_,fp_,fz_,fq_,fk_,ft_,f0_,c5_,bt_,cx_,cr_,cf_,an_,fv_,Int.toNat_natCast,eh_,b9_,f3_,di_,dm_,dn_,gv_,g4_,f4_,Int.add_zero,Int.zero_add,Int.ediv_one,Nat.reduceAdd,Nat.reduceMul,Int.reduceNeg,Nat.reduceLeDiff,List.length_cons,List.length_nil,true_and,Nat.zero_add,eq_self,Nat.reduceEqDiff,Int.reduceAdd,Int.reduceSub,Int.reduceMul,Nat.reduceLT,Int.reduceToNat,Int.reduceEq,Int.reduceNe,Int.reduceLT,Int.reduceLE]
      exact step
  exact loop n 0 (Nat.zero_add _)
theorem con_MkingThen {n : Nat} {S : RR} (hn : n ≤ 100) (hI : GI R) (hk : KP kp S) (hS : NR S) (hQ : Q (some (.int (zI (hd_ (g6_ R n))))) (HM (S) rf lt lsz a0 ib sm pl lo nu kp ig hmg (49) (0) (.ref 101) tu tz tf tn tsz ga sd bb)) : Con M_M_kingThen [.ref 90, .int (zI n)] (HM R rf lt lsz a0 ib sm pl lo nu kp ig hmg p0 tk ki tu tz tf tn tsz ga sd bb) Q := by
  refine g8_ (L := [some (.ref 90), some (.int (zI n)), none]) ok_M_kingThen (Nat.le_of_ble_eq_true rfl) rfl ?_
  refine w_M_kingThen_0 ?_
  simp (disch := omega) only [cm_,aq_,ay_,ag_,b8_,af_,ba_,cp_,b3_,am_,ac_,bq_,bs_,ao_,c4_,a2_,az_,ar_,dw_,d6_,ea_,d3_,b5_,fh_,fu_,fp_,fz_,fq_,fk_,ft_,f0_,c5_,bt_,cx_,cr_,cf_,an_,fv_,Int.toNat_natCast,eh_,b9_,f3_,di_,dm_,dn_,gv_,g4_,f4_,Int.add_zero,Int.zero_add,Int.ediv_one,Nat.reduceAdd,Nat.reduceMul,Int.reduceNeg,Nat.reduceLeDiff,List.length_cons,List.length_nil,true_and,Nat.zero_add,eq_self,Nat.reduceEqDiff,Int.reduceAdd,Int.reduceSub,Int.reduceMul,Nat.reduceLT,Int.reduceToNat,Int.reduceEq,Int.reduceNe,Int.reduceLT,Int.reduceLE]
  refine con_MgoDays hn hI ?_
  simp (disch := omega) only [cm_,aq_,ay_,ag_,b8_,af_,ba_,cp_,b3_,am_,ac_,bq_,bs_,ao_,c4_,a2_,az_,ar_,dw_,d6_,ea_,d3_,b5_,fh_,fu_,fp_,fz_,fq_,fk_,ft_,f0_,c5_,bt_,cx_,cr_,cf_,an_,fv_,Int.toNat_natCast,eh_,b9_,f3_,di_,dm_,dn_,gv_,g4_,f4_,Int.add_zero,Int.zero_add,Int.ediv_one,Nat.reduceAdd,Nat.reduceMul,Int.reduceNeg,Nat.reduceLeDiff,List.length_cons,List.length_nil,true_and,Nat.zero_add,eq_self,Nat.reduceEqDiff,Int.reduceAdd,Int.reduceSub,Int.reduceMul,Nat.reduceLT,Int.reduceToNat,Int.reduceEq,Int.reduceNe,Int.reduceLT,Int.reduceLE]
  refine con_Magain hk (hI.dsX n).2.2 hS ?_
  simp (disch := omega) only [cm_,aq_,ay_,ag_,b8_,af_,ba_,cp_,b3_,am_,ac_,bq_,bs_,ao_,c4_,a2_,az_,ar_,dw_,d6_,ea_,d3_,b5_,fh_,fu_,fp_,fz_,fq_,fk_,ft_,f0_,c5_,bt_,cx_,cr_,cf_,an_,fv_,Int.toNat_natCast,eh_,b9_,f3_,di_,dm_,dn_,gv_,g4_,f4_,Int.add_zero,Int.zero_add,Int.ediv_one,Nat.reduceAdd,Nat.reduceMul,Int.reduceNeg,Nat.reduceLeDiff,List.length_cons,List.length_nil,true_and,Nat.zero_add,eq_self,Nat.reduceEqDiff,Int.reduceAdd,Int.reduceSub,Int.reduceMul,Nat.reduceLT,Int.reduceToNat,Int.reduceEq,Int.reduceNe,Int.reduceLT,Int.reduceLE]
  exact hQ
theorem con_MwaitsIn {n : Nat} (hn : n ≤ 100) (hI : GI R) (hQ : Q (some (.int (zI (wtX R n)))) (HM (g6_ R n) rf lt lsz a0 ib sm pl lo nu kp ig hmg p0 tk ki tu tz tf tn tsz ga sd bb)) : Con M_M_waitsIn [.ref 90, .int (zI n)] (HM R rf lt lsz a0 ib sm pl lo nu kp ig hmg p0 tk ki tu tz tf tn tsz ga sd bb) Q := by
  refine g8_ (L := [some (.ref 90), some (.int (zI n)), none, none, none]) ok_M_waitsIn (Nat.le_of_ble_eq_true rfl) rfl ?_
  refine w_M_waitsIn_0 ?_
  simp (disch := omega) only [cm_,aq_,ay_,ag_,b8_,af_,ba_,cp_,b3_,am_,ac_,bq_,bs_,ao_,c4_,a2_,az_,ar_,dw_,d6_,ea_,d3_,b5_,fh_,fu_,fp_,fz_,fq_,fk_,ft_,f0_,c5_,bt_,cx_,cr_,cf_,an_,fv_,Int.toNat_natCast,eh_,b9_,f3_,di_,dm_,dn_,gv_,g4_,f4_,Int.add_zero,Int.zero_add,Int.ediv_one,Nat.reduceAdd,Nat.reduceMul,Int.reduceNeg,Nat.reduceLeDiff,List.length_cons,List.length_nil,true_and,Nat.zero_add,eq_self,Nat.reduceEqDiff,Int.reduceAdd,Int.reduceSub,Int.reduceMul,Nat.reduceLT,Int.reduceToNat,Int.reduceEq,Int.reduceNe,Int.reduceLT,Int.reduceLE]
  have loop : ∀ k i : Nat, i + k = n → ∀ x, J M_M_waitsIn 4 [some (.ref 90), some (.int (zI n)), some (.int (zI (wtX R i))), some (.int (zI i)), x] [] (HM (g6_ R i) rf lt lsz a0 ib sm pl lo nu kp ig hmg p0 tk ki tu tz tf tn tsz ga sd bb) Q := by
    intro k
    induction k with
    | zero =>
      intro i hi x
      have e : i = n := by omega
      subst e
      refine w_M_waitsIn_4 ?_
      simp (disch := omega) only [cm_,aq_,ay_,ag_,b8_,af_,ba_,cp_,b3_,am_,ac_,bq_,bs_,ao_,c4_,a2_,az_,ar_,dw_,d6_,ea_,d3_,b5_,fh_,fu_,fp_,fz_,fq_,fk_,ft_,f0_,c5_,bt_,cx_,cr_,cf_,an_,fv_,Int.toNat_natCast,eh_,b9_,f3_,di_,dm_,dn_,gv_,g4_,f4_,Int.add_zero,Int.zero_add,Int.ediv_one,Nat.reduceAdd,Nat.reduceMul,Int.reduceNeg,Nat.reduceLeDiff,List.length_cons,List.length_nil,true_and,Nat.zero_add,eq_self,Nat.reduceEqDiff,Int.reduceAdd,Int.reduceSub,Int.reduceMul,Nat.reduceLT,Int.reduceToNat,Int.reduceEq,Int.reduceNe,Int.reduceLT,Int.reduceLE]
      repeat' (first | with_reducible refine And.intro ?_ ?_ | with_reducible intro _ | ((first | with_reducible refine w_M_waitsIn_40 ?_ | with_reducible refine w_M_waitsIn_41 ?_ | with_reducible refine w_M_waitsIn_49 ?_); simp (disch := omega) only [cm_,aq_,ay_,ag_,b8_,af_,ba_,cp_,b3_,am_,ac_,bq_,bs_,ao_,c4_,a2_,az_,ar_,dw_,d6_,ea_,d3_,b5_,fh_,fu_,fp_,fz_,fq_,fk_,ft_,f0_,c5_,bt_,cx_,cr_,cf_,an_,fv_,Int.toNat_natCast,eh_,b9_,f3_,di_,dm_,dn_,gv_,g4_,f4_,Int.add_zero,Int.zero_add,Int.ediv_one,Nat.reduceAdd,Nat.reduceMul,Int.reduceNeg,Nat.reduceLeDiff,List.length_cons,List.length_nil,true_and,Nat.zero_add,eq_self,Nat.reduceEqDiff,Int.reduceAdd,Int.reduceSub,Int.reduceMul,Nat.reduceLT,Int.reduceToNat,Int.reduceEq,Int.reduceNe,Int.reduceLT,Int.reduceLE]))
      all_goals first | omega | exact hQ
    | succ k ih =>
      intro i hi x
      have step := ih (i + 1) (by omega)
      have gk := (hI.dsX i).1.king
      have gk2 := (hI.dsX (i + 1)).1.king
      have hw := waitX_iff (hI.dsX i).1
      have ed : dayX (g6_ R i) = g6_ R (i + 1) := rfl
      rw [ed] at hw
      have es : wtX R (i + 1) = if waitX (g6_ R i) = true then wtX R i + 1 else wtX R i := rfl
      rw [es] at step
      refine w_M_waitsIn_4 ?_
      simp (disch := omega) only [cm_,aq_,ay_,ag_,b8_,af_,ba_,cp_,b3_,am_,ac_,bq_,bs_,ao_,c4_,a2_,az_,ar_,dw_,d6_,ea_,d3_,b5_,fh_,fu_,fp_,fz_,fq_,fk_,ft_,f0_,c5_,bt_,cx_,cr_,cf_,an_,fv_,Int.toNat_natCast,eh_,b9_,f3_,di_,dm_,dn_,gv_,g4_,f4_,Int.add_zero,Int.zero_add,Int.ediv_one,Nat.reduceAdd,Nat.reduceMul,Int.reduceNeg,Nat.reduceLeDiff,List.length_cons,List.length_nil,true_and,Nat.zero_add,eq_self,Nat.reduceEqDiff,Int.reduceAdd,Int.reduceSub,Int.reduceMul,Nat.reduceLT,Int.reduceToNat,Int.reduceEq,Int.reduceNe,Int.reduceLT,Int.reduceLE]
      refine ⟨fun q => by omega, fun _ => ?_⟩
      refine con_MdayOn (hI.dsX i).1 (hI.dsX i).2.1 ?_
      rw [ed]
      simp (disch := omega) only [cm_,aq_,ay_,ag_,b8_,af_,ba_,cp_,b3_,am_,ac_,bq_,bs_,ao_,c4_,a2_,az_,ar_,dw_,d6_,ea_,d3_,b5_,fh_,fu_,fp_,fz_,fq_,fk_,ft_,f0_,c5_,bt_,cx_,cr_,cf_,an_,fv_,Int.toNat_natCast,eh_,b9_,f3_,di_,dm_,dn_,gv_,g4_,f4_,Int.add_zero,Int.zero_add,Int.ediv_one,Nat.reduceAdd,Nat.reduceMul,Int.reduceNeg,Nat.reduceLeDiff,List.length_cons,List.length_nil,true_and,Nat.zero_add,eq_self,Nat.reduceEqDiff,Int.reduceAdd,Int.reduceSub,Int.reduceMul,Nat.reduceLT,Int.reduceToNat,Int.reduceEq,Int.reduceNe,Int.reduceLT,Int.reduceLE]
      refine ⟨fun c => ?_, fun c => ⟨fun c2 => ?_, fun c2 => ?_⟩⟩
      · rw [if_neg (fun q => by have := hw.mp q; omega)] at step
        repeat' (first | with_reducible refine And.intro ?_ ?_ | with_reducible intro _ | ((first | with_reducible refine w_M_waitsIn_40 ?_ | with_reducible refine w_M_waitsIn_41 ?_ | with_reducible refine w_M_waitsIn_49 ?_); simp (disch := omega) only [cm_,aq_,ay_,ag_,b8_,af_,ba_,cp_,b3_,am_,ac_,bq_,bs_,ao_,c4_,a2_,az_,ar_,dw_,d6_,ea_,d3_,b5_,fh_,fu_,fp_,fz_,fq_,fk_,ft_,f0_,c5_,bt_,cx_,cr_,cf_,an_,fv_,Int.toNat_natCast,eh_,b9_,f3_,di_,dm_,dn_,gv_,g4_,f4_,Int.add_zero,Int.zero_add,Int.ediv_one,Nat.reduceAdd,Nat.reduceMul,Int.reduceNeg,Nat.reduceLeDiff,List.length_cons,List.length_nil,true_and,Nat.zero_add,eq_self,Nat.reduceEqDiff,Int.reduceAdd,Int.reduceSub,Int.reduceMul,Nat.reduceLT,Int.reduceToNat,Int.reduceEq,Int.reduceNe,Int.reduceLT,Int.reduceLE]))
        all_goals first | omega | exact step _
      · rw [if_neg (fun q => by have := hw.mp q; omega)] at step
        repeat' (first | with_reducible refine And.intro ?_ ?_ | with_reducible intro _ | ((first | with_reducible refine w_M_waitsIn_40 ?_ | with_reducible refine w_M_waitsIn_41 ?_ | with_reducible refine w_M_waitsIn_49 ?_); simp (disch := omega) only [cm_,aq_,ay_,ag_,b8_,af_,ba_,cp_,b3_,am_,ac_,bq_,bs_,ao_,c4_,a2_,az_,ar_,dw_,d6_,ea_,d3_,b5_,fh_,fu_,fp_,fz_,fq_,fk_,ft_,f0_,c5_,bt_,cx_,cr_,cf_,an_,fv_,Int.toNat_natCast,eh_,b9_,f3_,di_,dm_,dn_,gv_,g4_,f4_,Int.add_zero,Int.zero_add,Int.ediv_one,Nat.reduceAdd,Nat.reduceMul,Int.reduceNeg,Nat.reduceLeDiff,List.length_cons,List.length_nil,true_and,Nat.zero_add,eq_self,Nat.reduceEqDiff,Int.reduceAdd,Int.reduceSub,Int.reduceMul,Nat.reduceLT,Int.reduceToNat,Int.reduceEq,Int.reduceNe,Int.reduceLT,Int.reduceLE]))
        all_goals first | omega | exact step _
      · rw [if_pos (hw.mpr ⟨by omega, by omega⟩)] at step
        repeat' (first | with_reducible refine And.intro ?_ ?_ | with_reducible intro _ | ((first | with_reducible refine w_M_waitsIn_40 ?_ | with_reducible refine w_M_waitsIn_41 ?_ | with_reducible refine w_M_waitsIn_49 ?_); simp (disch := omega) only [cm_,aq_,ay_,ag_,b8_,af_,ba_,cp_,b3_,am_,ac_,bq_,bs_,ao_,c4_,a2_,az_,ar_,dw_,d6_,ea_,d3_,b5_,fh_,fu_,fp_,fz_,fq_,fk_,ft_,f0_,c5_,bt_,cx_,cr_,cf_,an_,fv_,Int.toNat_natCast,eh_,b9_,f3_,di_,dm_,dn_,gv_,g4_,f4_,Int.add_zero,Int.zero_add,Int.ediv_one,Nat.reduceAdd,Nat.reduceMul,Int.reduceNeg,Nat.reduceLeDiff,List.length_cons,List.length_nil,true_and,Nat.zero_add,eq_self,Nat.reduceEqDiff,Int.reduceAdd,Int.reduceSub,Int.reduceMul,Nat.reduceLT,Int.reduceToNat,Int.reduceEq,Int.reduceNe,Int.reduceLT,Int.reduceLE]))
        all_goals first | omega | exact step _
  exact loop n 0 (Nat.zero_add _) none
theorem con_MbitsOf {w : Int} (hw : inI w) (hG : GR R) (hQ : Q (some (.int (zI (mask (isF R w) (hb_ R) : Nat)))) (HM R rf lt lsz a0 ib sm pl lo nu kp ig hmg p0 tk ki tu tz tf tn tsz ga sd bb)) : Con M_M_bitsOf [.ref 90, .int (zI w)] (HM R rf lt lsz a0 ib sm pl lo nu kp ig hmg p0 tk ki tu tz tf tn tsz ga sd bb) Q := by
  have gm := hG.men
  have gn := hG.nM
  obtain ⟨w1, w2⟩ := id hw
  refine g8_ (L := [some (.ref 90), some (.int (zI w)), none, none]) ok_M_bitsOf (Nat.le_of_ble_eq_true rfl) rfl ?_
  refine w_M_bitsOf_0 ?_
  simp (disch := omega) only [cm_,aq_,ay_,ag_,b8_,af_,ba_,cp_,b3_,am_,ac_,bq_,bs_,ao_,c4_,a2_,az_,ar_,dw_,d6_,ea_,d3_,b5_,fh_,fu_,fp_,fz_,fq_,fk_,ft_,f0_,c5_,bt_,cx_,cr_,cf_,an_,fv_,Int.toNat_natCast,eh_,b9_,f3_,di_,dm_,dn_,gv_,g4_,f4_,Int.add_zero,Int.zero_add,Int.ediv_one,Nat.reduceAdd,Nat.reduceMul,Int.reduceNeg,Nat.reduceLeDiff,List.length_cons,List.length_nil,true_and,Nat.zero_add,eq_self,Nat.reduceEqDiff,Int.reduceAdd,Int.reduceSub,Int.reduceMul,Nat.reduceLT,Int.reduceToNat,Int.reduceEq,Int.reduceNe,Int.reduceLT,Int.reduceLE]
  have loop : ∀ n i : Nat, i + n = hb_ R → J M_M_bitsOf 4 [some (.ref 90), some (.int (zI w)), some (.int (zI (mask (isF R w) i : Nat))), some (.int (zI i))] [] (HM R rf lt lsz a0 ib sm pl lo nu kp ig hmg p0 tk ki tu tz tf tn tsz ga sd bb) Q := by
    intro n
    induction n with
    | zero =>
      intro i hi
      have e : i = hb_ R := by omega
      refine w_M_bitsOf_4 ?_
      simp (disch := omega) only [cm_,aq_,ay_,ag_,b8_,af_,ba_,cp_,b3_,am_,ac_,bq_,bs_,ao_,c4_,a2_,az_,ar_,dw_,d6_,ea_,d3_,b5_,fh_,fu_,fp_,fz_,fq_,fk_,ft_,f0_,c5_,bt_,cx_,cr_,cf_,an_,fv_,Int.toNat_natCast,eh_,b9_,f3_,di_,dm_,dn_,gv_,g4_,f4_,Int.add_zero,Int.zero_add,Int.ediv_one,Nat.reduceAdd,Nat.reduceMul,Int.reduceNeg,Nat.reduceLeDiff,List.length_cons,List.length_nil,true_and,Nat.zero_add,eq_self,Nat.reduceEqDiff,Int.reduceAdd,Int.reduceSub,Int.reduceMul,Nat.reduceLT,Int.reduceToNat,Int.reduceEq,Int.reduceNe,Int.reduceLT,Int.reduceLE]
      repeat' (first | with_reducible refine And.intro ?_ ?_ | with_reducible intro _ | ((first | with_reducible refine w_M_bitsOf_29 ?_ | with_reducible refine w_M_bitsOf_30 ?_ | with_reducible refine w_M_bitsOf_38 ?_); simp (disch := omega) only [cm_,aq_,ay_,ag_,b8_,af_,ba_,cp_,b3_,am_,ac_,bq_,bs_,ao_,c4_,a2_,az_,ar_,dw_,d6_,ea_,d3_,b5_,fh_,fu_,fp_,fz_,fq_,fk_,ft_,f0_,c5_,bt_,cx_,cr_,cf_,an_,fv_,Int.toNat_natCast,eh_,b9_,f3_,di_,dm_,dn_,gv_,g4_,f4_,Int.add_zero,Int.zero_add,Int.ediv_one,Nat.reduceAdd,Nat.reduceMul,Int.reduceNeg,Nat.reduceLeDiff,List.length_cons,List.length_nil,true_and,Nat.zero_add,eq_self,Nat.reduceEqDiff,Int.reduceAdd,Int.reduceSub,Int.reduceMul,Nat.reduceLT,Int.reduceToNat,Int.reduceEq,Int.reduceNe,Int.reduceLT,Int.reduceLE]))
      all_goals first | omega | (rw [e]; exact hQ)
    | succ n ih =>
      intro i hi
      have gf := hG.fa i
      have step := ih (i + 1) (by omega)
      by_cases c : rFa R i = w
      · rw [mask_t (by simp [isF, c])] at step
        refine w_M_bitsOf_4 ?_
        simp (disch := omega) only [cm_,aq_,ay_,ag_,b8_,af_,ba_,cp_,b3_,am_,ac_,bq_,bs_,ao_,c4_,a2_,az_,ar_,dw_,d6_,ea_,d3_,b5_,fh_,fu_,fp_,fz_,fq_,fk_,ft_,f0_,c5_,bt_,cx_,cr_,cf_,an_,fv_,Int.toNat_natCast,eh_,b9_,f3_,di_,dm_,dn_,gv_,g4_,f4_,Int.add_zero,Int.zero_add,Int.ediv_one,Nat.reduceAdd,Nat.reduceMul,Int.reduceNeg,Nat.reduceLeDiff,List.length_cons,List.length_nil,true_and,Nat.zero_add,eq_self,Nat.reduceEqDiff,Int.reduceAdd,Int.reduceSub,Int.reduceMul,Nat.reduceLT,Int.reduceToNat,Int.reduceEq,Int.reduceNe,Int.reduceLT,Int.reduceLE]
        repeat' (first | with_reducible refine And.intro ?_ ?_ | with_reducible intro _ | ((first | with_reducible refine w_M_bitsOf_29 ?_ | with_reducible refine w_M_bitsOf_30 ?_ | with_reducible refine w_M_bitsOf_38 ?_); simp (disch := omega) only [cm_,aq_,ay_,ag_,b8_,af_,ba_,cp_,b3_,am_,ac_,bq_,bs_,ao_,c4_,a2_,az_,ar_,dw_,d6_,ea_,d3_,b5_,fh_,fu_,fp_,fz_,fq_,fk_,ft_,f0_,c5_,bt_,cx_,cr_,cf_,an_,fv_,Int.toNat_natCast,eh_,b9_,f3_,di_,dm_,dn_,gv_,g4_,f4_,Int.add_zero,Int.zero_add,Int.ediv_one,Nat.reduceAdd,Nat.reduceMul,Int.reduceNeg,Nat.reduceLeDiff,List.length_cons,List.length_nil,true_and,Nat.zero_add,eq_self,Nat.reduceEqDiff,Int.reduceAdd,Int.reduceSub,Int.reduceMul,Nat.reduceLT,Int.reduceToNat,Int.reduceEq,Int.reduceNe,Int.reduceLT,Int.reduceLE]))
        all_goals first | omega | exact step
      · rw [mask_f (by simp [isF, c])] at step
        refine w_M_bitsOf_4 ?_
        simp (disch := omega) only [cm_,aq_,ay_,ag_,b8_,af_,ba_,cp_,b3_,am_,ac_,bq_,bs_,ao_,c4_,a2_,az_,ar_,dw_,d6_,ea_,d3_,b5_,fh_,fu_,fp_,fz_,fq_,fk_,ft_,f0_,c5_,bt_,cx_,cr_,cf_,an_,fv_,Int.toNat_natCast,eh_,b9_,f3_,di_,dm_,dn_,gv_,g4_,f4_,Int.add_zero,Int.zero_add,Int.ediv_one,Nat.reduceAdd,Nat.reduceMul,Int.reduceNeg,Nat.reduceLeDiff,List.length_cons,List.length_nil,true_and,Nat.zero_add,eq_self,Nat.reduceEqDiff,Int.reduceAdd,Int.reduceSub,Int.reduceMul,Nat.reduceLT,Int.reduceToNat,Int.reduceEq,Int.reduceNe,Int.reduceLT,Int.reduceLE]
        have z0 : ∀ a : Nat, zI (a : Int) ||| zI 0 = zI (a : Int) := fun a => by
          rw [show zI 0 = zI ((0 : Nat) : Int) from rfl, eh_, Nat.or_zero]
        refine ⟨fun q => by omega, fun _ => ⟨by omega, fun _ => ?_, fun q => by omega⟩⟩
        refine w_M_bitsOf_29 ?_
        simp (disch := omega) only [cm_,aq_,ay_,ag_,b8_,af_,ba_,cp_,b3_,am_,ac_,bq_,bs_,ao_,c4_,a2_,az_,ar_,dw_,d6_,ea_,d3_,b5_,fh_,fu_,fp_,fz_,fq_,fk_,ft_,f0_,c5_,bt_,cx_,cr_,cf_,an_,fv_,Int.toNat_natCast,eh_,b9_,f3_,di_,dm_,dn_,gv_,g4_,f4_,Int.add_zero,Int.zero_add,Int.ediv_one,Nat.reduceAdd,Nat.reduceMul,Int.reduceNeg,Nat.reduceLeDiff,List.length_cons,List.length_nil,true_and,Nat.zero_add,eq_self,Nat.reduceEqDiff,Int.reduceAdd,Int.reduceSub,Int.reduceMul,Nat.reduceLT,Int.reduceToNat,Int.reduceEq,Int.reduceNe,Int.reduceLT,Int.reduceLE]
        refine w_M_bitsOf_30 ?_
        simp (disch := omega) only [cm_,aq_,ay_,ag_,b8_,af_,ba_,cp_,b3_,am_,ac_,bq_,bs_,ao_,c4_,a2_,az_,ar_,dw_,d6_,ea_,d3_,b5_,fh_,fu_,fp_,fz_,fq_,fk_,ft_,f0_,c5_,bt_,cx_,cr_,cf_,an_,fv_,Int.toNat_natCast,eh_,b9_,f3_,di_,dm_,dn_,gv_,g4_,f4_,Int.add_zero,Int.zero_add,Int.ediv_one,Nat.reduceAdd,Nat.reduceMul,Int.reduceNeg,Nat.reduceLeDiff,List.length_cons,List.length_nil,true_and,Nat.zero_add,eq_self,Nat.reduceEqDiff,Int.reduceAdd,Int.reduceSub,Int.reduceMul,Nat.reduceLT,Int.reduceToNat,Int.reduceEq,Int.reduceNe,Int.reduceLT,Int.reduceLE,z0]
        exact step
  exact loop _ 0 (Nat.zero_add _)
end D7
end
/-! asksM -/
section
/-! ===== the reference's state, as a reader sees it; its methods that look up ===== -/
def MW (R I : RR) (im : Int) (P : Nat → RR) (pz : Int) (lt : Nat → Int) (lsz : Int) (tn : Nat → Int) (tsz : Int) (rf : Nat → Int) (bb h : AH) : Prop :=
  ∃ (a0 ib sm : Int) (pl lo nu kp ig : Nat → Int) (p0 tk : Int) (ki : Value) (tu tf ga : Nat → Int) (sd : Int), h = HM R rf lt lsz a0 ib sm pl lo nu kp ig im p0 tk ki tu pz tf tn tsz ga sd bb ∧ (im ≠ 0 → KP ig I) ∧ (∀ i : Nat, (i : Int) < pz → ∀ j, j < 49 → tu (49 * i + j) = fl (P i) j) ∧ (0 ≤ pz ∧ pz ≤ 8)
section E1
variable {R I : RR} {im : Int} {P : Nat → RR} {pz : Int} {lt : Nat → Int} {lsz : Int} {tn : Nat → Int} {tsz : Int} {rf : Nat → Int} {bb h : AH} {Q : Option Value → AH → Prop}
theorem M_feed {c : Int} (hc : inI c) (hL : GL lt lsz) (hI : GI R)  (W : (MW R I im P pz lt lsz tn tsz rf bb h))
    (r4 : c < 0 → ∀ h, (MW R I im P pz lt lsz tn tsz (rfU rf 4) bb h) → Q (some (.int (zI (-4)))) h)
    (r6 : 0 ≤ c → (255 < c ∨ lsz = 96) → ∀ h, (MW R I im P pz lt lsz tn tsz (rfU rf 6) bb h) → Q (some (.int (zI (-6)))) h)
    (ok : 0 ≤ c → c ≤ 255 → lsz ≠ 96 → ∀ h, (MW R I im P pz (upI lt lsz.toNat c) (lsz + 1) tn tsz rf bb h) → Q (some (.int (zI (lsz + 1)))) h) : Con M_M_feed [.ref 90, .int (zI c)] h Q := by
  obtain ⟨a0, ib, sm, pl, lo, nu, kp, ig, p0, tk, ki, tu, tf, ga, sd, rfl, hIg, hTu, hPz⟩ := W
  obtain ⟨c1, c2⟩ := id hc
  have gl := hL.1
  have k4 := fun q => r4 q _ ⟨a0, ib, sm, pl, lo, nu, kp, ig, p0, tk, ki, tu, tf, ga, sd, rfl, hIg, hTu, hPz⟩
  have k6 := fun q q2 => r6 q q2 _ ⟨a0, ib, sm, pl, lo, nu, kp, ig, p0, tk, ki, tu, tf, ga, sd, rfl, hIg, hTu, hPz⟩
  have kk := fun q q2 q3 => ok q q2 q3 _ ⟨a0, ib, sm, pl, lo, nu, kp, ig, p0, tk, ki, tu, tf, ga, sd, rfl, hIg, hTu, hPz⟩
  refine g8_ (L := [some (.ref 90), some (.int (zI c))]) ok_M_feed (Nat.le_of_ble_eq_true rfl) rfl ?_
  refine w_M_feed_0 ?_
  simp (disch := omega) only [cm_,aq_,ay_,af_,bm_,ah_,ba_,c0_,bg_,am_,ae_,ac_,b2_,bq_,ed_,bs_,a0_,ao_,az_,aw_,dw_,d6_,fl_,fn_,fh_,fu_,fz_,fq_,fk_,fr_,ft_,fs_,f0_,c5_,bd_,c3_,ct_,cx_,cr_,cz_,eb_,d5_,cf_,an_,cl_,fv_,d1_,dz_,Int.toNat_natCast,di_,dm_,dn_,er_,gv_,g1_,g0_,gz_,g4_,gx_,gy_,gu_,gl_,f4_,Int.add_zero,Int.zero_add,Int.ediv_one,Nat.reduceAdd,Nat.reduceMul,Int.reduceNeg,Nat.reduceLeDiff,List.length_cons,List.length_nil,true_and,and_true,Nat.zero_add,eq_self,Nat.reduceEqDiff,Int.reduceAdd,Int.reduceSub,Int.reduceMul,not_true_eq_false,not_false_eq_true,Nat.reduceLT,Int.reduceToNat,Int.reduceEq,Int.reduceNe,Int.reduceLT,Int.reduceLE,false_or,and_self,false_implies,true_implies]
  refine ⟨fun q => ?_, fun q => ?_⟩
  · have bad : (255 < c ∨ lsz = 96) → J M_M_feed 32 [some (.ref 90), some (.int (zI c))] [] (HM R rf lt lsz a0 ib sm pl lo nu kp ig im p0 tk ki tu pz tf tn tsz ga sd bb) Q := by
      intro q2
      refine w_M_feed_32 ?_
      simp (disch := omega) only [cm_,aq_,ay_,af_,bm_,ah_,ba_,c0_,bg_,am_,ae_,ac_,b2_,bq_,ed_,bs_,a0_,ao_,az_,aw_,dw_,d6_,fl_,fn_,fh_,fu_,fz_,fq_,fk_,fr_,ft_,fs_,f0_,c5_,bd_,c3_,ct_,cx_,cr_,cz_,eb_,d5_,cf_,an_,cl_,fv_,d1_,dz_,Int.toNat_natCast,di_,dm_,dn_,er_,gv_,g1_,g0_,gz_,g4_,gx_,gy_,gu_,gl_,f4_,Int.add_zero,Int.zero_add,Int.ediv_one,Nat.reduceAdd,Nat.reduceMul,Int.reduceNeg,Nat.reduceLeDiff,List.length_cons,List.length_nil,true_and,and_true,Nat.zero_add,eq_self,Nat.reduceEqDiff,Int.reduceAdd,Int.reduceSub,Int.reduceMul,not_true_eq_false,not_false_eq_true,Nat.reduceLT,Int.reduceToNat,Int.reduceEq,Int.reduceNe,Int.reduceLT,Int.reduceLE,false_or,and_self,false_implies,true_implies]
      refine con_Mrefuse (k := 6) (by omega) ?_
      simp (disch := omega) only [cm_,aq_,ay_,af_,bm_,ah_,ba_,c0_,bg_,am_,ae_,ac_,b2_,bq_,ed_,bs_,a0_,ao_,az_,aw_,dw_,d6_,fl_,fn_,fh_,fu_,fz_,fq_,fk_,fr_,ft_,fs_,f0_,c5_,bd_,c3_,ct_,cx_,cr_,cz_,eb_,d5_,cf_,an_,cl_,fv_,d1_,dz_,Int.toNat_natCast,di_,dm_,dn_,er_,gv_,g1_,g0_,gz_,g4_,gx_,gy_,gu_,gl_,f4_,Int.add_zero,Int.zero_add,Int.ediv_one,Nat.reduceAdd,Nat.reduceMul,Int.reduceNeg,Nat.reduceLeDiff,List.length_cons,List.length_nil,true_and,and_true,Nat.zero_add,eq_self,Nat.reduceEqDiff,Int.reduceAdd,Int.reduceSub,Int.reduceMul,not_true_eq_false,not_false_eq_true,Nat.reduceLT,Int.reduceToNat,Int.reduceEq,Int.reduceNe,Int.reduceLT,Int.reduceLE,false_or,and_self,false_implies,true_implies]
      exact k6 q q2
    refine w_M_feed_16 ?_
    simp (disch := omega) only [cm_,aq_,ay_,af_,bm_,ah_,ba_,c0_,bg_,am_,ae_,ac_,b2_,bq_,ed_,bs_,a0_,ao_,az_,aw_,dw_,d6_,fl_,fn_,fh_,fu_,fz_,fq_,fk_,fr_,ft_,fs_,f0_,c5_,bd_,c3_,ct_,cx_,cr_,cz_,eb_,d5_,cf_,an_,cl_,fv_,d1_,dz_,Int.toNat_natCast,di_,dm_,dn_,er_,gv_,g1_,g0_,gz_,g4_,gx_,gy_,gu_,gl_,f4_,Int.add_zero,Int.zero_add,Int.ediv_one,Nat.reduceAdd,Nat.reduceMul,Int.reduceNeg,Nat.reduceLeDiff,List.length_cons,List.length_nil,true_and,and_true,Nat.zero_add,eq_self,Nat.reduceEqDiff,Int.reduceAdd,Int.reduceSub,Int.reduceMul,not_true_eq_false,not_false_eq_true,Nat.reduceLT,Int.reduceToNat,Int.reduceEq,Int.reduceNe,Int.reduceLT,Int.reduceLE,false_or,and_self,false_implies,true_implies]
    refine ⟨fun q2 => bad (by omega), fun q2 => ⟨fun q3 => ?_, fun q3 => bad (by omega)⟩⟩
    refine w_M_feed_39 ?_
    simp (disch := omega) only [cm_,aq_,ay_,af_,bm_,ah_,ba_,c0_,bg_,am_,ae_,ac_,b2_,bq_,ed_,bs_,a0_,ao_,az_,aw_,dw_,d6_,fl_,fn_,fh_,fu_,fz_,fq_,fk_,fr_,ft_,fs_,f0_,c5_,bd_,c3_,ct_,cx_,cr_,cz_,eb_,d5_,cf_,an_,cl_,fv_,d1_,dz_,Int.toNat_natCast,di_,dm_,dn_,er_,gv_,g1_,g0_,gz_,g4_,gx_,gy_,gu_,gl_,f4_,Int.add_zero,Int.zero_add,Int.ediv_one,Nat.reduceAdd,Nat.reduceMul,Int.reduceNeg,Nat.reduceLeDiff,List.length_cons,List.length_nil,true_and,and_true,Nat.zero_add,eq_self,Nat.reduceEqDiff,Int.reduceAdd,Int.reduceSub,Int.reduceMul,not_true_eq_false,not_false_eq_true,Nat.reduceLT,Int.reduceToNat,Int.reduceEq,Int.reduceNe,Int.reduceLT,Int.reduceLE,false_or,and_self,false_implies,true_implies]
    first | exact kk q (by omega) (by omega) | exact ⟨by omega, kk q (by omega) (by omega)⟩
  · refine con_Mrefuse (k := 4) (by omega) ?_
    simp (disch := omega) only [cm_,aq_,ay_,af_,bm_,ah_,ba_,c0_,bg_,am_,ae_,ac_,b2_,bq_,ed_,bs_,a0_,ao_,az_,aw_,dw_,d6_,fl_,fn_,fh_,fu_,fz_,fq_,fk_,fr_,ft_,fs_,f0_,c5_,bd_,c3_,ct_,cx_,cr_,cz_,eb_,d5_,cf_,an_,cl_,fv_,d1_,dz_,Int.toNat_natCast,di_,dm_,dn_,er_,gv_,g1_,g0_,gz_,g4_,gx_,gy_,gu_,gl_,f4_,Int.add_zero,Int.zero_add,Int.ediv_one,Nat.reduceAdd,Nat.reduceMul,Int.reduceNeg,Nat.reduceLeDiff,List.length_cons,List.length_nil,true_and,and_true,Nat.zero_add,eq_self,Nat.reduceEqDiff,Int.reduceAdd,Int.reduceSub,Int.reduceMul,not_true_eq_false,not_false_eq_true,Nat.reduceLT,Int.reduceToNat,Int.reduceEq,Int.reduceNe,Int.reduceLT,Int.reduceLE,false_or,and_self,false_implies,true_implies]
    exact k4 (by omega)
theorem M_slope {s : Int} (hs : inI s) (hI : GI R)  (W : (MW R I im P pz lt lsz tn tsz rf bb h))
    (r1 : ¬ (0 ≤ s ∧ s < 12) → ∀ h, (MW R I im P pz lt lsz tn tsz (rfU rf 1) bb h) → Q (some (.int (zI (-1)))) h)
    (ok : 0 ≤ s ∧ s < 12 → ∀ h, (MW R I im P pz lt lsz tn tsz rf bb h) → Q (some (.int (zI (rSl R s.toNat)))) h) : Con M_M_slope [.ref 90, .int (zI s)] h Q := by
  obtain ⟨a0, ib, sm, pl, lo, nu, kp, ig, p0, tk, ki, tu, tf, ga, sd, rfl, hIg, hTu, hPz⟩ := W
  obtain ⟨s1, s2⟩ := id hs
  have k1 := fun q => r1 q _ ⟨a0, ib, sm, pl, lo, nu, kp, ig, p0, tk, ki, tu, tf, ga, sd, rfl, hIg, hTu, hPz⟩
  have kk := fun q => ok q _ ⟨a0, ib, sm, pl, lo, nu, kp, ig, p0, tk, ki, tu, tf, ga, sd, rfl, hIg, hTu, hPz⟩
  refine g8_ (L := [some (.ref 90), some (.int (zI s))]) ok_M_slope (Nat.le_of_ble_eq_true rfl) rfl ?_
  refine w_M_slope_0 ?_
  simp (disch := omega) only [cm_,aq_,ay_,af_,bm_,ah_,ba_,c0_,bg_,am_,ae_,ac_,b2_,bq_,ed_,bs_,a0_,ao_,az_,aw_,dw_,d6_,fl_,fn_,fh_,fu_,fz_,fq_,fk_,fr_,ft_,fs_,f0_,c5_,bd_,c3_,ct_,cx_,cr_,cz_,eb_,d5_,cf_,an_,cl_,fv_,d1_,dz_,Int.toNat_natCast,di_,dm_,dn_,er_,gv_,g1_,g0_,gz_,g4_,gx_,gy_,gu_,gl_,f4_,Int.add_zero,Int.zero_add,Int.ediv_one,Nat.reduceAdd,Nat.reduceMul,Int.reduceNeg,Nat.reduceLeDiff,List.length_cons,List.length_nil,true_and,and_true,Nat.zero_add,eq_self,Nat.reduceEqDiff,Int.reduceAdd,Int.reduceSub,Int.reduceMul,not_true_eq_false,not_false_eq_true,Nat.reduceLT,Int.reduceToNat,Int.reduceEq,Int.reduceNe,Int.reduceLT,Int.reduceLE,false_or,and_self,false_implies,true_implies]
  refine con_Min hs (by unfold inI; omega) (by unfold inI; omega) (fun c => ?_) (fun c => ?_)
  · simp (disch := omega) only [cm_,aq_,ay_,af_,bm_,ah_,ba_,c0_,bg_,am_,ae_,ac_,b2_,bq_,ed_,bs_,a0_,ao_,az_,aw_,dw_,d6_,fl_,fn_,fh_,fu_,fz_,fq_,fk_,fr_,ft_,fs_,f0_,c5_,bd_,c3_,ct_,cx_,cr_,cz_,eb_,d5_,cf_,an_,cl_,fv_,d1_,dz_,Int.toNat_natCast,di_,dm_,dn_,er_,gv_,g1_,g0_,gz_,g4_,gx_,gy_,gu_,gl_,f4_,Int.add_zero,Int.zero_add,Int.ediv_one,Nat.reduceAdd,Nat.reduceMul,Int.reduceNeg,Nat.reduceLeDiff,List.length_cons,List.length_nil,true_and,and_true,Nat.zero_add,eq_self,Nat.reduceEqDiff,Int.reduceAdd,Int.reduceSub,Int.reduceMul,not_true_eq_false,not_false_eq_true,Nat.reduceLT,Int.reduceToNat,Int.reduceEq,Int.reduceNe,Int.reduceLT,Int.reduceLE,false_or,and_self,false_implies,true_implies]
    refine ⟨by omega, ?_⟩
    refine w_M_slope_31 ?_
    simp (disch := omega) only [cm_,aq_,ay_,af_,bm_,ah_,ba_,c0_,bg_,am_,ae_,ac_,b2_,bq_,ed_,bs_,a0_,ao_,az_,aw_,dw_,d6_,fl_,fn_,fh_,fu_,fz_,fq_,fk_,fr_,ft_,fs_,f0_,c5_,bd_,c3_,ct_,cx_,cr_,cz_,eb_,d5_,cf_,an_,cl_,fv_,d1_,dz_,Int.toNat_natCast,di_,dm_,dn_,er_,gv_,g1_,g0_,gz_,g4_,gx_,gy_,gu_,gl_,f4_,Int.add_zero,Int.zero_add,Int.ediv_one,Nat.reduceAdd,Nat.reduceMul,Int.reduceNeg,Nat.reduceLeDiff,List.length_cons,List.length_nil,true_and,and_true,Nat.zero_add,eq_self,Nat.reduceEqDiff,Int.reduceAdd,Int.reduceSub,Int.reduceMul,not_true_eq_false,not_false_eq_true,Nat.reduceLT,Int.reduceToNat,Int.reduceEq,Int.reduceNe,Int.reduceLT,Int.reduceLE,false_or,and_self,false_implies,true_implies]
    exact kk (by omega)
  · simp (disch := omega) only [cm_,aq_,ay_,af_,bm_,ah_,ba_,c0_,bg_,am_,ae_,ac_,b2_,bq_,ed_,bs_,a0_,ao_,az_,aw_,dw_,d6_,fl_,fn_,fh_,fu_,fz_,fq_,fk_,fr_,ft_,fs_,f0_,c5_,bd_,c3_,ct_,cx_,cr_,cz_,eb_,d5_,cf_,an_,cl_,fv_,d1_,dz_,Int.toNat_natCast,di_,dm_,dn_,er_,gv_,g1_,g0_,gz_,g4_,gx_,gy_,gu_,gl_,f4_,Int.add_zero,Int.zero_add,Int.ediv_one,Nat.reduceAdd,Nat.reduceMul,Int.reduceNeg,Nat.reduceLeDiff,List.length_cons,List.length_nil,true_and,and_true,Nat.zero_add,eq_self,Nat.reduceEqDiff,Int.reduceAdd,Int.reduceSub,Int.reduceMul,not_true_eq_false,not_false_eq_true,Nat.reduceLT,Int.reduceToNat,Int.reduceEq,Int.reduceNe,Int.reduceLT,Int.reduceLE,false_or,and_self,false_implies,true_implies]
    refine w_M_slope_26 ?_
    simp (disch := omega) only [cm_,aq_,ay_,af_,bm_,ah_,ba_,c0_,bg_,am_,ae_,ac_,b2_,bq_,ed_,bs_,a0_,ao_,az_,aw_,dw_,d6_,fl_,fn_,fh_,fu_,fz_,fq_,fk_,fr_,ft_,fs_,f0_,c5_,bd_,c3_,ct_,cx_,cr_,cz_,eb_,d5_,cf_,an_,cl_,fv_,d1_,dz_,Int.toNat_natCast,di_,dm_,dn_,er_,gv_,g1_,g0_,gz_,g4_,gx_,gy_,gu_,gl_,f4_,Int.add_zero,Int.zero_add,Int.ediv_one,Nat.reduceAdd,Nat.reduceMul,Int.reduceNeg,Nat.reduceLeDiff,List.length_cons,List.length_nil,true_and,and_true,Nat.zero_add,eq_self,Nat.reduceEqDiff,Int.reduceAdd,Int.reduceSub,Int.reduceMul,not_true_eq_false,not_false_eq_true,Nat.reduceLT,Int.reduceToNat,Int.reduceEq,Int.reduceNe,Int.reduceLT,Int.reduceLE,false_or,and_self,false_implies,true_implies]
    refine con_Mrefuse (k := 1) (by omega) ?_
    simp (disch := omega) only [cm_,aq_,ay_,af_,bm_,ah_,ba_,c0_,bg_,am_,ae_,ac_,b2_,bq_,ed_,bs_,a0_,ao_,az_,aw_,dw_,d6_,fl_,fn_,fh_,fu_,fz_,fq_,fk_,fr_,ft_,fs_,f0_,c5_,bd_,c3_,ct_,cx_,cr_,cz_,eb_,d5_,cf_,an_,cl_,fv_,d1_,dz_,Int.toNat_natCast,di_,dm_,dn_,er_,gv_,g1_,g0_,gz_,g4_,gx_,gy_,gu_,gl_,f4_,Int.add_zero,Int.zero_add,Int.ediv_one,Nat.reduceAdd,Nat.reduceMul,Int.reduceNeg,Nat.reduceLeDiff,List.length_cons,List.length_nil,true_and,and_true,Nat.zero_add,eq_self,Nat.reduceEqDiff,Int.reduceAdd,Int.reduceSub,Int.reduceMul,not_true_eq_false,not_false_eq_true,Nat.reduceLT,Int.reduceToNat,Int.reduceEq,Int.reduceNe,Int.reduceLT,Int.reduceLE,false_or,and_self,false_implies,true_implies]
    refine w_M_slope_31 ?_
    simp (disch := omega) only [cm_,aq_,ay_,af_,bm_,ah_,ba_,c0_,bg_,am_,ae_,ac_,b2_,bq_,ed_,bs_,a0_,ao_,az_,aw_,dw_,d6_,fl_,fn_,fh_,fu_,fz_,fq_,fk_,fr_,ft_,fs_,f0_,c5_,bd_,c3_,ct_,cx_,cr_,cz_,eb_,d5_,cf_,an_,cl_,fv_,d1_,dz_,Int.toNat_natCast,di_,dm_,dn_,er_,gv_,g1_,g0_,gz_,g4_,gx_,gy_,gu_,gl_,f4_,Int.add_zero,Int.zero_add,Int.ediv_one,Nat.reduceAdd,Nat.reduceMul,Int.reduceNeg,Nat.reduceLeDiff,List.length_cons,List.length_nil,true_and,and_true,Nat.zero_add,eq_self,Nat.reduceEqDiff,Int.reduceAdd,Int.reduceSub,Int.reduceMul,not_true_eq_false,not_false_eq_true,Nat.reduceLT,Int.reduceToNat,Int.reduceEq,Int.reduceNe,Int.reduceLT,Int.reduceLE,false_or,and_self,false_implies,true_implies]
    exact k1 (by omega)
theorem M_manOf {m w : Int} (hm : inI m) (hw : inI w) (hI : GI R)  (W : (MW R I im P pz lt lsz tn tsz rf bb h))
    (r1 : ¬ g7_ R m → ∀ h, (MW R I im P pz lt lsz tn tsz (rfU rf 1) bb h) → Q (some (.int (zI (-1)))) h)
    (r2 : g7_ R m → ¬ (0 ≤ w ∧ w ≤ 5) → ∀ h, (MW R I im P pz lt lsz tn tsz (rfU rf 2) bb h) → Q (some (.int (zI (-2)))) h)
    (ok : g7_ R m → (0 ≤ w ∧ w ≤ 5) → ∀ h, (MW R I im P pz lt lsz tn tsz rf bb h) → Q (some (.int (zI (manA R m.toNat w)))) h) : Con M_M_manOf [.ref 90, .int (zI m), .int (zI w)] h Q := by
  obtain ⟨a0, ib, sm, pl, lo, nu, kp, ig, p0, tk, ki, tu, tf, ga, sd, rfl, hIg, hTu, hPz⟩ := W
  have hG := hI.1
  have gm := hG.men
  obtain ⟨w1, w2⟩ := id hw
  have k1 := fun q => r1 q _ ⟨a0, ib, sm, pl, lo, nu, kp, ig, p0, tk, ki, tu, tf, ga, sd, rfl, hIg, hTu, hPz⟩
  have k2 := fun q q2 => r2 q q2 _ ⟨a0, ib, sm, pl, lo, nu, kp, ig, p0, tk, ki, tu, tf, ga, sd, rfl, hIg, hTu, hPz⟩
  have kk := fun q q2 => ok q q2 _ ⟨a0, ib, sm, pl, lo, nu, kp, ig, p0, tk, ki, tu, tf, ga, sd, rfl, hIg, hTu, hPz⟩
  refine g8_ (L := [some (.ref 90), some (.int (zI m)), some (.int (zI w))]) ok_M_manOf (Nat.le_of_ble_eq_true rfl) rfl ?_
  refine w_M_manOf_0 ?_
  simp (disch := omega) only [cm_,aq_,ay_,af_,bm_,ah_,ba_,c0_,bg_,am_,ae_,ac_,b2_,bq_,ed_,bs_,a0_,ao_,az_,aw_,dw_,d6_,fl_,fn_,fh_,fu_,fz_,fq_,fk_,fr_,ft_,fs_,f0_,c5_,bd_,c3_,ct_,cx_,cr_,cz_,eb_,d5_,cf_,an_,cl_,fv_,d1_,dz_,Int.toNat_natCast,di_,dm_,dn_,er_,gv_,g1_,g0_,gz_,g4_,gx_,gy_,gu_,gl_,f4_,Int.add_zero,Int.zero_add,Int.ediv_one,Nat.reduceAdd,Nat.reduceMul,Int.reduceNeg,Nat.reduceLeDiff,List.length_cons,List.length_nil,true_and,and_true,Nat.zero_add,eq_self,Nat.reduceEqDiff,Int.reduceAdd,Int.reduceSub,Int.reduceMul,not_true_eq_false,not_false_eq_true,Nat.reduceLT,Int.reduceToNat,Int.reduceEq,Int.reduceNe,Int.reduceLT,Int.reduceLE,false_or,and_self,false_implies,true_implies]
  refine con_MisMan hm hG (fun c => ?_) (fun c => ?_)
  · have hmm : m = (m.toNat : Int) := by omega
    simp (disch := omega) only [cm_,aq_,ay_,af_,bm_,ah_,ba_,c0_,bg_,am_,ae_,ac_,b2_,bq_,ed_,bs_,a0_,ao_,az_,aw_,dw_,d6_,fl_,fn_,fh_,fu_,fz_,fq_,fk_,fr_,ft_,fs_,f0_,c5_,bd_,c3_,ct_,cx_,cr_,cz_,eb_,d5_,cf_,an_,cl_,fv_,d1_,dz_,Int.toNat_natCast,di_,dm_,dn_,er_,gv_,g1_,g0_,gz_,g4_,gx_,gy_,gu_,gl_,f4_,Int.add_zero,Int.zero_add,Int.ediv_one,Nat.reduceAdd,Nat.reduceMul,Int.reduceNeg,Nat.reduceLeDiff,List.length_cons,List.length_nil,true_and,and_true,Nat.zero_add,eq_self,Nat.reduceEqDiff,Int.reduceAdd,Int.reduceSub,Int.reduceMul,not_true_eq_false,not_false_eq_true,Nat.reduceLT,Int.reduceToNat,Int.reduceEq,Int.reduceNe,Int.reduceLT,Int.reduceLE,false_or,and_self,false_implies,true_implies]
    refine con_Min hw (by unfold inI; omega) (by unfold inI; omega) (fun c2 => ?_) (fun c2 => ?_)
    · have kk := kk c (by omega)
      simp only [manA] at kk
      simp (disch := omega) only [cm_,aq_,ay_,af_,bm_,ah_,ba_,c0_,bg_,am_,ae_,ac_,b2_,bq_,ed_,bs_,a0_,ao_,az_,aw_,dw_,d6_,fl_,fn_,fh_,fu_,fz_,fq_,fk_,fr_,ft_,fs_,f0_,c5_,bd_,c3_,ct_,cx_,cr_,cz_,eb_,d5_,cf_,an_,cl_,fv_,d1_,dz_,Int.toNat_natCast,di_,dm_,dn_,er_,gv_,g1_,g0_,gz_,g4_,gx_,gy_,gu_,gl_,f4_,Int.add_zero,Int.zero_add,Int.ediv_one,Nat.reduceAdd,Nat.reduceMul,Int.reduceNeg,Nat.reduceLeDiff,List.length_cons,List.length_nil,true_and,and_true,Nat.zero_add,eq_self,Nat.reduceEqDiff,Int.reduceAdd,Int.reduceSub,Int.reduceMul,not_true_eq_false,not_false_eq_true,Nat.reduceLT,Int.reduceToNat,Int.reduceEq,Int.reduceNe,Int.reduceLT,Int.reduceLE,false_or,and_self,false_implies,true_implies]
      refine w_M_manOf_44 ?_
      have : w = 0 ∨ w = 1 ∨ w = 2 ∨ w = 3 ∨ w = 4 ∨ w = 5 := by omega
      rcases this with rfl | rfl | rfl | rfl | rfl | rfl
      all_goals simp only [Int.reduceEq, if_true, if_false] at kk
      all_goals simp (disch := omega) only [cm_,aq_,ay_,af_,bm_,ah_,ba_,c0_,bg_,am_,ae_,ac_,b2_,bq_,ed_,bs_,a0_,ao_,az_,aw_,dw_,d6_,fl_,fn_,fh_,fu_,fz_,fq_,fk_,fr_,ft_,fs_,f0_,c5_,bd_,c3_,ct_,cx_,cr_,cz_,eb_,d5_,cf_,an_,cl_,fv_,d1_,dz_,Int.toNat_natCast,di_,dm_,dn_,er_,gv_,g1_,g0_,gz_,g4_,gx_,gy_,gu_,gl_,f4_,Int.add_zero,Int.zero_add,Int.ediv_one,Nat.reduceAdd,Nat.reduceMul,Int.reduceNeg,Nat.reduceLeDiff,List.length_cons,List.length_nil,true_and,and_true,Nat.zero_add,eq_self,Nat.reduceEqDiff,Int.reduceAdd,Int.reduceSub,Int.reduceMul,not_true_eq_false,not_false_eq_true,Nat.reduceLT,Int.reduceToNat,Int.reduceEq,Int.reduceNe,Int.reduceLT,Int.reduceLE,false_or,and_self,false_implies,true_implies]
      all_goals first | refine ⟨?_, fun q => absurd q (by omega)⟩ | skip
      · refine w_M_manOf_80 ?_
        simp (disch := omega) only [cm_,aq_,ay_,af_,bm_,ah_,ba_,c0_,bg_,am_,ae_,ac_,b2_,bq_,ed_,bs_,a0_,ao_,az_,aw_,dw_,d6_,fl_,fn_,fh_,fu_,fz_,fq_,fk_,fr_,ft_,fs_,f0_,c5_,bd_,c3_,ct_,cx_,cr_,cz_,eb_,d5_,cf_,an_,cl_,fv_,d1_,dz_,Int.toNat_natCast,di_,dm_,dn_,er_,gv_,g1_,g0_,gz_,g4_,gx_,gy_,gu_,gl_,f4_,Int.add_zero,Int.zero_add,Int.ediv_one,Nat.reduceAdd,Nat.reduceMul,Int.reduceNeg,Nat.reduceLeDiff,List.length_cons,List.length_nil,true_and,and_true,Nat.zero_add,eq_self,Nat.reduceEqDiff,Int.reduceAdd,Int.reduceSub,Int.reduceMul,not_true_eq_false,not_false_eq_true,Nat.reduceLT,Int.reduceToNat,Int.reduceEq,Int.reduceNe,Int.reduceLT,Int.reduceLE,false_or,and_self,false_implies,true_implies]
        first | exact kk | exact ⟨by omega, kk⟩
      · refine w_M_manOf_87 ?_
        simp (disch := omega) only [cm_,aq_,ay_,af_,bm_,ah_,ba_,c0_,bg_,am_,ae_,ac_,b2_,bq_,ed_,bs_,a0_,ao_,az_,aw_,dw_,d6_,fl_,fn_,fh_,fu_,fz_,fq_,fk_,fr_,ft_,fs_,f0_,c5_,bd_,c3_,ct_,cx_,cr_,cz_,eb_,d5_,cf_,an_,cl_,fv_,d1_,dz_,Int.toNat_natCast,di_,dm_,dn_,er_,gv_,g1_,g0_,gz_,g4_,gx_,gy_,gu_,gl_,f4_,Int.add_zero,Int.zero_add,Int.ediv_one,Nat.reduceAdd,Nat.reduceMul,Int.reduceNeg,Nat.reduceLeDiff,List.length_cons,List.length_nil,true_and,and_true,Nat.zero_add,eq_self,Nat.reduceEqDiff,Int.reduceAdd,Int.reduceSub,Int.reduceMul,not_true_eq_false,not_false_eq_true,Nat.reduceLT,Int.reduceToNat,Int.reduceEq,Int.reduceNe,Int.reduceLT,Int.reduceLE,false_or,and_self,false_implies,true_implies]
        first | exact kk | exact ⟨by omega, kk⟩
      · refine w_M_manOf_94 ?_
        simp (disch := omega) only [cm_,aq_,ay_,af_,bm_,ah_,ba_,c0_,bg_,am_,ae_,ac_,b2_,bq_,ed_,bs_,a0_,ao_,az_,aw_,dw_,d6_,fl_,fn_,fh_,fu_,fz_,fq_,fk_,fr_,ft_,fs_,f0_,c5_,bd_,c3_,ct_,cx_,cr_,cz_,eb_,d5_,cf_,an_,cl_,fv_,d1_,dz_,Int.toNat_natCast,di_,dm_,dn_,er_,gv_,g1_,g0_,gz_,g4_,gx_,gy_,gu_,gl_,f4_,Int.add_zero,Int.zero_add,Int.ediv_one,Nat.reduceAdd,Nat.reduceMul,Int.reduceNeg,Nat.reduceLeDiff,List.length_cons,List.length_nil,true_and,and_true,Nat.zero_add,eq_self,Nat.reduceEqDiff,Int.reduceAdd,Int.reduceSub,Int.reduceMul,not_true_eq_false,not_false_eq_true,Nat.reduceLT,Int.reduceToNat,Int.reduceEq,Int.reduceNe,Int.reduceLT,Int.reduceLE,false_or,and_self,false_implies,true_implies]
        first | exact kk | exact ⟨by omega, kk⟩
      · refine w_M_manOf_101 ?_
        simp (disch := omega) only [cm_,aq_,ay_,af_,bm_,ah_,ba_,c0_,bg_,am_,ae_,ac_,b2_,bq_,ed_,bs_,a0_,ao_,az_,aw_,dw_,d6_,fl_,fn_,fh_,fu_,fz_,fq_,fk_,fr_,ft_,fs_,f0_,c5_,bd_,c3_,ct_,cx_,cr_,cz_,eb_,d5_,cf_,an_,cl_,fv_,d1_,dz_,Int.toNat_natCast,di_,dm_,dn_,er_,gv_,g1_,g0_,gz_,g4_,gx_,gy_,gu_,gl_,f4_,Int.add_zero,Int.zero_add,Int.ediv_one,Nat.reduceAdd,Nat.reduceMul,Int.reduceNeg,Nat.reduceLeDiff,List.length_cons,List.length_nil,true_and,and_true,Nat.zero_add,eq_self,Nat.reduceEqDiff,Int.reduceAdd,Int.reduceSub,Int.reduceMul,not_true_eq_false,not_false_eq_true,Nat.reduceLT,Int.reduceToNat,Int.reduceEq,Int.reduceNe,Int.reduceLT,Int.reduceLE,false_or,and_self,false_implies,true_implies]
        first | exact kk | exact ⟨by omega, kk⟩
      · refine w_M_manOf_108 ?_
        simp (disch := omega) only [cm_,aq_,ay_,af_,bm_,ah_,ba_,c0_,bg_,am_,ae_,ac_,b2_,bq_,ed_,bs_,a0_,ao_,az_,aw_,dw_,d6_,fl_,fn_,fh_,fu_,fz_,fq_,fk_,fr_,ft_,fs_,f0_,c5_,bd_,c3_,ct_,cx_,cr_,cz_,eb_,d5_,cf_,an_,cl_,fv_,d1_,dz_,Int.toNat_natCast,di_,dm_,dn_,er_,gv_,g1_,g0_,gz_,g4_,gx_,gy_,gu_,gl_,f4_,Int.add_zero,Int.zero_add,Int.ediv_one,Nat.reduceAdd,Nat.reduceMul,Int.reduceNeg,Nat.reduceLeDiff,List.length_cons,List.length_nil,true_and,and_true,Nat.zero_add,eq_self,Nat.reduceEqDiff,Int.reduceAdd,Int.reduceSub,Int.reduceMul,not_true_eq_false,not_false_eq_true,Nat.reduceLT,Int.reduceToNat,Int.reduceEq,Int.reduceNe,Int.reduceLT,Int.reduceLE,false_or,and_self,false_implies,true_implies]
        refine con_MbearsI (by omega) hG ?_
        simp (disch := omega) only [cm_,aq_,ay_,af_,bm_,ah_,ba_,c0_,bg_,am_,ae_,ac_,b2_,bq_,ed_,bs_,a0_,ao_,az_,aw_,dw_,d6_,fl_,fn_,fh_,fu_,fz_,fq_,fk_,fr_,ft_,fs_,f0_,c5_,bd_,c3_,ct_,cx_,cr_,cz_,eb_,d5_,cf_,an_,cl_,fv_,d1_,dz_,Int.toNat_natCast,di_,dm_,dn_,er_,gv_,g1_,g0_,gz_,g4_,gx_,gy_,gu_,gl_,f4_,Int.add_zero,Int.zero_add,Int.ediv_one,Nat.reduceAdd,Nat.reduceMul,Int.reduceNeg,Nat.reduceLeDiff,List.length_cons,List.length_nil,true_and,and_true,Nat.zero_add,eq_self,Nat.reduceEqDiff,Int.reduceAdd,Int.reduceSub,Int.reduceMul,not_true_eq_false,not_false_eq_true,Nat.reduceLT,Int.reduceToNat,Int.reduceEq,Int.reduceNe,Int.reduceLT,Int.reduceLE,false_or,and_self,false_implies,true_implies]
        exact kk
      · with_reducible intro _
        refine w_M_manOf_114 ?_
        simp (disch := omega) only [cm_,aq_,ay_,af_,bm_,ah_,ba_,c0_,bg_,am_,ae_,ac_,b2_,bq_,ed_,bs_,a0_,ao_,az_,aw_,dw_,d6_,fl_,fn_,fh_,fu_,fz_,fq_,fk_,fr_,ft_,fs_,f0_,c5_,bd_,c3_,ct_,cx_,cr_,cz_,eb_,d5_,cf_,an_,cl_,fv_,d1_,dz_,Int.toNat_natCast,di_,dm_,dn_,er_,gv_,g1_,g0_,gz_,g4_,gx_,gy_,gu_,gl_,f4_,Int.add_zero,Int.zero_add,Int.ediv_one,Nat.reduceAdd,Nat.reduceMul,Int.reduceNeg,Nat.reduceLeDiff,List.length_cons,List.length_nil,true_and,and_true,Nat.zero_add,eq_self,Nat.reduceEqDiff,Int.reduceAdd,Int.reduceSub,Int.reduceMul,not_true_eq_false,not_false_eq_true,Nat.reduceLT,Int.reduceToNat,Int.reduceEq,Int.reduceNe,Int.reduceLT,Int.reduceLE,false_or,and_self,false_implies,true_implies]
        rw [hmm]
        refine con_MlastsOf (by omega) hG ?_
        simp (disch := omega) only [cm_,aq_,ay_,af_,bm_,ah_,ba_,c0_,bg_,am_,ae_,ac_,b2_,bq_,ed_,bs_,a0_,ao_,az_,aw_,dw_,d6_,fl_,fn_,fh_,fu_,fz_,fq_,fk_,fr_,ft_,fs_,f0_,c5_,bd_,c3_,ct_,cx_,cr_,cz_,eb_,d5_,cf_,an_,cl_,fv_,d1_,dz_,Int.toNat_natCast,di_,dm_,dn_,er_,gv_,g1_,g0_,gz_,g4_,gx_,gy_,gu_,gl_,f4_,Int.add_zero,Int.zero_add,Int.ediv_one,Nat.reduceAdd,Nat.reduceMul,Int.reduceNeg,Nat.reduceLeDiff,List.length_cons,List.length_nil,true_and,and_true,Nat.zero_add,eq_self,Nat.reduceEqDiff,Int.reduceAdd,Int.reduceSub,Int.reduceMul,not_true_eq_false,not_false_eq_true,Nat.reduceLT,Int.reduceToNat,Int.reduceEq,Int.reduceNe,Int.reduceLT,Int.reduceLE,false_or,and_self,false_implies,true_implies]
        exact kk
    · simp (disch := omega) only [cm_,aq_,ay_,af_,bm_,ah_,ba_,c0_,bg_,am_,ae_,ac_,b2_,bq_,ed_,bs_,a0_,ao_,az_,aw_,dw_,d6_,fl_,fn_,fh_,fu_,fz_,fq_,fk_,fr_,ft_,fs_,f0_,c5_,bd_,c3_,ct_,cx_,cr_,cz_,eb_,d5_,cf_,an_,cl_,fv_,d1_,dz_,Int.toNat_natCast,di_,dm_,dn_,er_,gv_,g1_,g0_,gz_,g4_,gx_,gy_,gu_,gl_,f4_,Int.add_zero,Int.zero_add,Int.ediv_one,Nat.reduceAdd,Nat.reduceMul,Int.reduceNeg,Nat.reduceLeDiff,List.length_cons,List.length_nil,true_and,and_true,Nat.zero_add,eq_self,Nat.reduceEqDiff,Int.reduceAdd,Int.reduceSub,Int.reduceMul,not_true_eq_false,not_false_eq_true,Nat.reduceLT,Int.reduceToNat,Int.reduceEq,Int.reduceNe,Int.reduceLT,Int.reduceLE,false_or,and_self,false_implies,true_implies]
      refine w_M_manOf_25 ?_
      simp (disch := omega) only [cm_,aq_,ay_,af_,bm_,ah_,ba_,c0_,bg_,am_,ae_,ac_,b2_,bq_,ed_,bs_,a0_,ao_,az_,aw_,dw_,d6_,fl_,fn_,fh_,fu_,fz_,fq_,fk_,fr_,ft_,fs_,f0_,c5_,bd_,c3_,ct_,cx_,cr_,cz_,eb_,d5_,cf_,an_,cl_,fv_,d1_,dz_,Int.toNat_natCast,di_,dm_,dn_,er_,gv_,g1_,g0_,gz_,g4_,gx_,gy_,gu_,gl_,f4_,Int.add_zero,Int.zero_add,Int.ediv_one,Nat.reduceAdd,Nat.reduceMul,Int.reduceNeg,Nat.reduceLeDiff,List.length_cons,List.length_nil,true_and,and_true,Nat.zero_add,eq_self,Nat.reduceEqDiff,Int.reduceAdd,Int.reduceSub,Int.reduceMul,not_true_eq_false,not_false_eq_true,Nat.reduceLT,Int.reduceToNat,Int.reduceEq,Int.reduceNe,Int.reduceLT,Int.reduceLE,false_or,and_self,false_implies,true_implies]
      refine con_MisMan hm hG (fun _ => ?_) (fun q => absurd c q)
      simp (disch := omega) only [cm_,aq_,ay_,af_,bm_,ah_,ba_,c0_,bg_,am_,ae_,ac_,b2_,bq_,ed_,bs_,a0_,ao_,az_,aw_,dw_,d6_,fl_,fn_,fh_,fu_,fz_,fq_,fk_,fr_,ft_,fs_,f0_,c5_,bd_,c3_,ct_,cx_,cr_,cz_,eb_,d5_,cf_,an_,cl_,fv_,d1_,dz_,Int.toNat_natCast,di_,dm_,dn_,er_,gv_,g1_,g0_,gz_,g4_,gx_,gy_,gu_,gl_,f4_,Int.add_zero,Int.zero_add,Int.ediv_one,Nat.reduceAdd,Nat.reduceMul,Int.reduceNeg,Nat.reduceLeDiff,List.length_cons,List.length_nil,true_and,and_true,Nat.zero_add,eq_self,Nat.reduceEqDiff,Int.reduceAdd,Int.reduceSub,Int.reduceMul,not_true_eq_false,not_false_eq_true,Nat.reduceLT,Int.reduceToNat,Int.reduceEq,Int.reduceNe,Int.reduceLT,Int.reduceLE,false_or,and_self,false_implies,true_implies]
      refine w_M_manOf_40 ?_
      simp (disch := omega) only [cm_,aq_,ay_,af_,bm_,ah_,ba_,c0_,bg_,am_,ae_,ac_,b2_,bq_,ed_,bs_,a0_,ao_,az_,aw_,dw_,d6_,fl_,fn_,fh_,fu_,fz_,fq_,fk_,fr_,ft_,fs_,f0_,c5_,bd_,c3_,ct_,cx_,cr_,cz_,eb_,d5_,cf_,an_,cl_,fv_,d1_,dz_,Int.toNat_natCast,di_,dm_,dn_,er_,gv_,g1_,g0_,gz_,g4_,gx_,gy_,gu_,gl_,f4_,Int.add_zero,Int.zero_add,Int.ediv_one,Nat.reduceAdd,Nat.reduceMul,Int.reduceNeg,Nat.reduceLeDiff,List.length_cons,List.length_nil,true_and,and_true,Nat.zero_add,eq_self,Nat.reduceEqDiff,Int.reduceAdd,Int.reduceSub,Int.reduceMul,not_true_eq_false,not_false_eq_true,Nat.reduceLT,Int.reduceToNat,Int.reduceEq,Int.reduceNe,Int.reduceLT,Int.reduceLE,false_or,and_self,false_implies,true_implies]
      refine con_Mrefuse (k := 2) (by omega) ?_
      simp (disch := omega) only [cm_,aq_,ay_,af_,bm_,ah_,ba_,c0_,bg_,am_,ae_,ac_,b2_,bq_,ed_,bs_,a0_,ao_,az_,aw_,dw_,d6_,fl_,fn_,fh_,fu_,fz_,fq_,fk_,fr_,ft_,fs_,f0_,c5_,bd_,c3_,ct_,cx_,cr_,cz_,eb_,d5_,cf_,an_,cl_,fv_,d1_,dz_,Int.toNat_natCast,di_,dm_,dn_,er_,gv_,g1_,g0_,gz_,g4_,gx_,gy_,gu_,gl_,f4_,Int.add_zero,Int.zero_add,Int.ediv_one,Nat.reduceAdd,Nat.reduceMul,Int.reduceNeg,Nat.reduceLeDiff,List.length_cons,List.length_nil,true_and,and_true,Nat.zero_add,eq_self,Nat.reduceEqDiff,Int.reduceAdd,Int.reduceSub,Int.reduceMul,not_true_eq_false,not_false_eq_true,Nat.reduceLT,Int.reduceToNat,Int.reduceEq,Int.reduceNe,Int.reduceLT,Int.reduceLE,false_or,and_self,false_implies,true_implies]
      exact k2 c (by omega)
  · simp (disch := omega) only [cm_,aq_,ay_,af_,bm_,ah_,ba_,c0_,bg_,am_,ae_,ac_,b2_,bq_,ed_,bs_,a0_,ao_,az_,aw_,dw_,d6_,fl_,fn_,fh_,fu_,fz_,fq_,fk_,fr_,ft_,fs_,f0_,c5_,bd_,c3_,ct_,cx_,cr_,cz_,eb_,d5_,cf_,an_,cl_,fv_,d1_,dz_,Int.toNat_natCast,di_,dm_,dn_,er_,gv_,g1_,g0_,gz_,g4_,gx_,gy_,gu_,gl_,f4_,Int.add_zero,Int.zero_add,Int.ediv_one,Nat.reduceAdd,Nat.reduceMul,Int.reduceNeg,Nat.reduceLeDiff,List.length_cons,List.length_nil,true_and,and_true,Nat.zero_add,eq_self,Nat.reduceEqDiff,Int.reduceAdd,Int.reduceSub,Int.reduceMul,not_true_eq_false,not_false_eq_true,Nat.reduceLT,Int.reduceToNat,Int.reduceEq,Int.reduceNe,Int.reduceLT,Int.reduceLE,false_or,and_self,false_implies,true_implies]
    refine w_M_manOf_25 ?_
    simp (disch := omega) only [cm_,aq_,ay_,af_,bm_,ah_,ba_,c0_,bg_,am_,ae_,ac_,b2_,bq_,ed_,bs_,a0_,ao_,az_,aw_,dw_,d6_,fl_,fn_,fh_,fu_,fz_,fq_,fk_,fr_,ft_,fs_,f0_,c5_,bd_,c3_,ct_,cx_,cr_,cz_,eb_,d5_,cf_,an_,cl_,fv_,d1_,dz_,Int.toNat_natCast,di_,dm_,dn_,er_,gv_,g1_,g0_,gz_,g4_,gx_,gy_,gu_,gl_,f4_,Int.add_zero,Int.zero_add,Int.ediv_one,Nat.reduceAdd,Nat.reduceMul,Int.reduceNeg,Nat.reduceLeDiff,List.length_cons,List.length_nil,true_and,and_true,Nat.zero_add,eq_self,Nat.reduceEqDiff,Int.reduceAdd,Int.reduceSub,Int.reduceMul,not_true_eq_false,not_false_eq_true,Nat.reduceLT,Int.reduceToNat,Int.reduceEq,Int.reduceNe,Int.reduceLT,Int.reduceLE,false_or,and_self,false_implies,true_implies]
    refine con_MisMan hm hG (fun q => absurd q c) (fun _ => ?_)
    simp (disch := omega) only [cm_,aq_,ay_,af_,bm_,ah_,ba_,c0_,bg_,am_,ae_,ac_,b2_,bq_,ed_,bs_,a0_,ao_,az_,aw_,dw_,d6_,fl_,fn_,fh_,fu_,fz_,fq_,fk_,fr_,ft_,fs_,f0_,c5_,bd_,c3_,ct_,cx_,cr_,cz_,eb_,d5_,cf_,an_,cl_,fv_,d1_,dz_,Int.toNat_natCast,di_,dm_,dn_,er_,gv_,g1_,g0_,gz_,g4_,gx_,gy_,gu_,gl_,f4_,Int.add_zero,Int.zero_add,Int.ediv_one,Nat.reduceAdd,Nat.reduceMul,Int.reduceNeg,Nat.reduceLeDiff,List.length_cons,List.length_nil,true_and,and_true,Nat.zero_add,eq_self,Nat.reduceEqDiff,Int.reduceAdd,Int.reduceSub,Int.reduceMul,not_true_eq_false,not_false_eq_true,Nat.reduceLT,Int.reduceToNat,Int.reduceEq,Int.reduceNe,Int.reduceLT,Int.reduceLE,false_or,and_self,false_implies,true_implies]
    refine w_M_manOf_39 ?_
    simp (disch := omega) only [cm_,aq_,ay_,af_,bm_,ah_,ba_,c0_,bg_,am_,ae_,ac_,b2_,bq_,ed_,bs_,a0_,ao_,az_,aw_,dw_,d6_,fl_,fn_,fh_,fu_,fz_,fq_,fk_,fr_,ft_,fs_,f0_,c5_,bd_,c3_,ct_,cx_,cr_,cz_,eb_,d5_,cf_,an_,cl_,fv_,d1_,dz_,Int.toNat_natCast,di_,dm_,dn_,er_,gv_,g1_,g0_,gz_,g4_,gx_,gy_,gu_,gl_,f4_,Int.add_zero,Int.zero_add,Int.ediv_one,Nat.reduceAdd,Nat.reduceMul,Int.reduceNeg,Nat.reduceLeDiff,List.length_cons,List.length_nil,true_and,and_true,Nat.zero_add,eq_self,Nat.reduceEqDiff,Int.reduceAdd,Int.reduceSub,Int.reduceMul,not_true_eq_false,not_false_eq_true,Nat.reduceLT,Int.reduceToNat,Int.reduceEq,Int.reduceNe,Int.reduceLT,Int.reduceLE,false_or,and_self,false_implies,true_implies]
    refine w_M_manOf_40 ?_
    simp (disch := omega) only [cm_,aq_,ay_,af_,bm_,ah_,ba_,c0_,bg_,am_,ae_,ac_,b2_,bq_,ed_,bs_,a0_,ao_,az_,aw_,dw_,d6_,fl_,fn_,fh_,fu_,fz_,fq_,fk_,fr_,ft_,fs_,f0_,c5_,bd_,c3_,ct_,cx_,cr_,cz_,eb_,d5_,cf_,an_,cl_,fv_,d1_,dz_,Int.toNat_natCast,di_,dm_,dn_,er_,gv_,g1_,g0_,gz_,g4_,gx_,gy_,gu_,gl_,f4_,Int.add_zero,Int.zero_add,Int.ediv_one,Nat.reduceAdd,Nat.reduceMul,Int.reduceNeg,Nat.reduceLeDiff,List.length_cons,List.length_nil,true_and,and_true,Nat.zero_add,eq_self,Nat.reduceEqDiff,Int.reduceAdd,Int.reduceSub,Int.reduceMul,not_true_eq_false,not_false_eq_true,Nat.reduceLT,Int.reduceToNat,Int.reduceEq,Int.reduceNe,Int.reduceLT,Int.reduceLE,false_or,and_self,false_implies,true_implies]
    refine con_Mrefuse (k := 1) (by omega) ?_
    simp (disch := omega) only [cm_,aq_,ay_,af_,bm_,ah_,ba_,c0_,bg_,am_,ae_,ac_,b2_,bq_,ed_,bs_,a0_,ao_,az_,aw_,dw_,d6_,fl_,fn_,fh_,fu_,fz_,fq_,fk_,fr_,ft_,fs_,f0_,c5_,bd_,c3_,ct_,cx_,cr_,cz_,eb_,d5_,cf_,an_,cl_,fv_,d1_,dz_,Int.toNat_natCast,di_,dm_,dn_,er_,gv_,g1_,g0_,gz_,g4_,gx_,gy_,gu_,gl_,f4_,Int.add_zero,Int.zero_add,Int.ediv_one,Nat.reduceAdd,Nat.reduceMul,Int.reduceNeg,Nat.reduceLeDiff,List.length_cons,List.length_nil,true_and,and_true,Nat.zero_add,eq_self,Nat.reduceEqDiff,Int.reduceAdd,Int.reduceSub,Int.reduceMul,not_true_eq_false,not_false_eq_true,Nat.reduceLT,Int.reduceToNat,Int.reduceEq,Int.reduceNe,Int.reduceLT,Int.reduceLE,false_or,and_self,false_implies,true_implies]
    exact k1 c
end E1
end
/-! keptM -/
section
/-! ===== the reference: what is kept ===== -/
def shI (tu : Nat → Int) (i : Nat) : Nat → Int := fun j => if j < i then tu (j + 49) else tu j
theorem shI_s (tu : Nat → Int) (i : Nat) : upI (shI tu i) i (shI tu i (49 + i)) = shI tu (i + 1) := by
  funext j
  simp only [upI, shI]
  by_cases e : j = i
  · subst e
    rw [if_pos rfl, if_neg (by omega), if_pos (by omega), Nat.add_comm]
  · rw [if_neg e]
    by_cases q : j < i
    · rw [if_pos q, if_pos (by omega)]
    · rw [if_neg q, if_neg (by omega)]
theorem shI_0 (tu : Nat → Int) : shI tu 0 = tu := by funext j; simp [shI]
def puI (tu : Nat → Int) (t : Nat) (f : Nat → Int) (k : Nat) : Nat → Int := fun j => if 49 * t ≤ j ∧ j < 49 * t + k then f (j - 49 * t) else tu j
theorem puI_0 (tu : Nat → Int) (t : Nat) (f : Nat → Int) : puI tu t f 0 = tu := by
  funext j
  simp only [puI]
  rw [if_neg (by omega)]
theorem puI_s (tu : Nat → Int) (t : Nat) (f : Nat → Int) (k : Nat) : upI (puI tu t f k) (49 * t + k) (f k) = puI tu t f (k + 1) := by
  funext j
  simp only [upI, puI]
  by_cases e : j = 49 * t + k
  · subst e
    rw [if_pos rfl, if_pos (by omega), show 49 * t + k - 49 * t = k by omega]
  · rw [if_neg e]
    by_cases q : 49 * t ≤ j ∧ j < 49 * t + k
    · rw [if_pos q, if_pos (by omega)]
    · rw [if_neg q, if_neg (by omega)]
def KT (tu : Nat → Int) (P : Nat → RR) (tz : Int) : Prop := ∀ i : Nat, (i : Int) < tz → ∀ j, j < 49 → tu (49 * i + j) = fl (P i) j
section D8
variable {R : RR} {rf : Nat → Int} {lt : Nat → Int} {lsz : Int} {a0 : Int} {ib : Int} {sm : Int} {pl : Nat → Int} {lo : Nat → Int} {nu : Nat → Int} {kp : Nat → Int} {ig : Nat → Int} {hmg : Int} {p0 : Int} {tk : Int} {ki : Value} {tu : Nat → Int} {tz : Int} {tf : Nat → Int} {tn : Nat → Int} {tsz : Int} {ga : Nat → Int} {sd : Int} {bb : AH} {Q : Option Value → AH → Prop}
theorem con_MkeepPut {P2 : Nat → RR} {t : Nat} (ht : t ≤ 7) (hT : KT tu P2 t)
    (hQ : ∀ x u : Nat → Int, KT u (fun i => if i = t then R else P2 i) (t + 1) → Q none (HM R rf lt lsz a0 ib sm pl lo nu kp ig hmg (49) (1) (.ref 104) (u) ((t : Int) + 1) (x) tn tsz ga sd bb)) : ∀ x1, J M_M_keepTurn 50 [some (.ref 90), x1] [] (HM R rf lt lsz a0 ib sm pl lo nu kp ig hmg p0 tk ki tu ((t : Int)) tf tn tsz ga sd bb) Q := by
  intro x1
  refine w_M_keepTurn_50 ?_
  simp (disch := omega) only [cm_,aq_,ay_,ag_,b8_,af_,ba_,bc_,bx_,bg_,am_,ae_,ac_,b2_,bq_,bs_,c4_,ar_,dw_,d6_,ea_,b1_,fl_,fn_,fh_,fu_,fp_,fz_,fq_,fk_,fr_,ft_,fs_,f0_,c5_,bt_,c3_,cx_,cr_,cf_,ch_,ci_,an_,cl_,d0_,cs_,Int.toNat_natCast,f3_,di_,dm_,dn_,gv_,gh_,gj_,gu_,gb_,f4_,Int.add_zero,Int.zero_add,Int.ediv_one,Nat.reduceAdd,Nat.reduceMul,Int.reduceNeg,Nat.reduceLeDiff,List.length_cons,List.length_nil,true_and,and_true,Nat.zero_add,eq_self,Nat.reduceEqDiff,Int.reduceAdd,Int.reduceSub,Int.reduceMul,not_true_eq_false,Nat.reduceLT,Int.reduceToNat,Int.reduceEq,Int.reduceNe,Int.reduceLT,Int.reduceLE,and_self,and_false,false_and,false_implies,true_implies]
  refine con_take_T (fun x hx => ?_)
  simp (disch := omega) only [cm_,aq_,ay_,ag_,b8_,af_,ba_,bc_,bx_,bg_,am_,ae_,ac_,b2_,bq_,bs_,c4_,ar_,dw_,d6_,ea_,b1_,fl_,fn_,fh_,fu_,fp_,fz_,fq_,fk_,fr_,ft_,fs_,f0_,c5_,bt_,c3_,cx_,cr_,cf_,ch_,ci_,an_,cl_,d0_,cs_,Int.toNat_natCast,f3_,di_,dm_,dn_,gv_,gh_,gj_,gu_,gb_,f4_,Int.add_zero,Int.zero_add,Int.ediv_one,Nat.reduceAdd,Nat.reduceMul,Int.reduceNeg,Nat.reduceLeDiff,List.length_cons,List.length_nil,true_and,and_true,Nat.zero_add,eq_self,Nat.reduceEqDiff,Int.reduceAdd,Int.reduceSub,Int.reduceMul,not_true_eq_false,Nat.reduceLT,Int.reduceToNat,Int.reduceEq,Int.reduceNe,Int.reduceLT,Int.reduceLE,and_self,and_false,false_and,false_implies,true_implies]
  have loop : ∀ n k : Nat, k + n = 49 → J M_M_keepTurn 61 [some (.ref 90), some (.int (zI k))] [] (HM R rf lt lsz a0 ib sm pl lo nu kp ig hmg (49) (1) (.ref 104) (puI tu t x k) ((t : Int)) (x) tn tsz ga sd bb) Q := by
    intro n
    induction n with
    | zero =>
      intro k hk
      have e : k = 49 := by omega
      subst e
      refine w_M_keepTurn_61 ?_
      simp (disch := omega) only [cm_,aq_,ay_,ag_,b8_,af_,ba_,bc_,bx_,bg_,am_,ae_,ac_,b2_,bq_,bs_,c4_,ar_,dw_,d6_,ea_,b1_,fl_,fn_,fh_,fu_,fp_,fz_,fq_,fk_,fr_,ft_,fs_,f0_,c5_,bt_,c3_,cx_,cr_,cf_,ch_,ci_,an_,cl_,d0_,cs_,Int.toNat_natCast,f3_,di_,dm_,dn_,gv_,gh_,gj_,gu_,gb_,f4_,Int.add_zero,Int.zero_add,Int.ediv_one,Nat.reduceAdd,Nat.reduceMul,Int.reduceNeg,Nat.reduceLeDiff,List.length_cons,List.length_nil,true_and,and_true,Nat.zero_add,eq_self,Nat.reduceEqDiff,Int.reduceAdd,Int.reduceSub,Int.reduceMul,not_true_eq_false,Nat.reduceLT,Int.reduceToNat,Int.reduceEq,Int.reduceNe,Int.reduceLT,Int.reduceLE,and_self,and_false,false_and,false_implies,true_implies]
      refine w_M_keepTurn_93 ?_
      simp (disch := omega) only [cm_,aq_,ay_,ag_,b8_,af_,ba_,bc_,bx_,bg_,am_,ae_,ac_,b2_,bq_,bs_,c4_,ar_,dw_,d6_,ea_,b1_,fl_,fn_,fh_,fu_,fp_,fz_,fq_,fk_,fr_,ft_,fs_,f0_,c5_,bt_,c3_,cx_,cr_,cf_,ch_,ci_,an_,cl_,d0_,cs_,Int.toNat_natCast,f3_,di_,dm_,dn_,gv_,gh_,gj_,gu_,gb_,f4_,Int.add_zero,Int.zero_add,Int.ediv_one,Nat.reduceAdd,Nat.reduceMul,Int.reduceNeg,Nat.reduceLeDiff,List.length_cons,List.length_nil,true_and,and_true,Nat.zero_add,eq_self,Nat.reduceEqDiff,Int.reduceAdd,Int.reduceSub,Int.reduceMul,not_true_eq_false,Nat.reduceLT,Int.reduceToNat,Int.reduceEq,Int.reduceNe,Int.reduceLT,Int.reduceLE,and_self,and_false,false_and,false_implies,true_implies]
      refine hQ x _ (fun i hi j hj => ?_)
      show puI tu t x 49 (49 * i + j) = fl (if i = t then R else P2 i) j
      simp only [puI]
      by_cases e : i = t
      · subst e
        rw [if_pos (by omega), if_pos rfl, show 49 * i + j - 49 * i = j by omega]
        exact hx j hj
      · rw [if_neg (by omega), if_neg e]
        exact hT i (by omega) j hj
    | succ n ih =>
      intro k hk
      have step := ih (k + 1) (by omega)
      have e : 49 * (t : Int) + (k : Int) = ((49 * t + k : Nat) : Int) := by omega
      rw [← puI_s] at step
      refine w_M_keepTurn_61 ?_
      simp (disch := omega) only [cm_,aq_,ay_,ag_,b8_,af_,ba_,bc_,bx_,bg_,am_,ae_,ac_,b2_,bq_,bs_,c4_,ar_,dw_,d6_,ea_,b1_,fl_,fn_,fh_,fu_,fp_,fz_,fq_,fk_,fr_,ft_,fs_,f0_,c5_,bt_,c3_,cx_,cr_,cf_,ch_,ci_,an_,cl_,d0_,cs_,Int.toNat_natCast,f3_,di_,dm_,dn_,gv_,gh_,gj_,gu_,gb_,f4_,Int.add_zero,Int.zero_add,Int.ediv_one,Nat.reduceAdd,Nat.reduceMul,Int.reduceNeg,Nat.reduceLeDiff,List.length_cons,List.length_nil,true_and,and_true,Nat.zero_add,eq_self,Nat.reduceEqDiff,Int.reduceAdd,Int.reduceSub,Int.reduceMul,not_true_eq_false,Nat.reduceLT,Int.reduceToNat,Int.reduceEq,Int.reduceNe,Int.reduceLT,Int.reduceLE,and_self,and_false,false_and,false_implies,true_implies,e]
      refine ⟨fun q => by omega, fun _ => ?_⟩
      first | exact step | exact ⟨by omega, step⟩ | exact ⟨by omega, by omega, step⟩
  have l0 := loop 49 0 (by omega)
  rw [puI_0] at l0
  exact l0
theorem con_MkeepTurn {P : Nat → RR} (hT : KT tu P tz) (hz : 0 ≤ tz ∧ tz ≤ 8)
    (hQ : ∀ x u : Nat → Int, KT u (pushP P tz R) (min 8 (tz + 1)) → Q none (HM R rf lt lsz a0 ib sm pl lo nu kp ig hmg (49) (1) (.ref 104) (u) (min 8 (tz + 1)) (x) tn tsz ga sd bb)) : Con M_M_keepTurn [.ref 90] (HM R rf lt lsz a0 ib sm pl lo nu kp ig hmg p0 tk ki tu tz tf tn tsz ga sd bb) Q := by
  refine g8_ (L := [some (.ref 90), none]) ok_M_keepTurn (Nat.le_of_ble_eq_true rfl) rfl ?_
  refine w_M_keepTurn_0 ?_
  simp (disch := omega) only [cm_,aq_,ay_,ag_,b8_,af_,ba_,bc_,bx_,bg_,am_,ae_,ac_,b2_,bq_,bs_,c4_,ar_,dw_,d6_,ea_,b1_,fl_,fn_,fh_,fu_,fp_,fz_,fq_,fk_,fr_,ft_,fs_,f0_,c5_,bt_,c3_,cx_,cr_,cf_,ch_,ci_,an_,cl_,d0_,cs_,Int.toNat_natCast,f3_,di_,dm_,dn_,gv_,gh_,gj_,gu_,gb_,f4_,Int.add_zero,Int.zero_add,Int.ediv_one,Nat.reduceAdd,Nat.reduceMul,Int.reduceNeg,Nat.reduceLeDiff,List.length_cons,List.length_nil,true_and,and_true,Nat.zero_add,eq_self,Nat.reduceEqDiff,Int.reduceAdd,Int.reduceSub,Int.reduceMul,not_true_eq_false,Nat.reduceLT,Int.reduceToNat,Int.reduceEq,Int.reduceNe,Int.reduceLT,Int.reduceLE,and_self,and_false,false_and,false_implies,true_implies]
  refine ⟨fun c => ?_, fun c => ?_⟩
  · obtain ⟨t, rfl⟩ := Int.eq_ofNat_of_zero_le hz.1
    refine con_MkeepPut (P2 := P) (by omega) hT (fun x u hu => ?_) _
    have kk := hQ x u
    simp only [pushP] at kk
    rw [if_pos (by omega), show min (8 : Int) ((t : Int) + 1) = (t : Int) + 1 by omega] at kk
    exact kk hu
  · have e : tz = 8 := by omega
    subst e
    have loop : ∀ n i : Nat, i + n = 343 → J M_M_keepTurn 12 [some (.ref 90), some (.int (zI ((49 + i : Nat) : Int)))] [] (HM R rf lt lsz a0 ib sm pl lo nu kp ig hmg p0 tk ki (shI tu i) (8) tf tn tsz ga sd bb) Q := by
      intro n
      induction n with
      | zero =>
        intro i hi
        have e : i = 343 := by omega
        subst e
        refine w_M_keepTurn_12 ?_
        simp (disch := omega) only [cm_,aq_,ay_,ag_,b8_,af_,ba_,bc_,bx_,bg_,am_,ae_,ac_,b2_,bq_,bs_,c4_,ar_,dw_,d6_,ea_,b1_,fl_,fn_,fh_,fu_,fp_,fz_,fq_,fk_,fr_,ft_,fs_,f0_,c5_,bt_,c3_,cx_,cr_,cf_,ch_,ci_,an_,cl_,d0_,cs_,Int.toNat_natCast,f3_,di_,dm_,dn_,gv_,gh_,gj_,gu_,gb_,f4_,Int.add_zero,Int.zero_add,Int.ediv_one,Nat.reduceAdd,Nat.reduceMul,Int.reduceNeg,Nat.reduceLeDiff,List.length_cons,List.length_nil,true_and,and_true,Nat.zero_add,eq_self,Nat.reduceEqDiff,Int.reduceAdd,Int.reduceSub,Int.reduceMul,not_true_eq_false,Nat.reduceLT,Int.reduceToNat,Int.reduceEq,Int.reduceNe,Int.reduceLT,Int.reduceLE,and_self,and_false,false_and,false_implies,true_implies]
        refine w_M_keepTurn_40 ?_
        simp (disch := omega) only [cm_,aq_,ay_,ag_,b8_,af_,ba_,bc_,bx_,bg_,am_,ae_,ac_,b2_,bq_,bs_,c4_,ar_,dw_,d6_,ea_,b1_,fl_,fn_,fh_,fu_,fp_,fz_,fq_,fk_,fr_,ft_,fs_,f0_,c5_,bt_,c3_,cx_,cr_,cf_,ch_,ci_,an_,cl_,d0_,cs_,Int.toNat_natCast,f3_,di_,dm_,dn_,gv_,gh_,gj_,gu_,gb_,f4_,Int.add_zero,Int.zero_add,Int.ediv_one,Nat.reduceAdd,Nat.reduceMul,Int.reduceNeg,Nat.reduceLeDiff,List.length_cons,List.length_nil,true_and,and_true,Nat.zero_add,eq_self,Nat.reduceEqDiff,Int.reduceAdd,Int.reduceSub,Int.reduceMul,not_true_eq_false,Nat.reduceLT,Int.reduceToNat,Int.reduceEq,Int.reduceNe,Int.reduceLT,Int.reduceLE,and_self,and_false,false_and,false_implies,true_implies]
        refine con_MkeepPut (t := 7) (P2 := fun i => P (i + 1)) (by omega) (fun i hi j hj => ?_) (fun x u hu => ?_) _
        · show shI tu 343 (49 * i + j) = fl (P (i + 1)) j
          have h1 := hT (i + 1) (by omega) j hj
          simp only [shI]
          rw [if_pos (by omega), ← h1, show 49 * i + j + 49 = 49 * (i + 1) + j by omega]
        · have kk := hQ x u
          simp only [pushP] at kk
          rw [if_neg (by omega)] at kk
          exact kk hu
      | succ n ih =>
        intro i hi
        have step := ih (i + 1) (by omega)
        have e : ((49 + i : Nat) : Int) - 49 = (i : Int) := by omega
        rw [← shI_s] at step
        refine w_M_keepTurn_12 ?_
        simp (disch := omega) only [cm_,aq_,ay_,ag_,b8_,af_,ba_,bc_,bx_,bg_,am_,ae_,ac_,b2_,bq_,bs_,c4_,ar_,dw_,d6_,ea_,b1_,fl_,fn_,fh_,fu_,fp_,fz_,fq_,fk_,fr_,ft_,fs_,f0_,c5_,bt_,c3_,cx_,cr_,cf_,ch_,ci_,an_,cl_,d0_,cs_,Int.toNat_natCast,f3_,di_,dm_,dn_,gv_,gh_,gj_,gu_,gb_,f4_,Int.add_zero,Int.zero_add,Int.ediv_one,Nat.reduceAdd,Nat.reduceMul,Int.reduceNeg,Nat.reduceLeDiff,List.length_cons,List.length_nil,true_and,and_true,Nat.zero_add,eq_self,Nat.reduceEqDiff,Int.reduceAdd,Int.reduceSub,Int.reduceMul,not_true_eq_false,Nat.reduceLT,Int.reduceToNat,Int.reduceEq,Int.reduceNe,Int.reduceLT,Int.reduceLE,and_self,and_false,false_and,false_implies,true_implies,e]
        refine ⟨fun q => by omega, fun _ => ?_⟩
        first | exact step | exact ⟨by omega, step⟩ | exact ⟨by omega, by omega, step⟩
    have l0 := loop 343 0 (by omega)
    rw [shI_0] at l0
    exact l0
end D8
end
/-! changeM -/
section
/-! ===== the reference's methods that change ===== -/
section D9
variable {R : RR} {rf : Nat → Int} {lt : Nat → Int} {lsz : Int} {a0 : Int} {ib : Int} {sm : Int} {pl : Nat → Int} {lo : Nat → Int} {nu : Nat → Int} {kp : Nat → Int} {ig : Nat → Int} {hmg : Int} {p0 : Int} {tk : Int} {ki : Value} {tu : Nat → Int} {tz : Int} {tf : Nat → Int} {tn : Nat → Int} {tsz : Int} {ga : Nat → Int} {sd : Int} {bb : AH} {Q : Option Value → AH → Prop}
theorem con_MmanComes {k f : Int} (hk : 0 ≤ k ∧ k < 2147483648) (hG : GR R) (h1 : k < 6 → rMen R < 8 → Q (some (.int (zI 1))) (HM (addR R k f) rf lt lsz a0 ib sm pl lo nu kp ig hmg p0 tk ki tu tz tf tn tsz ga sd bb)) (h0 : ¬ (k < 6 ∧ rMen R < 8) → Q (some (.int (zI 0))) (HM R rf lt lsz a0 ib sm pl lo nu kp ig hmg p0 tk ki tu tz tf tn tsz ga sd bb)) : Con M_M_manComes [.ref 90, .int (zI k), .int (zI f)] (HM R rf lt lsz a0 ib sm pl lo nu kp ig hmg p0 tk ki tu tz tf tn tsz ga sd bb) Q := by
  have gm := hG.men
  have bad : ¬ (k < 6 ∧ rMen R < 8) → J M_M_manComes 19 [some (.ref 90), some (.int (zI k)), some (.int (zI f)), none] [] (HM R rf lt lsz a0 ib sm pl lo nu kp ig hmg p0 tk ki tu tz tf tn tsz ga sd bb) Q := by
    intro q
    refine w_M_manComes_19 ?_
    simp (disch := omega) only [cm_,aq_,ay_,ag_,af_,bm_,ah_,ba_,bc_,c0_,bg_,b4_,am_,ae_,ac_,b2_,bq_,ed_,bs_,ao_,as_,a2_,az_,ar_,aw_,dw_,d6_,ea_,d3_,b5_,fl_,fn_,fh_,fu_,fz_,fq_,fk_,fr_,ft_,fs_,f0_,c5_,bt_,bd_,c3_,ct_,cx_,cr_,cf_,ch_,an_,cl_,dt_,dv_,du_,dr_,ds_,cd_,a9_,a8_,a7_,ce_,fv_,d1_,Int.toNat_natCast,di_,dm_,dn_,er_,gv_,g1_,g0_,gz_,g4_,gx_,gu_,gt_,go_,gn_,gs_,gm_,f4_,Int.add_zero,Int.zero_add,Int.ediv_one,Nat.reduceAdd,Nat.reduceMul,Int.reduceNeg,Nat.reduceLeDiff,List.length_cons,List.length_nil,true_and,and_true,Nat.zero_add,eq_self,Nat.reduceEqDiff,Int.reduceAdd,Int.reduceSub,Int.reduceMul,not_true_eq_false,not_false_eq_true,Nat.reduceLT,Int.reduceToNat,Int.reduceEq,Int.reduceNe,Int.reduceLT,Int.reduceLE,or_true,or_false,false_implies,true_implies]
    refine w_M_manComes_20 ?_
    simp (disch := omega) only [cm_,aq_,ay_,ag_,af_,bm_,ah_,ba_,bc_,c0_,bg_,b4_,am_,ae_,ac_,b2_,bq_,ed_,bs_,ao_,as_,a2_,az_,ar_,aw_,dw_,d6_,ea_,d3_,b5_,fl_,fn_,fh_,fu_,fz_,fq_,fk_,fr_,ft_,fs_,f0_,c5_,bt_,bd_,c3_,ct_,cx_,cr_,cf_,ch_,an_,cl_,dt_,dv_,du_,dr_,ds_,cd_,a9_,a8_,a7_,ce_,fv_,d1_,Int.toNat_natCast,di_,dm_,dn_,er_,gv_,g1_,g0_,gz_,g4_,gx_,gu_,gt_,go_,gn_,gs_,gm_,f4_,Int.add_zero,Int.zero_add,Int.ediv_one,Nat.reduceAdd,Nat.reduceMul,Int.reduceNeg,Nat.reduceLeDiff,List.length_cons,List.length_nil,true_and,and_true,Nat.zero_add,eq_self,Nat.reduceEqDiff,Int.reduceAdd,Int.reduceSub,Int.reduceMul,not_true_eq_false,not_false_eq_true,Nat.reduceLT,Int.reduceToNat,Int.reduceEq,Int.reduceNe,Int.reduceLT,Int.reduceLE,or_true,or_false,false_implies,true_implies]
    refine w_M_manComes_75 ?_
    simp (disch := omega) only [cm_,aq_,ay_,ag_,af_,bm_,ah_,ba_,bc_,c0_,bg_,b4_,am_,ae_,ac_,b2_,bq_,ed_,bs_,ao_,as_,a2_,az_,ar_,aw_,dw_,d6_,ea_,d3_,b5_,fl_,fn_,fh_,fu_,fz_,fq_,fk_,fr_,ft_,fs_,f0_,c5_,bt_,bd_,c3_,ct_,cx_,cr_,cf_,ch_,an_,cl_,dt_,dv_,du_,dr_,ds_,cd_,a9_,a8_,a7_,ce_,fv_,d1_,Int.toNat_natCast,di_,dm_,dn_,er_,gv_,g1_,g0_,gz_,g4_,gx_,gu_,gt_,go_,gn_,gs_,gm_,f4_,Int.add_zero,Int.zero_add,Int.ediv_one,Nat.reduceAdd,Nat.reduceMul,Int.reduceNeg,Nat.reduceLeDiff,List.length_cons,List.length_nil,true_and,and_true,Nat.zero_add,eq_self,Nat.reduceEqDiff,Int.reduceAdd,Int.reduceSub,Int.reduceMul,not_true_eq_false,not_false_eq_true,Nat.reduceLT,Int.reduceToNat,Int.reduceEq,Int.reduceNe,Int.reduceLT,Int.reduceLE,or_true,or_false,false_implies,true_implies]
    exact h0 q
  refine g8_ (L := [some (.ref 90), some (.int (zI k)), some (.int (zI f)), none]) ok_M_manComes (Nat.le_of_ble_eq_true rfl) rfl ?_
  refine w_M_manComes_0 ?_
  simp (disch := omega) only [cm_,aq_,ay_,ag_,af_,bm_,ah_,ba_,bc_,c0_,bg_,b4_,am_,ae_,ac_,b2_,bq_,ed_,bs_,ao_,as_,a2_,az_,ar_,aw_,dw_,d6_,ea_,d3_,b5_,fl_,fn_,fh_,fu_,fz_,fq_,fk_,fr_,ft_,fs_,f0_,c5_,bt_,bd_,c3_,ct_,cx_,cr_,cf_,ch_,an_,cl_,dt_,dv_,du_,dr_,ds_,cd_,a9_,a8_,a7_,ce_,fv_,d1_,Int.toNat_natCast,di_,dm_,dn_,er_,gv_,g1_,g0_,gz_,g4_,gx_,gu_,gt_,go_,gn_,gs_,gm_,f4_,Int.add_zero,Int.zero_add,Int.ediv_one,Nat.reduceAdd,Nat.reduceMul,Int.reduceNeg,Nat.reduceLeDiff,List.length_cons,List.length_nil,true_and,and_true,Nat.zero_add,eq_self,Nat.reduceEqDiff,Int.reduceAdd,Int.reduceSub,Int.reduceMul,not_true_eq_false,not_false_eq_true,Nat.reduceLT,Int.reduceToNat,Int.reduceEq,Int.reduceNe,Int.reduceLT,Int.reduceLE,or_true,or_false,false_implies,true_implies]
  refine ⟨fun q => bad (by omega), fun q => ⟨fun q2 => bad (by omega), fun q2 => ?_⟩⟩
  refine w_M_manComes_20 ?_
  simp (disch := omega) only [cm_,aq_,ay_,ag_,af_,bm_,ah_,ba_,bc_,c0_,bg_,b4_,am_,ae_,ac_,b2_,bq_,ed_,bs_,ao_,as_,a2_,az_,ar_,aw_,dw_,d6_,ea_,d3_,b5_,fl_,fn_,fh_,fu_,fz_,fq_,fk_,fr_,ft_,fs_,f0_,c5_,bt_,bd_,c3_,ct_,cx_,cr_,cf_,ch_,an_,cl_,dt_,dv_,du_,dr_,ds_,cd_,a9_,a8_,a7_,ce_,fv_,d1_,Int.toNat_natCast,di_,dm_,dn_,er_,gv_,g1_,g0_,gz_,g4_,gx_,gu_,gt_,go_,gn_,gs_,gm_,f4_,Int.add_zero,Int.zero_add,Int.ediv_one,Nat.reduceAdd,Nat.reduceMul,Int.reduceNeg,Nat.reduceLeDiff,List.length_cons,List.length_nil,true_and,and_true,Nat.zero_add,eq_self,Nat.reduceEqDiff,Int.reduceAdd,Int.reduceSub,Int.reduceMul,not_true_eq_false,not_false_eq_true,Nat.reduceLT,Int.reduceToNat,Int.reduceEq,Int.reduceNe,Int.reduceLT,Int.reduceLE,or_true,or_false,false_implies,true_implies]
  refine ⟨by omega, by omega, by omega, by omega, ?_⟩
  refine w_M_manComes_75 ?_
  simp (disch := omega) only [cm_,aq_,ay_,ag_,af_,bm_,ah_,ba_,bc_,c0_,bg_,b4_,am_,ae_,ac_,b2_,bq_,ed_,bs_,ao_,as_,a2_,az_,ar_,aw_,dw_,d6_,ea_,d3_,b5_,fl_,fn_,fh_,fu_,fz_,fq_,fk_,fr_,ft_,fs_,f0_,c5_,bt_,bd_,c3_,ct_,cx_,cr_,cf_,ch_,an_,cl_,dt_,dv_,du_,dr_,ds_,cd_,a9_,a8_,a7_,ce_,fv_,d1_,Int.toNat_natCast,di_,dm_,dn_,er_,gv_,g1_,g0_,gz_,g4_,gx_,gu_,gt_,go_,gn_,gs_,gm_,f4_,Int.add_zero,Int.zero_add,Int.ediv_one,Nat.reduceAdd,Nat.reduceMul,Int.reduceNeg,Nat.reduceLeDiff,List.length_cons,List.length_nil,true_and,and_true,Nat.zero_add,eq_self,Nat.reduceEqDiff,Int.reduceAdd,Int.reduceSub,Int.reduceMul,not_true_eq_false,not_false_eq_true,Nat.reduceLT,Int.reduceToNat,Int.reduceEq,Int.reduceNe,Int.reduceLT,Int.reduceLE,or_true,or_false,false_implies,true_implies]
  exact h1 (by omega) (by omega)
end D9
section E2
variable {R I : RR} {im : Int} {P : Nat → RR} {pz : Int} {lt : Nat → Int} {lsz : Int} {tn : Nat → Int} {tsz : Int} {rf : Nat → Int} {bb h : AH} {Q : Option Value → AH → Prop}
theorem M_man {k f : Int} (hk : inI k) (hf : inI f) (hI : GI R)  (W : (MW R I im P pz lt lsz tn tsz rf bb h))
    (r2 : ¬ (0 ≤ k ∧ k < 6) → ∀ h, (MW R I im P pz lt lsz tn tsz (rfU rf 2) bb h) → Q (some (.int (zI (-2)))) h)
    (r4 : 0 ≤ k ∧ k < 6 → f < 0 → ∀ h, (MW R I im P pz lt lsz tn tsz (rfU rf 4) bb h) → Q (some (.int (zI (-4)))) h)
    (r6 : 0 ≤ k ∧ k < 6 → 0 ≤ f → (9 < f ∨ rMen R = 8) → ∀ h, (MW R I im P pz lt lsz tn tsz (rfU rf 6) bb h) → Q (some (.int (zI (-6)))) h)
    (ok : 0 ≤ k ∧ k < 6 → 0 ≤ f ∧ f ≤ 9 → rMen R < 8 → ∀ h, (MW (addR R k f) I im P (0) lt lsz tn tsz rf bb h) → Q (some (.int (zI (rMen R)))) h) : Con M_M_man [.ref 90, .int (zI k), .int (zI f)] h Q := by
  obtain ⟨a0, ib, sm, pl, lo, nu, kp, ig, p0, tk, ki, tu, tf, ga, sd, rfl, hIg, hTu, hPz⟩ := W
  have hG := hI.1
  obtain ⟨f1, f2⟩ := id hf
  obtain ⟨kb1, kb2⟩ := id hk
  have gm := hG.men
  have k2 := fun q => r2 q _ ⟨a0, ib, sm, pl, lo, nu, kp, ig, p0, tk, ki, tu, tf, ga, sd, rfl, hIg, hTu, hPz⟩
  have k4 := fun q q2 => r4 q q2 _ ⟨a0, ib, sm, pl, lo, nu, kp, ig, p0, tk, ki, tu, tf, ga, sd, rfl, hIg, hTu, hPz⟩
  have k6 := fun q q2 q3 => r6 q q2 q3 _ ⟨a0, ib, sm, pl, lo, nu, kp, ig, p0, tk, ki, tu, tf, ga, sd, rfl, hIg, hTu, hPz⟩
  refine g8_ (L := [some (.ref 90), some (.int (zI k)), some (.int (zI f)), none]) ok_M_man (Nat.le_of_ble_eq_true rfl) rfl ?_
  refine w_M_man_0 ?_
  simp (disch := omega) only [cm_,aq_,ay_,ag_,af_,bm_,ah_,ba_,bc_,c0_,bg_,b4_,am_,ae_,ac_,b2_,bq_,ed_,bs_,ao_,as_,a2_,az_,ar_,aw_,dw_,d6_,ea_,d3_,b5_,fl_,fn_,fh_,fu_,fz_,fq_,fk_,fr_,ft_,fs_,f0_,c5_,bt_,bd_,c3_,ct_,cx_,cr_,cf_,ch_,an_,cl_,dt_,dv_,du_,dr_,ds_,cd_,a9_,a8_,a7_,ce_,fv_,d1_,Int.toNat_natCast,di_,dm_,dn_,er_,gv_,g1_,g0_,gz_,g4_,gx_,gu_,gt_,go_,gn_,gs_,gm_,f4_,Int.add_zero,Int.zero_add,Int.ediv_one,Nat.reduceAdd,Nat.reduceMul,Int.reduceNeg,Nat.reduceLeDiff,List.length_cons,List.length_nil,true_and,and_true,Nat.zero_add,eq_self,Nat.reduceEqDiff,Int.reduceAdd,Int.reduceSub,Int.reduceMul,not_true_eq_false,not_false_eq_true,Nat.reduceLT,Int.reduceToNat,Int.reduceEq,Int.reduceNe,Int.reduceLT,Int.reduceLE,or_true,or_false,false_implies,true_implies]
  refine con_Min hk (by unfold inI; omega) (by unfold inI; omega) (fun c => ?_) (fun c => ?_)
  · simp (disch := omega) only [cm_,aq_,ay_,ag_,af_,bm_,ah_,ba_,bc_,c0_,bg_,b4_,am_,ae_,ac_,b2_,bq_,ed_,bs_,ao_,as_,a2_,az_,ar_,aw_,dw_,d6_,ea_,d3_,b5_,fl_,fn_,fh_,fu_,fz_,fq_,fk_,fr_,ft_,fs_,f0_,c5_,bt_,bd_,c3_,ct_,cx_,cr_,cf_,ch_,an_,cl_,dt_,dv_,du_,dr_,ds_,cd_,a9_,a8_,a7_,ce_,fv_,d1_,Int.toNat_natCast,di_,dm_,dn_,er_,gv_,g1_,g0_,gz_,g4_,gx_,gu_,gt_,go_,gn_,gs_,gm_,f4_,Int.add_zero,Int.zero_add,Int.ediv_one,Nat.reduceAdd,Nat.reduceMul,Int.reduceNeg,Nat.reduceLeDiff,List.length_cons,List.length_nil,true_and,and_true,Nat.zero_add,eq_self,Nat.reduceEqDiff,Int.reduceAdd,Int.reduceSub,Int.reduceMul,not_true_eq_false,not_false_eq_true,Nat.reduceLT,Int.reduceToNat,Int.reduceEq,Int.reduceNe,Int.reduceLT,Int.reduceLE,or_true,or_false,false_implies,true_implies]
    refine con_MwrongNumber hf (by unfold inI; omega) (by unfold inI; omega) (fun c2 => ?_) (fun c2 c3 => ?_) (fun c2 c3 => ?_)
    · simp (disch := omega) only [cm_,aq_,ay_,ag_,af_,bm_,ah_,ba_,bc_,c0_,bg_,b4_,am_,ae_,ac_,b2_,bq_,ed_,bs_,ao_,as_,a2_,az_,ar_,aw_,dw_,d6_,ea_,d3_,b5_,fl_,fn_,fh_,fu_,fz_,fq_,fk_,fr_,ft_,fs_,f0_,c5_,bt_,bd_,c3_,ct_,cx_,cr_,cf_,ch_,an_,cl_,dt_,dv_,du_,dr_,ds_,cd_,a9_,a8_,a7_,ce_,fv_,d1_,Int.toNat_natCast,di_,dm_,dn_,er_,gv_,g1_,g0_,gz_,g4_,gx_,gu_,gt_,go_,gn_,gs_,gm_,f4_,Int.add_zero,Int.zero_add,Int.ediv_one,Nat.reduceAdd,Nat.reduceMul,Int.reduceNeg,Nat.reduceLeDiff,List.length_cons,List.length_nil,true_and,and_true,Nat.zero_add,eq_self,Nat.reduceEqDiff,Int.reduceAdd,Int.reduceSub,Int.reduceMul,not_true_eq_false,not_false_eq_true,Nat.reduceLT,Int.reduceToNat,Int.reduceEq,Int.reduceNe,Int.reduceLT,Int.reduceLE,or_true,or_false,false_implies,true_implies]
      refine w_M_man_29 ?_
      simp (disch := omega) only [cm_,aq_,ay_,ag_,af_,bm_,ah_,ba_,bc_,c0_,bg_,b4_,am_,ae_,ac_,b2_,bq_,ed_,bs_,ao_,as_,a2_,az_,ar_,aw_,dw_,d6_,ea_,d3_,b5_,fl_,fn_,fh_,fu_,fz_,fq_,fk_,fr_,ft_,fs_,f0_,c5_,bt_,bd_,c3_,ct_,cx_,cr_,cf_,ch_,an_,cl_,dt_,dv_,du_,dr_,ds_,cd_,a9_,a8_,a7_,ce_,fv_,d1_,Int.toNat_natCast,di_,dm_,dn_,er_,gv_,g1_,g0_,gz_,g4_,gx_,gu_,gt_,go_,gn_,gs_,gm_,f4_,Int.add_zero,Int.zero_add,Int.ediv_one,Nat.reduceAdd,Nat.reduceMul,Int.reduceNeg,Nat.reduceLeDiff,List.length_cons,List.length_nil,true_and,and_true,Nat.zero_add,eq_self,Nat.reduceEqDiff,Int.reduceAdd,Int.reduceSub,Int.reduceMul,not_true_eq_false,not_false_eq_true,Nat.reduceLT,Int.reduceToNat,Int.reduceEq,Int.reduceNe,Int.reduceLT,Int.reduceLE,or_true,or_false,false_implies,true_implies]
      refine w_M_man_48 ?_
      simp (disch := omega) only [cm_,aq_,ay_,ag_,af_,bm_,ah_,ba_,bc_,c0_,bg_,b4_,am_,ae_,ac_,b2_,bq_,ed_,bs_,ao_,as_,a2_,az_,ar_,aw_,dw_,d6_,ea_,d3_,b5_,fl_,fn_,fh_,fu_,fz_,fq_,fk_,fr_,ft_,fs_,f0_,c5_,bt_,bd_,c3_,ct_,cx_,cr_,cf_,ch_,an_,cl_,dt_,dv_,du_,dr_,ds_,cd_,a9_,a8_,a7_,ce_,fv_,d1_,Int.toNat_natCast,di_,dm_,dn_,er_,gv_,g1_,g0_,gz_,g4_,gx_,gu_,gt_,go_,gn_,gs_,gm_,f4_,Int.add_zero,Int.zero_add,Int.ediv_one,Nat.reduceAdd,Nat.reduceMul,Int.reduceNeg,Nat.reduceLeDiff,List.length_cons,List.length_nil,true_and,and_true,Nat.zero_add,eq_self,Nat.reduceEqDiff,Int.reduceAdd,Int.reduceSub,Int.reduceMul,not_true_eq_false,not_false_eq_true,Nat.reduceLT,Int.reduceToNat,Int.reduceEq,Int.reduceNe,Int.reduceLT,Int.reduceLE,or_true,or_false,false_implies,true_implies]
      refine w_M_man_49 ?_
      simp (disch := omega) only [cm_,aq_,ay_,ag_,af_,bm_,ah_,ba_,bc_,c0_,bg_,b4_,am_,ae_,ac_,b2_,bq_,ed_,bs_,ao_,as_,a2_,az_,ar_,aw_,dw_,d6_,ea_,d3_,b5_,fl_,fn_,fh_,fu_,fz_,fq_,fk_,fr_,ft_,fs_,f0_,c5_,bt_,bd_,c3_,ct_,cx_,cr_,cf_,ch_,an_,cl_,dt_,dv_,du_,dr_,ds_,cd_,a9_,a8_,a7_,ce_,fv_,d1_,Int.toNat_natCast,di_,dm_,dn_,er_,gv_,g1_,g0_,gz_,g4_,gx_,gu_,gt_,go_,gn_,gs_,gm_,f4_,Int.add_zero,Int.zero_add,Int.ediv_one,Nat.reduceAdd,Nat.reduceMul,Int.reduceNeg,Nat.reduceLeDiff,List.length_cons,List.length_nil,true_and,and_true,Nat.zero_add,eq_self,Nat.reduceEqDiff,Int.reduceAdd,Int.reduceSub,Int.reduceMul,not_true_eq_false,not_false_eq_true,Nat.reduceLT,Int.reduceToNat,Int.reduceEq,Int.reduceNe,Int.reduceLT,Int.reduceLE,or_true,or_false,false_implies,true_implies]
      refine con_Mrefuse (k := 4) (by omega) ?_
      simp (disch := omega) only [cm_,aq_,ay_,ag_,af_,bm_,ah_,ba_,bc_,c0_,bg_,b4_,am_,ae_,ac_,b2_,bq_,ed_,bs_,ao_,as_,a2_,az_,ar_,aw_,dw_,d6_,ea_,d3_,b5_,fl_,fn_,fh_,fu_,fz_,fq_,fk_,fr_,ft_,fs_,f0_,c5_,bt_,bd_,c3_,ct_,cx_,cr_,cf_,ch_,an_,cl_,dt_,dv_,du_,dr_,ds_,cd_,a9_,a8_,a7_,ce_,fv_,d1_,Int.toNat_natCast,di_,dm_,dn_,er_,gv_,g1_,g0_,gz_,g4_,gx_,gu_,gt_,go_,gn_,gs_,gm_,f4_,Int.add_zero,Int.zero_add,Int.ediv_one,Nat.reduceAdd,Nat.reduceMul,Int.reduceNeg,Nat.reduceLeDiff,List.length_cons,List.length_nil,true_and,and_true,Nat.zero_add,eq_self,Nat.reduceEqDiff,Int.reduceAdd,Int.reduceSub,Int.reduceMul,not_true_eq_false,not_false_eq_true,Nat.reduceLT,Int.reduceToNat,Int.reduceEq,Int.reduceNe,Int.reduceLT,Int.reduceLE,or_true,or_false,false_implies,true_implies]
      exact k4 (by omega) c2
    · simp (disch := omega) only [cm_,aq_,ay_,ag_,af_,bm_,ah_,ba_,bc_,c0_,bg_,b4_,am_,ae_,ac_,b2_,bq_,ed_,bs_,ao_,as_,a2_,az_,ar_,aw_,dw_,d6_,ea_,d3_,b5_,fl_,fn_,fh_,fu_,fz_,fq_,fk_,fr_,ft_,fs_,f0_,c5_,bt_,bd_,c3_,ct_,cx_,cr_,cf_,ch_,an_,cl_,dt_,dv_,du_,dr_,ds_,cd_,a9_,a8_,a7_,ce_,fv_,d1_,Int.toNat_natCast,di_,dm_,dn_,er_,gv_,g1_,g0_,gz_,g4_,gx_,gu_,gt_,go_,gn_,gs_,gm_,f4_,Int.add_zero,Int.zero_add,Int.ediv_one,Nat.reduceAdd,Nat.reduceMul,Int.reduceNeg,Nat.reduceLeDiff,List.length_cons,List.length_nil,true_and,and_true,Nat.zero_add,eq_self,Nat.reduceEqDiff,Int.reduceAdd,Int.reduceSub,Int.reduceMul,not_true_eq_false,not_false_eq_true,Nat.reduceLT,Int.reduceToNat,Int.reduceEq,Int.reduceNe,Int.reduceLT,Int.reduceLE,or_true,or_false,false_implies,true_implies]
      refine w_M_man_29 ?_
      simp (disch := omega) only [cm_,aq_,ay_,ag_,af_,bm_,ah_,ba_,bc_,c0_,bg_,b4_,am_,ae_,ac_,b2_,bq_,ed_,bs_,ao_,as_,a2_,az_,ar_,aw_,dw_,d6_,ea_,d3_,b5_,fl_,fn_,fh_,fu_,fz_,fq_,fk_,fr_,ft_,fs_,f0_,c5_,bt_,bd_,c3_,ct_,cx_,cr_,cf_,ch_,an_,cl_,dt_,dv_,du_,dr_,ds_,cd_,a9_,a8_,a7_,ce_,fv_,d1_,Int.toNat_natCast,di_,dm_,dn_,er_,gv_,g1_,g0_,gz_,g4_,gx_,gu_,gt_,go_,gn_,gs_,gm_,f4_,Int.add_zero,Int.zero_add,Int.ediv_one,Nat.reduceAdd,Nat.reduceMul,Int.reduceNeg,Nat.reduceLeDiff,List.length_cons,List.length_nil,true_and,and_true,Nat.zero_add,eq_self,Nat.reduceEqDiff,Int.reduceAdd,Int.reduceSub,Int.reduceMul,not_true_eq_false,not_false_eq_true,Nat.reduceLT,Int.reduceToNat,Int.reduceEq,Int.reduceNe,Int.reduceLT,Int.reduceLE,or_true,or_false,false_implies,true_implies]
      refine w_M_man_48 ?_
      simp (disch := omega) only [cm_,aq_,ay_,ag_,af_,bm_,ah_,ba_,bc_,c0_,bg_,b4_,am_,ae_,ac_,b2_,bq_,ed_,bs_,ao_,as_,a2_,az_,ar_,aw_,dw_,d6_,ea_,d3_,b5_,fl_,fn_,fh_,fu_,fz_,fq_,fk_,fr_,ft_,fs_,f0_,c5_,bt_,bd_,c3_,ct_,cx_,cr_,cf_,ch_,an_,cl_,dt_,dv_,du_,dr_,ds_,cd_,a9_,a8_,a7_,ce_,fv_,d1_,Int.toNat_natCast,di_,dm_,dn_,er_,gv_,g1_,g0_,gz_,g4_,gx_,gu_,gt_,go_,gn_,gs_,gm_,f4_,Int.add_zero,Int.zero_add,Int.ediv_one,Nat.reduceAdd,Nat.reduceMul,Int.reduceNeg,Nat.reduceLeDiff,List.length_cons,List.length_nil,true_and,and_true,Nat.zero_add,eq_self,Nat.reduceEqDiff,Int.reduceAdd,Int.reduceSub,Int.reduceMul,not_true_eq_false,not_false_eq_true,Nat.reduceLT,Int.reduceToNat,Int.reduceEq,Int.reduceNe,Int.reduceLT,Int.reduceLE,or_true,or_false,false_implies,true_implies]
      refine w_M_man_49 ?_
      simp (disch := omega) only [cm_,aq_,ay_,ag_,af_,bm_,ah_,ba_,bc_,c0_,bg_,b4_,am_,ae_,ac_,b2_,bq_,ed_,bs_,ao_,as_,a2_,az_,ar_,aw_,dw_,d6_,ea_,d3_,b5_,fl_,fn_,fh_,fu_,fz_,fq_,fk_,fr_,ft_,fs_,f0_,c5_,bt_,bd_,c3_,ct_,cx_,cr_,cf_,ch_,an_,cl_,dt_,dv_,du_,dr_,ds_,cd_,a9_,a8_,a7_,ce_,fv_,d1_,Int.toNat_natCast,di_,dm_,dn_,er_,gv_,g1_,g0_,gz_,g4_,gx_,gu_,gt_,go_,gn_,gs_,gm_,f4_,Int.add_zero,Int.zero_add,Int.ediv_one,Nat.reduceAdd,Nat.reduceMul,Int.reduceNeg,Nat.reduceLeDiff,List.length_cons,List.length_nil,true_and,and_true,Nat.zero_add,eq_self,Nat.reduceEqDiff,Int.reduceAdd,Int.reduceSub,Int.reduceMul,not_true_eq_false,not_false_eq_true,Nat.reduceLT,Int.reduceToNat,Int.reduceEq,Int.reduceNe,Int.reduceLT,Int.reduceLE,or_true,or_false,false_implies,true_implies]
      refine con_Mrefuse (k := 6) (by omega) ?_
      simp (disch := omega) only [cm_,aq_,ay_,ag_,af_,bm_,ah_,ba_,bc_,c0_,bg_,b4_,am_,ae_,ac_,b2_,bq_,ed_,bs_,ao_,as_,a2_,az_,ar_,aw_,dw_,d6_,ea_,d3_,b5_,fl_,fn_,fh_,fu_,fz_,fq_,fk_,fr_,ft_,fs_,f0_,c5_,bt_,bd_,c3_,ct_,cx_,cr_,cf_,ch_,an_,cl_,dt_,dv_,du_,dr_,ds_,cd_,a9_,a8_,a7_,ce_,fv_,d1_,Int.toNat_natCast,di_,dm_,dn_,er_,gv_,g1_,g0_,gz_,g4_,gx_,gu_,gt_,go_,gn_,gs_,gm_,f4_,Int.add_zero,Int.zero_add,Int.ediv_one,Nat.reduceAdd,Nat.reduceMul,Int.reduceNeg,Nat.reduceLeDiff,List.length_cons,List.length_nil,true_and,and_true,Nat.zero_add,eq_self,Nat.reduceEqDiff,Int.reduceAdd,Int.reduceSub,Int.reduceMul,not_true_eq_false,not_false_eq_true,Nat.reduceLT,Int.reduceToNat,Int.reduceEq,Int.reduceNe,Int.reduceLT,Int.reduceLE,or_true,or_false,false_implies,true_implies]
      exact k6 (by omega) (by omega) (Or.inl c3)
    · simp (disch := omega) only [cm_,aq_,ay_,ag_,af_,bm_,ah_,ba_,bc_,c0_,bg_,b4_,am_,ae_,ac_,b2_,bq_,ed_,bs_,ao_,as_,a2_,az_,ar_,aw_,dw_,d6_,ea_,d3_,b5_,fl_,fn_,fh_,fu_,fz_,fq_,fk_,fr_,ft_,fs_,f0_,c5_,bt_,bd_,c3_,ct_,cx_,cr_,cf_,ch_,an_,cl_,dt_,dv_,du_,dr_,ds_,cd_,a9_,a8_,a7_,ce_,fv_,d1_,Int.toNat_natCast,di_,dm_,dn_,er_,gv_,g1_,g0_,gz_,g4_,gx_,gu_,gt_,go_,gn_,gs_,gm_,f4_,Int.add_zero,Int.zero_add,Int.ediv_one,Nat.reduceAdd,Nat.reduceMul,Int.reduceNeg,Nat.reduceLeDiff,List.length_cons,List.length_nil,true_and,and_true,Nat.zero_add,eq_self,Nat.reduceEqDiff,Int.reduceAdd,Int.reduceSub,Int.reduceMul,not_true_eq_false,not_false_eq_true,Nat.reduceLT,Int.reduceToNat,Int.reduceEq,Int.reduceNe,Int.reduceLT,Int.reduceLE,or_true,or_false,false_implies,true_implies]
      refine w_M_man_29 ?_
      simp (disch := omega) only [cm_,aq_,ay_,ag_,af_,bm_,ah_,ba_,bc_,c0_,bg_,b4_,am_,ae_,ac_,b2_,bq_,ed_,bs_,ao_,as_,a2_,az_,ar_,aw_,dw_,d6_,ea_,d3_,b5_,fl_,fn_,fh_,fu_,fz_,fq_,fk_,fr_,ft_,fs_,f0_,c5_,bt_,bd_,c3_,ct_,cx_,cr_,cf_,ch_,an_,cl_,dt_,dv_,du_,dr_,ds_,cd_,a9_,a8_,a7_,ce_,fv_,d1_,Int.toNat_natCast,di_,dm_,dn_,er_,gv_,g1_,g0_,gz_,g4_,gx_,gu_,gt_,go_,gn_,gs_,gm_,f4_,Int.add_zero,Int.zero_add,Int.ediv_one,Nat.reduceAdd,Nat.reduceMul,Int.reduceNeg,Nat.reduceLeDiff,List.length_cons,List.length_nil,true_and,and_true,Nat.zero_add,eq_self,Nat.reduceEqDiff,Int.reduceAdd,Int.reduceSub,Int.reduceMul,not_true_eq_false,not_false_eq_true,Nat.reduceLT,Int.reduceToNat,Int.reduceEq,Int.reduceNe,Int.reduceLT,Int.reduceLE,or_true,or_false,false_implies,true_implies]
      refine ⟨fun c4 => ?_, fun c4 => ?_⟩
      · refine w_M_man_48 ?_
        simp (disch := omega) only [cm_,aq_,ay_,ag_,af_,bm_,ah_,ba_,bc_,c0_,bg_,b4_,am_,ae_,ac_,b2_,bq_,ed_,bs_,ao_,as_,a2_,az_,ar_,aw_,dw_,d6_,ea_,d3_,b5_,fl_,fn_,fh_,fu_,fz_,fq_,fk_,fr_,ft_,fs_,f0_,c5_,bt_,bd_,c3_,ct_,cx_,cr_,cf_,ch_,an_,cl_,dt_,dv_,du_,dr_,ds_,cd_,a9_,a8_,a7_,ce_,fv_,d1_,Int.toNat_natCast,di_,dm_,dn_,er_,gv_,g1_,g0_,gz_,g4_,gx_,gu_,gt_,go_,gn_,gs_,gm_,f4_,Int.add_zero,Int.zero_add,Int.ediv_one,Nat.reduceAdd,Nat.reduceMul,Int.reduceNeg,Nat.reduceLeDiff,List.length_cons,List.length_nil,true_and,and_true,Nat.zero_add,eq_self,Nat.reduceEqDiff,Int.reduceAdd,Int.reduceSub,Int.reduceMul,not_true_eq_false,not_false_eq_true,Nat.reduceLT,Int.reduceToNat,Int.reduceEq,Int.reduceNe,Int.reduceLT,Int.reduceLE,or_true,or_false,false_implies,true_implies]
        refine w_M_man_49 ?_
        simp (disch := omega) only [cm_,aq_,ay_,ag_,af_,bm_,ah_,ba_,bc_,c0_,bg_,b4_,am_,ae_,ac_,b2_,bq_,ed_,bs_,ao_,as_,a2_,az_,ar_,aw_,dw_,d6_,ea_,d3_,b5_,fl_,fn_,fh_,fu_,fz_,fq_,fk_,fr_,ft_,fs_,f0_,c5_,bt_,bd_,c3_,ct_,cx_,cr_,cf_,ch_,an_,cl_,dt_,dv_,du_,dr_,ds_,cd_,a9_,a8_,a7_,ce_,fv_,d1_,Int.toNat_natCast,di_,dm_,dn_,er_,gv_,g1_,g0_,gz_,g4_,gx_,gu_,gt_,go_,gn_,gs_,gm_,f4_,Int.add_zero,Int.zero_add,Int.ediv_one,Nat.reduceAdd,Nat.reduceMul,Int.reduceNeg,Nat.reduceLeDiff,List.length_cons,List.length_nil,true_and,and_true,Nat.zero_add,eq_self,Nat.reduceEqDiff,Int.reduceAdd,Int.reduceSub,Int.reduceMul,not_true_eq_false,not_false_eq_true,Nat.reduceLT,Int.reduceToNat,Int.reduceEq,Int.reduceNe,Int.reduceLT,Int.reduceLE,or_true,or_false,false_implies,true_implies]
        refine w_M_man_60 ?_
        simp (disch := omega) only [cm_,aq_,ay_,ag_,af_,bm_,ah_,ba_,bc_,c0_,bg_,b4_,am_,ae_,ac_,b2_,bq_,ed_,bs_,ao_,as_,a2_,az_,ar_,aw_,dw_,d6_,ea_,d3_,b5_,fl_,fn_,fh_,fu_,fz_,fq_,fk_,fr_,ft_,fs_,f0_,c5_,bt_,bd_,c3_,ct_,cx_,cr_,cf_,ch_,an_,cl_,dt_,dv_,du_,dr_,ds_,cd_,a9_,a8_,a7_,ce_,fv_,d1_,Int.toNat_natCast,di_,dm_,dn_,er_,gv_,g1_,g0_,gz_,g4_,gx_,gu_,gt_,go_,gn_,gs_,gm_,f4_,Int.add_zero,Int.zero_add,Int.ediv_one,Nat.reduceAdd,Nat.reduceMul,Int.reduceNeg,Nat.reduceLeDiff,List.length_cons,List.length_nil,true_and,and_true,Nat.zero_add,eq_self,Nat.reduceEqDiff,Int.reduceAdd,Int.reduceSub,Int.reduceMul,not_true_eq_false,not_false_eq_true,Nat.reduceLT,Int.reduceToNat,Int.reduceEq,Int.reduceNe,Int.reduceLT,Int.reduceLE,or_true,or_false,false_implies,true_implies]
        refine con_MmanComes (by omega) hG (fun _ c5 => ?_) (fun q => absurd (show k < 6 ∧ rMen R < 8 by omega) q)
        simp (disch := omega) only [cm_,aq_,ay_,ag_,af_,bm_,ah_,ba_,bc_,c0_,bg_,b4_,am_,ae_,ac_,b2_,bq_,ed_,bs_,ao_,as_,a2_,az_,ar_,aw_,dw_,d6_,ea_,d3_,b5_,fl_,fn_,fh_,fu_,fz_,fq_,fk_,fr_,ft_,fs_,f0_,c5_,bt_,bd_,c3_,ct_,cx_,cr_,cf_,ch_,an_,cl_,dt_,dv_,du_,dr_,ds_,cd_,a9_,a8_,a7_,ce_,fv_,d1_,Int.toNat_natCast,di_,dm_,dn_,er_,gv_,g1_,g0_,gz_,g4_,gx_,gu_,gt_,go_,gn_,gs_,gm_,f4_,Int.add_zero,Int.zero_add,Int.ediv_one,Nat.reduceAdd,Nat.reduceMul,Int.reduceNeg,Nat.reduceLeDiff,List.length_cons,List.length_nil,true_and,and_true,Nat.zero_add,eq_self,Nat.reduceEqDiff,Int.reduceAdd,Int.reduceSub,Int.reduceMul,not_true_eq_false,not_false_eq_true,Nat.reduceLT,Int.reduceToNat,Int.reduceEq,Int.reduceNe,Int.reduceLT,Int.reduceLE,or_true,or_false,false_implies,true_implies]
        rw [show rMen R + 1 - 1 = rMen R by omega]
        refine ok (by omega) (by omega) c5 _ ⟨_, _, _, _, _, _, _, _, _, _, _, _, _, _, _, rfl, hIg, fun i hi => by omega, by omega⟩
      · refine w_M_man_49 ?_
        simp (disch := omega) only [cm_,aq_,ay_,ag_,af_,bm_,ah_,ba_,bc_,c0_,bg_,b4_,am_,ae_,ac_,b2_,bq_,ed_,bs_,ao_,as_,a2_,az_,ar_,aw_,dw_,d6_,ea_,d3_,b5_,fl_,fn_,fh_,fu_,fz_,fq_,fk_,fr_,ft_,fs_,f0_,c5_,bt_,bd_,c3_,ct_,cx_,cr_,cf_,ch_,an_,cl_,dt_,dv_,du_,dr_,ds_,cd_,a9_,a8_,a7_,ce_,fv_,d1_,Int.toNat_natCast,di_,dm_,dn_,er_,gv_,g1_,g0_,gz_,g4_,gx_,gu_,gt_,go_,gn_,gs_,gm_,f4_,Int.add_zero,Int.zero_add,Int.ediv_one,Nat.reduceAdd,Nat.reduceMul,Int.reduceNeg,Nat.reduceLeDiff,List.length_cons,List.length_nil,true_and,and_true,Nat.zero_add,eq_self,Nat.reduceEqDiff,Int.reduceAdd,Int.reduceSub,Int.reduceMul,not_true_eq_false,not_false_eq_true,Nat.reduceLT,Int.reduceToNat,Int.reduceEq,Int.reduceNe,Int.reduceLT,Int.reduceLE,or_true,or_false,false_implies,true_implies]
        refine con_Mrefuse (k := 6) (by omega) ?_
        simp (disch := omega) only [cm_,aq_,ay_,ag_,af_,bm_,ah_,ba_,bc_,c0_,bg_,b4_,am_,ae_,ac_,b2_,bq_,ed_,bs_,ao_,as_,a2_,az_,ar_,aw_,dw_,d6_,ea_,d3_,b5_,fl_,fn_,fh_,fu_,fz_,fq_,fk_,fr_,ft_,fs_,f0_,c5_,bt_,bd_,c3_,ct_,cx_,cr_,cf_,ch_,an_,cl_,dt_,dv_,du_,dr_,ds_,cd_,a9_,a8_,a7_,ce_,fv_,d1_,Int.toNat_natCast,di_,dm_,dn_,er_,gv_,g1_,g0_,gz_,g4_,gx_,gu_,gt_,go_,gn_,gs_,gm_,f4_,Int.add_zero,Int.zero_add,Int.ediv_one,Nat.reduceAdd,Nat.reduceMul,Int.reduceNeg,Nat.reduceLeDiff,List.length_cons,List.length_nil,true_and,and_true,Nat.zero_add,eq_self,Nat.reduceEqDiff,Int.reduceAdd,Int.reduceSub,Int.reduceMul,not_true_eq_false,not_false_eq_true,Nat.reduceLT,Int.reduceToNat,Int.reduceEq,Int.reduceNe,Int.reduceLT,Int.reduceLE,or_true,or_false,false_implies,true_implies]
        exact k6 (by omega) (by omega) (Or.inr (by omega))
  · simp (disch := omega) only [cm_,aq_,ay_,ag_,af_,bm_,ah_,ba_,bc_,c0_,bg_,b4_,am_,ae_,ac_,b2_,bq_,ed_,bs_,ao_,as_,a2_,az_,ar_,aw_,dw_,d6_,ea_,d3_,b5_,fl_,fn_,fh_,fu_,fz_,fq_,fk_,fr_,ft_,fs_,f0_,c5_,bt_,bd_,c3_,ct_,cx_,cr_,cf_,ch_,an_,cl_,dt_,dv_,du_,dr_,ds_,cd_,a9_,a8_,a7_,ce_,fv_,d1_,Int.toNat_natCast,di_,dm_,dn_,er_,gv_,g1_,g0_,gz_,g4_,gx_,gu_,gt_,go_,gn_,gs_,gm_,f4_,Int.add_zero,Int.zero_add,Int.ediv_one,Nat.reduceAdd,Nat.reduceMul,Int.reduceNeg,Nat.reduceLeDiff,List.length_cons,List.length_nil,true_and,and_true,Nat.zero_add,eq_self,Nat.reduceEqDiff,Int.reduceAdd,Int.reduceSub,Int.reduceMul,not_true_eq_false,not_false_eq_true,Nat.reduceLT,Int.reduceToNat,Int.reduceEq,Int.reduceNe,Int.reduceLT,Int.reduceLE,or_true,or_false,false_implies,true_implies]
    refine w_M_man_27 ?_
    simp (disch := omega) only [cm_,aq_,ay_,ag_,af_,bm_,ah_,ba_,bc_,c0_,bg_,b4_,am_,ae_,ac_,b2_,bq_,ed_,bs_,ao_,as_,a2_,az_,ar_,aw_,dw_,d6_,ea_,d3_,b5_,fl_,fn_,fh_,fu_,fz_,fq_,fk_,fr_,ft_,fs_,f0_,c5_,bt_,bd_,c3_,ct_,cx_,cr_,cf_,ch_,an_,cl_,dt_,dv_,du_,dr_,ds_,cd_,a9_,a8_,a7_,ce_,fv_,d1_,Int.toNat_natCast,di_,dm_,dn_,er_,gv_,g1_,g0_,gz_,g4_,gx_,gu_,gt_,go_,gn_,gs_,gm_,f4_,Int.add_zero,Int.zero_add,Int.ediv_one,Nat.reduceAdd,Nat.reduceMul,Int.reduceNeg,Nat.reduceLeDiff,List.length_cons,List.length_nil,true_and,and_true,Nat.zero_add,eq_self,Nat.reduceEqDiff,Int.reduceAdd,Int.reduceSub,Int.reduceMul,not_true_eq_false,not_false_eq_true,Nat.reduceLT,Int.reduceToNat,Int.reduceEq,Int.reduceNe,Int.reduceLT,Int.reduceLE,or_true,or_false,false_implies,true_implies]
    refine w_M_man_29 ?_
    simp (disch := omega) only [cm_,aq_,ay_,ag_,af_,bm_,ah_,ba_,bc_,c0_,bg_,b4_,am_,ae_,ac_,b2_,bq_,ed_,bs_,ao_,as_,a2_,az_,ar_,aw_,dw_,d6_,ea_,d3_,b5_,fl_,fn_,fh_,fu_,fz_,fq_,fk_,fr_,ft_,fs_,f0_,c5_,bt_,bd_,c3_,ct_,cx_,cr_,cf_,ch_,an_,cl_,dt_,dv_,du_,dr_,ds_,cd_,a9_,a8_,a7_,ce_,fv_,d1_,Int.toNat_natCast,di_,dm_,dn_,er_,gv_,g1_,g0_,gz_,g4_,gx_,gu_,gt_,go_,gn_,gs_,gm_,f4_,Int.add_zero,Int.zero_add,Int.ediv_one,Nat.reduceAdd,Nat.reduceMul,Int.reduceNeg,Nat.reduceLeDiff,List.length_cons,List.length_nil,true_and,and_true,Nat.zero_add,eq_self,Nat.reduceEqDiff,Int.reduceAdd,Int.reduceSub,Int.reduceMul,not_true_eq_false,not_false_eq_true,Nat.reduceLT,Int.reduceToNat,Int.reduceEq,Int.reduceNe,Int.reduceLT,Int.reduceLE,or_true,or_false,false_implies,true_implies]
    refine w_M_man_48 ?_
    simp (disch := omega) only [cm_,aq_,ay_,ag_,af_,bm_,ah_,ba_,bc_,c0_,bg_,b4_,am_,ae_,ac_,b2_,bq_,ed_,bs_,ao_,as_,a2_,az_,ar_,aw_,dw_,d6_,ea_,d3_,b5_,fl_,fn_,fh_,fu_,fz_,fq_,fk_,fr_,ft_,fs_,f0_,c5_,bt_,bd_,c3_,ct_,cx_,cr_,cf_,ch_,an_,cl_,dt_,dv_,du_,dr_,ds_,cd_,a9_,a8_,a7_,ce_,fv_,d1_,Int.toNat_natCast,di_,dm_,dn_,er_,gv_,g1_,g0_,gz_,g4_,gx_,gu_,gt_,go_,gn_,gs_,gm_,f4_,Int.add_zero,Int.zero_add,Int.ediv_one,Nat.reduceAdd,Nat.reduceMul,Int.reduceNeg,Nat.reduceLeDiff,List.length_cons,List.length_nil,true_and,and_true,Nat.zero_add,eq_self,Nat.reduceEqDiff,Int.reduceAdd,Int.reduceSub,Int.reduceMul,not_true_eq_false,not_false_eq_true,Nat.reduceLT,Int.reduceToNat,Int.reduceEq,Int.reduceNe,Int.reduceLT,Int.reduceLE,or_true,or_false,false_implies,true_implies]
    refine w_M_man_49 ?_
    simp (disch := omega) only [cm_,aq_,ay_,ag_,af_,bm_,ah_,ba_,bc_,c0_,bg_,b4_,am_,ae_,ac_,b2_,bq_,ed_,bs_,ao_,as_,a2_,az_,ar_,aw_,dw_,d6_,ea_,d3_,b5_,fl_,fn_,fh_,fu_,fz_,fq_,fk_,fr_,ft_,fs_,f0_,c5_,bt_,bd_,c3_,ct_,cx_,cr_,cf_,ch_,an_,cl_,dt_,dv_,du_,dr_,ds_,cd_,a9_,a8_,a7_,ce_,fv_,d1_,Int.toNat_natCast,di_,dm_,dn_,er_,gv_,g1_,g0_,gz_,g4_,gx_,gu_,gt_,go_,gn_,gs_,gm_,f4_,Int.add_zero,Int.zero_add,Int.ediv_one,Nat.reduceAdd,Nat.reduceMul,Int.reduceNeg,Nat.reduceLeDiff,List.length_cons,List.length_nil,true_and,and_true,Nat.zero_add,eq_self,Nat.reduceEqDiff,Int.reduceAdd,Int.reduceSub,Int.reduceMul,not_true_eq_false,not_false_eq_true,Nat.reduceLT,Int.reduceToNat,Int.reduceEq,Int.reduceNe,Int.reduceLT,Int.reduceLE,or_true,or_false,false_implies,true_implies]
    refine con_Mrefuse (k := 2) (by omega) ?_
    simp (disch := omega) only [cm_,aq_,ay_,ag_,af_,bm_,ah_,ba_,bc_,c0_,bg_,b4_,am_,ae_,ac_,b2_,bq_,ed_,bs_,ao_,as_,a2_,az_,ar_,aw_,dw_,d6_,ea_,d3_,b5_,fl_,fn_,fh_,fu_,fz_,fq_,fk_,fr_,ft_,fs_,f0_,c5_,bt_,bd_,c3_,ct_,cx_,cr_,cf_,ch_,an_,cl_,dt_,dv_,du_,dr_,ds_,cd_,a9_,a8_,a7_,ce_,fv_,d1_,Int.toNat_natCast,di_,dm_,dn_,er_,gv_,g1_,g0_,gz_,g4_,gx_,gu_,gt_,go_,gn_,gs_,gm_,f4_,Int.add_zero,Int.zero_add,Int.ediv_one,Nat.reduceAdd,Nat.reduceMul,Int.reduceNeg,Nat.reduceLeDiff,List.length_cons,List.length_nil,true_and,and_true,Nat.zero_add,eq_self,Nat.reduceEqDiff,Int.reduceAdd,Int.reduceSub,Int.reduceMul,not_true_eq_false,not_false_eq_true,Nat.reduceLT,Int.reduceToNat,Int.reduceEq,Int.reduceNe,Int.reduceLT,Int.reduceLE,or_true,or_false,false_implies,true_implies]
    exact k2 (by omega)
theorem M_slopes {s v : Int} (hs : inI s) (hv : inI v) (hI : GI R)  (W : (MW R I im P pz lt lsz tn tsz rf bb h))
    (r1 : ¬ (0 ≤ s ∧ s < 12) → ∀ h, (MW R I im P pz lt lsz tn tsz (rfU rf 1) bb h) → Q (some (.int (zI (-1)))) h)
    (r4 : 0 ≤ s ∧ s < 12 → v < 0 → ∀ h, (MW R I im P pz lt lsz tn tsz (rfU rf 4) bb h) → Q (some (.int (zI (-4)))) h)
    (r6 : 0 ≤ s ∧ s < 12 → ¬ v < 0 → 9 < v → ∀ h, (MW R I im P pz lt lsz tn tsz (rfU rf 6) bb h) → Q (some (.int (zI (-6)))) h)
    (ok : 0 ≤ s ∧ s < 12 → ¬ v < 0 → ¬ 9 < v → ∀ h, (MW (sSl R (upI (rSl R) s.toNat v)) I im (pushP P pz R) (min 8 (pz + 1)) lt lsz tn tsz rf bb h) → Q (some (.int (zI (rSl R s.toNat)))) h) : Con M_M_slopes [.ref 90, .int (zI s), .int (zI v)] h Q := by
  obtain ⟨a0, ib, sm, pl, lo, nu, kp, ig, p0, tk, ki, tu, tf, ga, sd, rfl, hIg, hTu, hPz⟩ := W
  obtain ⟨s1, s2⟩ := id hs
  obtain ⟨v1, v2⟩ := id hv
  have k1 := fun q => r1 q _ ⟨a0, ib, sm, pl, lo, nu, kp, ig, p0, tk, ki, tu, tf, ga, sd, rfl, hIg, hTu, hPz⟩
  have k4 := fun q q2 => r4 q q2 _ ⟨a0, ib, sm, pl, lo, nu, kp, ig, p0, tk, ki, tu, tf, ga, sd, rfl, hIg, hTu, hPz⟩
  have k6 := fun q q2 q3 => r6 q q2 q3 _ ⟨a0, ib, sm, pl, lo, nu, kp, ig, p0, tk, ki, tu, tf, ga, sd, rfl, hIg, hTu, hPz⟩
  refine g8_ (L := [some (.ref 90), some (.int (zI s)), some (.int (zI v)), none, none]) ok_M_slopes (Nat.le_of_ble_eq_true rfl) rfl ?_
  refine w_M_slopes_0 ?_
  simp (disch := omega) only [cm_,aq_,ay_,ag_,af_,bm_,ah_,ba_,bc_,c0_,bg_,b4_,am_,ae_,ac_,b2_,bq_,ed_,bs_,ao_,as_,a2_,az_,ar_,aw_,dw_,d6_,ea_,d3_,b5_,fl_,fn_,fh_,fu_,fz_,fq_,fk_,fr_,ft_,fs_,f0_,c5_,bt_,bd_,c3_,ct_,cx_,cr_,cf_,ch_,an_,cl_,dt_,dv_,du_,dr_,ds_,cd_,a9_,a8_,a7_,ce_,fv_,d1_,Int.toNat_natCast,di_,dm_,dn_,er_,gv_,g1_,g0_,gz_,g4_,gx_,gu_,gt_,go_,gn_,gs_,gm_,f4_,Int.add_zero,Int.zero_add,Int.ediv_one,Nat.reduceAdd,Nat.reduceMul,Int.reduceNeg,Nat.reduceLeDiff,List.length_cons,List.length_nil,true_and,and_true,Nat.zero_add,eq_self,Nat.reduceEqDiff,Int.reduceAdd,Int.reduceSub,Int.reduceMul,not_true_eq_false,not_false_eq_true,Nat.reduceLT,Int.reduceToNat,Int.reduceEq,Int.reduceNe,Int.reduceLT,Int.reduceLE,or_true,or_false,false_implies,true_implies]
  refine con_Min hs (by unfold inI; omega) (by unfold inI; omega) (fun c => ?_) (fun c => ?_)
  · simp (disch := omega) only [cm_,aq_,ay_,ag_,af_,bm_,ah_,ba_,bc_,c0_,bg_,b4_,am_,ae_,ac_,b2_,bq_,ed_,bs_,ao_,as_,a2_,az_,ar_,aw_,dw_,d6_,ea_,d3_,b5_,fl_,fn_,fh_,fu_,fz_,fq_,fk_,fr_,ft_,fs_,f0_,c5_,bt_,bd_,c3_,ct_,cx_,cr_,cf_,ch_,an_,cl_,dt_,dv_,du_,dr_,ds_,cd_,a9_,a8_,a7_,ce_,fv_,d1_,Int.toNat_natCast,di_,dm_,dn_,er_,gv_,g1_,g0_,gz_,g4_,gx_,gu_,gt_,go_,gn_,gs_,gm_,f4_,Int.add_zero,Int.zero_add,Int.ediv_one,Nat.reduceAdd,Nat.reduceMul,Int.reduceNeg,Nat.reduceLeDiff,List.length_cons,List.length_nil,true_and,and_true,Nat.zero_add,eq_self,Nat.reduceEqDiff,Int.reduceAdd,Int.reduceSub,Int.reduceMul,not_true_eq_false,not_false_eq_true,Nat.reduceLT,Int.reduceToNat,Int.reduceEq,Int.reduceNe,Int.reduceLT,Int.reduceLE,or_true,or_false,false_implies,true_implies]
    refine con_MwrongNumber hv (by unfold inI; omega) (by unfold inI; omega) (fun c2 => ?_) (fun c2 c3 => ?_) (fun c2 c3 => ?_)
    · simp (disch := omega) only [cm_,aq_,ay_,ag_,af_,bm_,ah_,ba_,bc_,c0_,bg_,b4_,am_,ae_,ac_,b2_,bq_,ed_,bs_,ao_,as_,a2_,az_,ar_,aw_,dw_,d6_,ea_,d3_,b5_,fl_,fn_,fh_,fu_,fz_,fq_,fk_,fr_,ft_,fs_,f0_,c5_,bt_,bd_,c3_,ct_,cx_,cr_,cf_,ch_,an_,cl_,dt_,dv_,du_,dr_,ds_,cd_,a9_,a8_,a7_,ce_,fv_,d1_,Int.toNat_natCast,di_,dm_,dn_,er_,gv_,g1_,g0_,gz_,g4_,gx_,gu_,gt_,go_,gn_,gs_,gm_,f4_,Int.add_zero,Int.zero_add,Int.ediv_one,Nat.reduceAdd,Nat.reduceMul,Int.reduceNeg,Nat.reduceLeDiff,List.length_cons,List.length_nil,true_and,and_true,Nat.zero_add,eq_self,Nat.reduceEqDiff,Int.reduceAdd,Int.reduceSub,Int.reduceMul,not_true_eq_false,not_false_eq_true,Nat.reduceLT,Int.reduceToNat,Int.reduceEq,Int.reduceNe,Int.reduceLT,Int.reduceLE,or_true,or_false,false_implies,true_implies]
      refine w_M_slopes_28 ?_
      simp (disch := omega) only [cm_,aq_,ay_,ag_,af_,bm_,ah_,ba_,bc_,c0_,bg_,b4_,am_,ae_,ac_,b2_,bq_,ed_,bs_,ao_,as_,a2_,az_,ar_,aw_,dw_,d6_,ea_,d3_,b5_,fl_,fn_,fh_,fu_,fz_,fq_,fk_,fr_,ft_,fs_,f0_,c5_,bt_,bd_,c3_,ct_,cx_,cr_,cf_,ch_,an_,cl_,dt_,dv_,du_,dr_,ds_,cd_,a9_,a8_,a7_,ce_,fv_,d1_,Int.toNat_natCast,di_,dm_,dn_,er_,gv_,g1_,g0_,gz_,g4_,gx_,gu_,gt_,go_,gn_,gs_,gm_,f4_,Int.add_zero,Int.zero_add,Int.ediv_one,Nat.reduceAdd,Nat.reduceMul,Int.reduceNeg,Nat.reduceLeDiff,List.length_cons,List.length_nil,true_and,and_true,Nat.zero_add,eq_self,Nat.reduceEqDiff,Int.reduceAdd,Int.reduceSub,Int.reduceMul,not_true_eq_false,not_false_eq_true,Nat.reduceLT,Int.reduceToNat,Int.reduceEq,Int.reduceNe,Int.reduceLT,Int.reduceLE,or_true,or_false,false_implies,true_implies]
      refine con_Mrefuse (k := 4) (by omega) ?_
      simp (disch := omega) only [cm_,aq_,ay_,ag_,af_,bm_,ah_,ba_,bc_,c0_,bg_,b4_,am_,ae_,ac_,b2_,bq_,ed_,bs_,ao_,as_,a2_,az_,ar_,aw_,dw_,d6_,ea_,d3_,b5_,fl_,fn_,fh_,fu_,fz_,fq_,fk_,fr_,ft_,fs_,f0_,c5_,bt_,bd_,c3_,ct_,cx_,cr_,cf_,ch_,an_,cl_,dt_,dv_,du_,dr_,ds_,cd_,a9_,a8_,a7_,ce_,fv_,d1_,Int.toNat_natCast,di_,dm_,dn_,er_,gv_,g1_,g0_,gz_,g4_,gx_,gu_,gt_,go_,gn_,gs_,gm_,f4_,Int.add_zero,Int.zero_add,Int.ediv_one,Nat.reduceAdd,Nat.reduceMul,Int.reduceNeg,Nat.reduceLeDiff,List.length_cons,List.length_nil,true_and,and_true,Nat.zero_add,eq_self,Nat.reduceEqDiff,Int.reduceAdd,Int.reduceSub,Int.reduceMul,not_true_eq_false,not_false_eq_true,Nat.reduceLT,Int.reduceToNat,Int.reduceEq,Int.reduceNe,Int.reduceLT,Int.reduceLE,or_true,or_false,false_implies,true_implies]
      exact k4 (by omega) c2
    · simp (disch := omega) only [cm_,aq_,ay_,ag_,af_,bm_,ah_,ba_,bc_,c0_,bg_,b4_,am_,ae_,ac_,b2_,bq_,ed_,bs_,ao_,as_,a2_,az_,ar_,aw_,dw_,d6_,ea_,d3_,b5_,fl_,fn_,fh_,fu_,fz_,fq_,fk_,fr_,ft_,fs_,f0_,c5_,bt_,bd_,c3_,ct_,cx_,cr_,cf_,ch_,an_,cl_,dt_,dv_,du_,dr_,ds_,cd_,a9_,a8_,a7_,ce_,fv_,d1_,Int.toNat_natCast,di_,dm_,dn_,er_,gv_,g1_,g0_,gz_,g4_,gx_,gu_,gt_,go_,gn_,gs_,gm_,f4_,Int.add_zero,Int.zero_add,Int.ediv_one,Nat.reduceAdd,Nat.reduceMul,Int.reduceNeg,Nat.reduceLeDiff,List.length_cons,List.length_nil,true_and,and_true,Nat.zero_add,eq_self,Nat.reduceEqDiff,Int.reduceAdd,Int.reduceSub,Int.reduceMul,not_true_eq_false,not_false_eq_true,Nat.reduceLT,Int.reduceToNat,Int.reduceEq,Int.reduceNe,Int.reduceLT,Int.reduceLE,or_true,or_false,false_implies,true_implies]
      refine w_M_slopes_28 ?_
      simp (disch := omega) only [cm_,aq_,ay_,ag_,af_,bm_,ah_,ba_,bc_,c0_,bg_,b4_,am_,ae_,ac_,b2_,bq_,ed_,bs_,ao_,as_,a2_,az_,ar_,aw_,dw_,d6_,ea_,d3_,b5_,fl_,fn_,fh_,fu_,fz_,fq_,fk_,fr_,ft_,fs_,f0_,c5_,bt_,bd_,c3_,ct_,cx_,cr_,cf_,ch_,an_,cl_,dt_,dv_,du_,dr_,ds_,cd_,a9_,a8_,a7_,ce_,fv_,d1_,Int.toNat_natCast,di_,dm_,dn_,er_,gv_,g1_,g0_,gz_,g4_,gx_,gu_,gt_,go_,gn_,gs_,gm_,f4_,Int.add_zero,Int.zero_add,Int.ediv_one,Nat.reduceAdd,Nat.reduceMul,Int.reduceNeg,Nat.reduceLeDiff,List.length_cons,List.length_nil,true_and,and_true,Nat.zero_add,eq_self,Nat.reduceEqDiff,Int.reduceAdd,Int.reduceSub,Int.reduceMul,not_true_eq_false,not_false_eq_true,Nat.reduceLT,Int.reduceToNat,Int.reduceEq,Int.reduceNe,Int.reduceLT,Int.reduceLE,or_true,or_false,false_implies,true_implies]
      refine con_Mrefuse (k := 6) (by omega) ?_
      simp (disch := omega) only [cm_,aq_,ay_,ag_,af_,bm_,ah_,ba_,bc_,c0_,bg_,b4_,am_,ae_,ac_,b2_,bq_,ed_,bs_,ao_,as_,a2_,az_,ar_,aw_,dw_,d6_,ea_,d3_,b5_,fl_,fn_,fh_,fu_,fz_,fq_,fk_,fr_,ft_,fs_,f0_,c5_,bt_,bd_,c3_,ct_,cx_,cr_,cf_,ch_,an_,cl_,dt_,dv_,du_,dr_,ds_,cd_,a9_,a8_,a7_,ce_,fv_,d1_,Int.toNat_natCast,di_,dm_,dn_,er_,gv_,g1_,g0_,gz_,g4_,gx_,gu_,gt_,go_,gn_,gs_,gm_,f4_,Int.add_zero,Int.zero_add,Int.ediv_one,Nat.reduceAdd,Nat.reduceMul,Int.reduceNeg,Nat.reduceLeDiff,List.length_cons,List.length_nil,true_and,and_true,Nat.zero_add,eq_self,Nat.reduceEqDiff,Int.reduceAdd,Int.reduceSub,Int.reduceMul,not_true_eq_false,not_false_eq_true,Nat.reduceLT,Int.reduceToNat,Int.reduceEq,Int.reduceNe,Int.reduceLT,Int.reduceLE,or_true,or_false,false_implies,true_implies]
      exact k6 (by omega) c2 c3
    · simp (disch := omega) only [cm_,aq_,ay_,ag_,af_,bm_,ah_,ba_,bc_,c0_,bg_,b4_,am_,ae_,ac_,b2_,bq_,ed_,bs_,ao_,as_,a2_,az_,ar_,aw_,dw_,d6_,ea_,d3_,b5_,fl_,fn_,fh_,fu_,fz_,fq_,fk_,fr_,ft_,fs_,f0_,c5_,bt_,bd_,c3_,ct_,cx_,cr_,cf_,ch_,an_,cl_,dt_,dv_,du_,dr_,ds_,cd_,a9_,a8_,a7_,ce_,fv_,d1_,Int.toNat_natCast,di_,dm_,dn_,er_,gv_,g1_,g0_,gz_,g4_,gx_,gu_,gt_,go_,gn_,gs_,gm_,f4_,Int.add_zero,Int.zero_add,Int.ediv_one,Nat.reduceAdd,Nat.reduceMul,Int.reduceNeg,Nat.reduceLeDiff,List.length_cons,List.length_nil,true_and,and_true,Nat.zero_add,eq_self,Nat.reduceEqDiff,Int.reduceAdd,Int.reduceSub,Int.reduceMul,not_true_eq_false,not_false_eq_true,Nat.reduceLT,Int.reduceToNat,Int.reduceEq,Int.reduceNe,Int.reduceLT,Int.reduceLE,or_true,or_false,false_implies,true_implies]
      refine w_M_slopes_28 ?_
      simp (disch := omega) only [cm_,aq_,ay_,ag_,af_,bm_,ah_,ba_,bc_,c0_,bg_,b4_,am_,ae_,ac_,b2_,bq_,ed_,bs_,ao_,as_,a2_,az_,ar_,aw_,dw_,d6_,ea_,d3_,b5_,fl_,fn_,fh_,fu_,fz_,fq_,fk_,fr_,ft_,fs_,f0_,c5_,bt_,bd_,c3_,ct_,cx_,cr_,cf_,ch_,an_,cl_,dt_,dv_,du_,dr_,ds_,cd_,a9_,a8_,a7_,ce_,fv_,d1_,Int.toNat_natCast,di_,dm_,dn_,er_,gv_,g1_,g0_,gz_,g4_,gx_,gu_,gt_,go_,gn_,gs_,gm_,f4_,Int.add_zero,Int.zero_add,Int.ediv_one,Nat.reduceAdd,Nat.reduceMul,Int.reduceNeg,Nat.reduceLeDiff,List.length_cons,List.length_nil,true_and,and_true,Nat.zero_add,eq_self,Nat.reduceEqDiff,Int.reduceAdd,Int.reduceSub,Int.reduceMul,not_true_eq_false,not_false_eq_true,Nat.reduceLT,Int.reduceToNat,Int.reduceEq,Int.reduceNe,Int.reduceLT,Int.reduceLE,or_true,or_false,false_implies,true_implies]
      refine w_M_slopes_39 ?_
      simp (disch := omega) only [cm_,aq_,ay_,ag_,af_,bm_,ah_,ba_,bc_,c0_,bg_,b4_,am_,ae_,ac_,b2_,bq_,ed_,bs_,ao_,as_,a2_,az_,ar_,aw_,dw_,d6_,ea_,d3_,b5_,fl_,fn_,fh_,fu_,fz_,fq_,fk_,fr_,ft_,fs_,f0_,c5_,bt_,bd_,c3_,ct_,cx_,cr_,cf_,ch_,an_,cl_,dt_,dv_,du_,dr_,ds_,cd_,a9_,a8_,a7_,ce_,fv_,d1_,Int.toNat_natCast,di_,dm_,dn_,er_,gv_,g1_,g0_,gz_,g4_,gx_,gu_,gt_,go_,gn_,gs_,gm_,f4_,Int.add_zero,Int.zero_add,Int.ediv_one,Nat.reduceAdd,Nat.reduceMul,Int.reduceNeg,Nat.reduceLeDiff,List.length_cons,List.length_nil,true_and,and_true,Nat.zero_add,eq_self,Nat.reduceEqDiff,Int.reduceAdd,Int.reduceSub,Int.reduceMul,not_true_eq_false,not_false_eq_true,Nat.reduceLT,Int.reduceToNat,Int.reduceEq,Int.reduceNe,Int.reduceLT,Int.reduceLE,or_true,or_false,false_implies,true_implies]
      refine con_MkeepTurn (P := P) hTu hPz (fun x u hu => ?_)
      simp (disch := omega) only [cm_,aq_,ay_,ag_,af_,bm_,ah_,ba_,bc_,c0_,bg_,b4_,am_,ae_,ac_,b2_,bq_,ed_,bs_,ao_,as_,a2_,az_,ar_,aw_,dw_,d6_,ea_,d3_,b5_,fl_,fn_,fh_,fu_,fz_,fq_,fk_,fr_,ft_,fs_,f0_,c5_,bt_,bd_,c3_,ct_,cx_,cr_,cf_,ch_,an_,cl_,dt_,dv_,du_,dr_,ds_,cd_,a9_,a8_,a7_,ce_,fv_,d1_,Int.toNat_natCast,di_,dm_,dn_,er_,gv_,g1_,g0_,gz_,g4_,gx_,gu_,gt_,go_,gn_,gs_,gm_,f4_,Int.add_zero,Int.zero_add,Int.ediv_one,Nat.reduceAdd,Nat.reduceMul,Int.reduceNeg,Nat.reduceLeDiff,List.length_cons,List.length_nil,true_and,and_true,Nat.zero_add,eq_self,Nat.reduceEqDiff,Int.reduceAdd,Int.reduceSub,Int.reduceMul,not_true_eq_false,not_false_eq_true,Nat.reduceLT,Int.reduceToNat,Int.reduceEq,Int.reduceNe,Int.reduceLT,Int.reduceLE,or_true,or_false,false_implies,true_implies]
      refine ⟨by omega, by omega, ?_⟩
      exact ok (by omega) c2 c3 _ ⟨_, _, _, _, _, _, _, _, _, _, _, _, _, _, _, rfl, hIg, hu, by omega⟩
  · simp (disch := omega) only [cm_,aq_,ay_,ag_,af_,bm_,ah_,ba_,bc_,c0_,bg_,b4_,am_,ae_,ac_,b2_,bq_,ed_,bs_,ao_,as_,a2_,az_,ar_,aw_,dw_,d6_,ea_,d3_,b5_,fl_,fn_,fh_,fu_,fz_,fq_,fk_,fr_,ft_,fs_,f0_,c5_,bt_,bd_,c3_,ct_,cx_,cr_,cf_,ch_,an_,cl_,dt_,dv_,du_,dr_,ds_,cd_,a9_,a8_,a7_,ce_,fv_,d1_,Int.toNat_natCast,di_,dm_,dn_,er_,gv_,g1_,g0_,gz_,g4_,gx_,gu_,gt_,go_,gn_,gs_,gm_,f4_,Int.add_zero,Int.zero_add,Int.ediv_one,Nat.reduceAdd,Nat.reduceMul,Int.reduceNeg,Nat.reduceLeDiff,List.length_cons,List.length_nil,true_and,and_true,Nat.zero_add,eq_self,Nat.reduceEqDiff,Int.reduceAdd,Int.reduceSub,Int.reduceMul,not_true_eq_false,not_false_eq_true,Nat.reduceLT,Int.reduceToNat,Int.reduceEq,Int.reduceNe,Int.reduceLT,Int.reduceLE,or_true,or_false,false_implies,true_implies]
    refine w_M_slopes_27 ?_
    simp (disch := omega) only [cm_,aq_,ay_,ag_,af_,bm_,ah_,ba_,bc_,c0_,bg_,b4_,am_,ae_,ac_,b2_,bq_,ed_,bs_,ao_,as_,a2_,az_,ar_,aw_,dw_,d6_,ea_,d3_,b5_,fl_,fn_,fh_,fu_,fz_,fq_,fk_,fr_,ft_,fs_,f0_,c5_,bt_,bd_,c3_,ct_,cx_,cr_,cf_,ch_,an_,cl_,dt_,dv_,du_,dr_,ds_,cd_,a9_,a8_,a7_,ce_,fv_,d1_,Int.toNat_natCast,di_,dm_,dn_,er_,gv_,g1_,g0_,gz_,g4_,gx_,gu_,gt_,go_,gn_,gs_,gm_,f4_,Int.add_zero,Int.zero_add,Int.ediv_one,Nat.reduceAdd,Nat.reduceMul,Int.reduceNeg,Nat.reduceLeDiff,List.length_cons,List.length_nil,true_and,and_true,Nat.zero_add,eq_self,Nat.reduceEqDiff,Int.reduceAdd,Int.reduceSub,Int.reduceMul,not_true_eq_false,not_false_eq_true,Nat.reduceLT,Int.reduceToNat,Int.reduceEq,Int.reduceNe,Int.reduceLT,Int.reduceLE,or_true,or_false,false_implies,true_implies]
    refine w_M_slopes_28 ?_
    simp (disch := omega) only [cm_,aq_,ay_,ag_,af_,bm_,ah_,ba_,bc_,c0_,bg_,b4_,am_,ae_,ac_,b2_,bq_,ed_,bs_,ao_,as_,a2_,az_,ar_,aw_,dw_,d6_,ea_,d3_,b5_,fl_,fn_,fh_,fu_,fz_,fq_,fk_,fr_,ft_,fs_,f0_,c5_,bt_,bd_,c3_,ct_,cx_,cr_,cf_,ch_,an_,cl_,dt_,dv_,du_,dr_,ds_,cd_,a9_,a8_,a7_,ce_,fv_,d1_,Int.toNat_natCast,di_,dm_,dn_,er_,gv_,g1_,g0_,gz_,g4_,gx_,gu_,gt_,go_,gn_,gs_,gm_,f4_,Int.add_zero,Int.zero_add,Int.ediv_one,Nat.reduceAdd,Nat.reduceMul,Int.reduceNeg,Nat.reduceLeDiff,List.length_cons,List.length_nil,true_and,and_true,Nat.zero_add,eq_self,Nat.reduceEqDiff,Int.reduceAdd,Int.reduceSub,Int.reduceMul,not_true_eq_false,not_false_eq_true,Nat.reduceLT,Int.reduceToNat,Int.reduceEq,Int.reduceNe,Int.reduceLT,Int.reduceLE,or_true,or_false,false_implies,true_implies]
    refine con_Mrefuse (k := 1) (by omega) ?_
    simp (disch := omega) only [cm_,aq_,ay_,ag_,af_,bm_,ah_,ba_,bc_,c0_,bg_,b4_,am_,ae_,ac_,b2_,bq_,ed_,bs_,ao_,as_,a2_,az_,ar_,aw_,dw_,d6_,ea_,d3_,b5_,fl_,fn_,fh_,fu_,fz_,fq_,fk_,fr_,ft_,fs_,f0_,c5_,bt_,bd_,c3_,ct_,cx_,cr_,cf_,ch_,an_,cl_,dt_,dv_,du_,dr_,ds_,cd_,a9_,a8_,a7_,ce_,fv_,d1_,Int.toNat_natCast,di_,dm_,dn_,er_,gv_,g1_,g0_,gz_,g4_,gx_,gu_,gt_,go_,gn_,gs_,gm_,f4_,Int.add_zero,Int.zero_add,Int.ediv_one,Nat.reduceAdd,Nat.reduceMul,Int.reduceNeg,Nat.reduceLeDiff,List.length_cons,List.length_nil,true_and,and_true,Nat.zero_add,eq_self,Nat.reduceEqDiff,Int.reduceAdd,Int.reduceSub,Int.reduceMul,not_true_eq_false,not_false_eq_true,Nat.reduceLT,Int.reduceToNat,Int.reduceEq,Int.reduceNe,Int.reduceLT,Int.reduceLE,or_true,or_false,false_implies,true_implies]
    exact k1 (by omega)
theorem M_loads {v : Int} (hv : inI v) (hI : GI R)  (W : (MW R I im P pz lt lsz tn tsz rf bb h))
    (r4 : v < 1 → ∀ h, (MW R I im P pz lt lsz tn tsz (rfU rf 4) bb h) → Q (some (.int (zI (-4)))) h)
    (r6 : ¬ v < 1 → 60 < v → ∀ h, (MW R I im P pz lt lsz tn tsz (rfU rf 6) bb h) → Q (some (.int (zI (-6)))) h)
    (ok : ¬ v < 1 → ¬ 60 < v → ∀ h, (MW (sLoad R v) I im (pushP P pz R) (min 8 (pz + 1)) lt lsz tn tsz rf bb h) → Q (some (.int (zI (rLoad R)))) h) : Con M_M_loads [.ref 90, .int (zI v)] h Q := by
  obtain ⟨a0, ib, sm, pl, lo, nu, kp, ig, p0, tk, ki, tu, tf, ga, sd, rfl, hIg, hTu, hPz⟩ := W
  have k4 := fun q => r4 q _ ⟨a0, ib, sm, pl, lo, nu, kp, ig, p0, tk, ki, tu, tf, ga, sd, rfl, hIg, hTu, hPz⟩
  have k6 := fun q q2 => r6 q q2 _ ⟨a0, ib, sm, pl, lo, nu, kp, ig, p0, tk, ki, tu, tf, ga, sd, rfl, hIg, hTu, hPz⟩
  refine g8_ (L := [some (.ref 90), some (.int (zI v)), none, none]) ok_M_loads (Nat.le_of_ble_eq_true rfl) rfl ?_
  refine w_M_loads_0 ?_
  simp (disch := omega) only [cm_,aq_,ay_,ag_,af_,bm_,ah_,ba_,bc_,c0_,bg_,b4_,am_,ae_,ac_,b2_,bq_,ed_,bs_,ao_,as_,a2_,az_,ar_,aw_,dw_,d6_,ea_,d3_,b5_,fl_,fn_,fh_,fu_,fz_,fq_,fk_,fr_,ft_,fs_,f0_,c5_,bt_,bd_,c3_,ct_,cx_,cr_,cf_,ch_,an_,cl_,dt_,dv_,du_,dr_,ds_,cd_,a9_,a8_,a7_,ce_,fv_,d1_,Int.toNat_natCast,di_,dm_,dn_,er_,gv_,g1_,g0_,gz_,g4_,gx_,gu_,gt_,go_,gn_,gs_,gm_,f4_,Int.add_zero,Int.zero_add,Int.ediv_one,Nat.reduceAdd,Nat.reduceMul,Int.reduceNeg,Nat.reduceLeDiff,List.length_cons,List.length_nil,true_and,and_true,Nat.zero_add,eq_self,Nat.reduceEqDiff,Int.reduceAdd,Int.reduceSub,Int.reduceMul,not_true_eq_false,not_false_eq_true,Nat.reduceLT,Int.reduceToNat,Int.reduceEq,Int.reduceNe,Int.reduceLT,Int.reduceLE,or_true,or_false,false_implies,true_implies]
  refine con_MwrongNumber hv (by unfold inI; omega) (by unfold inI; omega) (fun c2 => ?_) (fun c2 c3 => ?_) (fun c2 c3 => ?_)
  · simp (disch := omega) only [cm_,aq_,ay_,ag_,af_,bm_,ah_,ba_,bc_,c0_,bg_,b4_,am_,ae_,ac_,b2_,bq_,ed_,bs_,ao_,as_,a2_,az_,ar_,aw_,dw_,d6_,ea_,d3_,b5_,fl_,fn_,fh_,fu_,fz_,fq_,fk_,fr_,ft_,fs_,f0_,c5_,bt_,bd_,c3_,ct_,cx_,cr_,cf_,ch_,an_,cl_,dt_,dv_,du_,dr_,ds_,cd_,a9_,a8_,a7_,ce_,fv_,d1_,Int.toNat_natCast,di_,dm_,dn_,er_,gv_,g1_,g0_,gz_,g4_,gx_,gu_,gt_,go_,gn_,gs_,gm_,f4_,Int.add_zero,Int.zero_add,Int.ediv_one,Nat.reduceAdd,Nat.reduceMul,Int.reduceNeg,Nat.reduceLeDiff,List.length_cons,List.length_nil,true_and,and_true,Nat.zero_add,eq_self,Nat.reduceEqDiff,Int.reduceAdd,Int.reduceSub,Int.reduceMul,not_true_eq_false,not_false_eq_true,Nat.reduceLT,Int.reduceToNat,Int.reduceEq,Int.reduceNe,Int.reduceLT,Int.reduceLE,or_true,or_false,false_implies,true_implies]
    refine con_Mrefuse (k := 4) (by omega) ?_
    simp (disch := omega) only [cm_,aq_,ay_,ag_,af_,bm_,ah_,ba_,bc_,c0_,bg_,b4_,am_,ae_,ac_,b2_,bq_,ed_,bs_,ao_,as_,a2_,az_,ar_,aw_,dw_,d6_,ea_,d3_,b5_,fl_,fn_,fh_,fu_,fz_,fq_,fk_,fr_,ft_,fs_,f0_,c5_,bt_,bd_,c3_,ct_,cx_,cr_,cf_,ch_,an_,cl_,dt_,dv_,du_,dr_,ds_,cd_,a9_,a8_,a7_,ce_,fv_,d1_,Int.toNat_natCast,di_,dm_,dn_,er_,gv_,g1_,g0_,gz_,g4_,gx_,gu_,gt_,go_,gn_,gs_,gm_,f4_,Int.add_zero,Int.zero_add,Int.ediv_one,Nat.reduceAdd,Nat.reduceMul,Int.reduceNeg,Nat.reduceLeDiff,List.length_cons,List.length_nil,true_and,and_true,Nat.zero_add,eq_self,Nat.reduceEqDiff,Int.reduceAdd,Int.reduceSub,Int.reduceMul,not_true_eq_false,not_false_eq_true,Nat.reduceLT,Int.reduceToNat,Int.reduceEq,Int.reduceNe,Int.reduceLT,Int.reduceLE,or_true,or_false,false_implies,true_implies]
    exact k4 c2
  · simp (disch := omega) only [cm_,aq_,ay_,ag_,af_,bm_,ah_,ba_,bc_,c0_,bg_,b4_,am_,ae_,ac_,b2_,bq_,ed_,bs_,ao_,as_,a2_,az_,ar_,aw_,dw_,d6_,ea_,d3_,b5_,fl_,fn_,fh_,fu_,fz_,fq_,fk_,fr_,ft_,fs_,f0_,c5_,bt_,bd_,c3_,ct_,cx_,cr_,cf_,ch_,an_,cl_,dt_,dv_,du_,dr_,ds_,cd_,a9_,a8_,a7_,ce_,fv_,d1_,Int.toNat_natCast,di_,dm_,dn_,er_,gv_,g1_,g0_,gz_,g4_,gx_,gu_,gt_,go_,gn_,gs_,gm_,f4_,Int.add_zero,Int.zero_add,Int.ediv_one,Nat.reduceAdd,Nat.reduceMul,Int.reduceNeg,Nat.reduceLeDiff,List.length_cons,List.length_nil,true_and,and_true,Nat.zero_add,eq_self,Nat.reduceEqDiff,Int.reduceAdd,Int.reduceSub,Int.reduceMul,not_true_eq_false,not_false_eq_true,Nat.reduceLT,Int.reduceToNat,Int.reduceEq,Int.reduceNe,Int.reduceLT,Int.reduceLE,or_true,or_false,false_implies,true_implies]
    refine con_Mrefuse (k := 6) (by omega) ?_
    simp (disch := omega) only [cm_,aq_,ay_,ag_,af_,bm_,ah_,ba_,bc_,c0_,bg_,b4_,am_,ae_,ac_,b2_,bq_,ed_,bs_,ao_,as_,a2_,az_,ar_,aw_,dw_,d6_,ea_,d3_,b5_,fl_,fn_,fh_,fu_,fz_,fq_,fk_,fr_,ft_,fs_,f0_,c5_,bt_,bd_,c3_,ct_,cx_,cr_,cf_,ch_,an_,cl_,dt_,dv_,du_,dr_,ds_,cd_,a9_,a8_,a7_,ce_,fv_,d1_,Int.toNat_natCast,di_,dm_,dn_,er_,gv_,g1_,g0_,gz_,g4_,gx_,gu_,gt_,go_,gn_,gs_,gm_,f4_,Int.add_zero,Int.zero_add,Int.ediv_one,Nat.reduceAdd,Nat.reduceMul,Int.reduceNeg,Nat.reduceLeDiff,List.length_cons,List.length_nil,true_and,and_true,Nat.zero_add,eq_self,Nat.reduceEqDiff,Int.reduceAdd,Int.reduceSub,Int.reduceMul,not_true_eq_false,not_false_eq_true,Nat.reduceLT,Int.reduceToNat,Int.reduceEq,Int.reduceNe,Int.reduceLT,Int.reduceLE,or_true,or_false,false_implies,true_implies]
    exact k6 c2 c3
  · simp (disch := omega) only [cm_,aq_,ay_,ag_,af_,bm_,ah_,ba_,bc_,c0_,bg_,b4_,am_,ae_,ac_,b2_,bq_,ed_,bs_,ao_,as_,a2_,az_,ar_,aw_,dw_,d6_,ea_,d3_,b5_,fl_,fn_,fh_,fu_,fz_,fq_,fk_,fr_,ft_,fs_,f0_,c5_,bt_,bd_,c3_,ct_,cx_,cr_,cf_,ch_,an_,cl_,dt_,dv_,du_,dr_,ds_,cd_,a9_,a8_,a7_,ce_,fv_,d1_,Int.toNat_natCast,di_,dm_,dn_,er_,gv_,g1_,g0_,gz_,g4_,gx_,gu_,gt_,go_,gn_,gs_,gm_,f4_,Int.add_zero,Int.zero_add,Int.ediv_one,Nat.reduceAdd,Nat.reduceMul,Int.reduceNeg,Nat.reduceLeDiff,List.length_cons,List.length_nil,true_and,and_true,Nat.zero_add,eq_self,Nat.reduceEqDiff,Int.reduceAdd,Int.reduceSub,Int.reduceMul,not_true_eq_false,not_false_eq_true,Nat.reduceLT,Int.reduceToNat,Int.reduceEq,Int.reduceNe,Int.reduceLT,Int.reduceLE,or_true,or_false,false_implies,true_implies]
    refine w_M_loads_23 ?_
    simp (disch := omega) only [cm_,aq_,ay_,ag_,af_,bm_,ah_,ba_,bc_,c0_,bg_,b4_,am_,ae_,ac_,b2_,bq_,ed_,bs_,ao_,as_,a2_,az_,ar_,aw_,dw_,d6_,ea_,d3_,b5_,fl_,fn_,fh_,fu_,fz_,fq_,fk_,fr_,ft_,fs_,f0_,c5_,bt_,bd_,c3_,ct_,cx_,cr_,cf_,ch_,an_,cl_,dt_,dv_,du_,dr_,ds_,cd_,a9_,a8_,a7_,ce_,fv_,d1_,Int.toNat_natCast,di_,dm_,dn_,er_,gv_,g1_,g0_,gz_,g4_,gx_,gu_,gt_,go_,gn_,gs_,gm_,f4_,Int.add_zero,Int.zero_add,Int.ediv_one,Nat.reduceAdd,Nat.reduceMul,Int.reduceNeg,Nat.reduceLeDiff,List.length_cons,List.length_nil,true_and,and_true,Nat.zero_add,eq_self,Nat.reduceEqDiff,Int.reduceAdd,Int.reduceSub,Int.reduceMul,not_true_eq_false,not_false_eq_true,Nat.reduceLT,Int.reduceToNat,Int.reduceEq,Int.reduceNe,Int.reduceLT,Int.reduceLE,or_true,or_false,false_implies,true_implies]
    refine con_MkeepTurn (P := P) hTu hPz (fun x u hu => ?_)
    simp (disch := omega) only [cm_,aq_,ay_,ag_,af_,bm_,ah_,ba_,bc_,c0_,bg_,b4_,am_,ae_,ac_,b2_,bq_,ed_,bs_,ao_,as_,a2_,az_,ar_,aw_,dw_,d6_,ea_,d3_,b5_,fl_,fn_,fh_,fu_,fz_,fq_,fk_,fr_,ft_,fs_,f0_,c5_,bt_,bd_,c3_,ct_,cx_,cr_,cf_,ch_,an_,cl_,dt_,dv_,du_,dr_,ds_,cd_,a9_,a8_,a7_,ce_,fv_,d1_,Int.toNat_natCast,di_,dm_,dn_,er_,gv_,g1_,g0_,gz_,g4_,gx_,gu_,gt_,go_,gn_,gs_,gm_,f4_,Int.add_zero,Int.zero_add,Int.ediv_one,Nat.reduceAdd,Nat.reduceMul,Int.reduceNeg,Nat.reduceLeDiff,List.length_cons,List.length_nil,true_and,and_true,Nat.zero_add,eq_self,Nat.reduceEqDiff,Int.reduceAdd,Int.reduceSub,Int.reduceMul,not_true_eq_false,not_false_eq_true,Nat.reduceLT,Int.reduceToNat,Int.reduceEq,Int.reduceNe,Int.reduceLT,Int.reduceLE,or_true,or_false,false_implies,true_implies]
    exact ok c2 c3 _ ⟨_, _, _, _, _, _, _, _, _, _, _, _, _, _, _, rfl, hIg, hu, by omega⟩
theorem M_snows {v : Int} (hv : inI v) (hI : GI R)  (W : (MW R I im P pz lt lsz tn tsz rf bb h))
    (r4 : v < 0 → ∀ h, (MW R I im P pz lt lsz tn tsz (rfU rf 4) bb h) → Q (some (.int (zI (-4)))) h)
    (r6 : ¬ v < 0 → 9 < v → ∀ h, (MW R I im P pz lt lsz tn tsz (rfU rf 6) bb h) → Q (some (.int (zI (-6)))) h)
    (ok : ¬ v < 0 → ¬ 9 < v → ∀ h, (MW (sSnow R v) I im P (0) lt lsz tn tsz rf bb h) → Q (some (.int (zI (rSnow R)))) h) : Con M_M_snows [.ref 90, .int (zI v)] h Q := by
  obtain ⟨a0, ib, sm, pl, lo, nu, kp, ig, p0, tk, ki, tu, tf, ga, sd, rfl, hIg, hTu, hPz⟩ := W
  have k4 := fun q => r4 q _ ⟨a0, ib, sm, pl, lo, nu, kp, ig, p0, tk, ki, tu, tf, ga, sd, rfl, hIg, hTu, hPz⟩
  have k6 := fun q q2 => r6 q q2 _ ⟨a0, ib, sm, pl, lo, nu, kp, ig, p0, tk, ki, tu, tf, ga, sd, rfl, hIg, hTu, hPz⟩
  refine g8_ (L := [some (.ref 90), some (.int (zI v)), none, none]) ok_M_snows (Nat.le_of_ble_eq_true rfl) rfl ?_
  refine w_M_snows_0 ?_
  simp (disch := omega) only [cm_,aq_,ay_,ag_,af_,bm_,ah_,ba_,bc_,c0_,bg_,b4_,am_,ae_,ac_,b2_,bq_,ed_,bs_,ao_,as_,a2_,az_,ar_,aw_,dw_,d6_,ea_,d3_,b5_,fl_,fn_,fh_,fu_,fz_,fq_,fk_,fr_,ft_,fs_,f0_,c5_,bt_,bd_,c3_,ct_,cx_,cr_,cf_,ch_,an_,cl_,dt_,dv_,du_,dr_,ds_,cd_,a9_,a8_,a7_,ce_,fv_,d1_,Int.toNat_natCast,di_,dm_,dn_,er_,gv_,g1_,g0_,gz_,g4_,gx_,gu_,gt_,go_,gn_,gs_,gm_,f4_,Int.add_zero,Int.zero_add,Int.ediv_one,Nat.reduceAdd,Nat.reduceMul,Int.reduceNeg,Nat.reduceLeDiff,List.length_cons,List.length_nil,true_and,and_true,Nat.zero_add,eq_self,Nat.reduceEqDiff,Int.reduceAdd,Int.reduceSub,Int.reduceMul,not_true_eq_false,not_false_eq_true,Nat.reduceLT,Int.reduceToNat,Int.reduceEq,Int.reduceNe,Int.reduceLT,Int.reduceLE,or_true,or_false,false_implies,true_implies]
  refine con_MwrongNumber hv (by unfold inI; omega) (by unfold inI; omega) (fun c2 => ?_) (fun c2 c3 => ?_) (fun c2 c3 => ?_)
  · simp (disch := omega) only [cm_,aq_,ay_,ag_,af_,bm_,ah_,ba_,bc_,c0_,bg_,b4_,am_,ae_,ac_,b2_,bq_,ed_,bs_,ao_,as_,a2_,az_,ar_,aw_,dw_,d6_,ea_,d3_,b5_,fl_,fn_,fh_,fu_,fz_,fq_,fk_,fr_,ft_,fs_,f0_,c5_,bt_,bd_,c3_,ct_,cx_,cr_,cf_,ch_,an_,cl_,dt_,dv_,du_,dr_,ds_,cd_,a9_,a8_,a7_,ce_,fv_,d1_,Int.toNat_natCast,di_,dm_,dn_,er_,gv_,g1_,g0_,gz_,g4_,gx_,gu_,gt_,go_,gn_,gs_,gm_,f4_,Int.add_zero,Int.zero_add,Int.ediv_one,Nat.reduceAdd,Nat.reduceMul,Int.reduceNeg,Nat.reduceLeDiff,List.length_cons,List.length_nil,true_and,and_true,Nat.zero_add,eq_self,Nat.reduceEqDiff,Int.reduceAdd,Int.reduceSub,Int.reduceMul,not_true_eq_false,not_false_eq_true,Nat.reduceLT,Int.reduceToNat,Int.reduceEq,Int.reduceNe,Int.reduceLT,Int.reduceLE,or_true,or_false,false_implies,true_implies]
    refine con_Mrefuse (k := 4) (by omega) ?_
    simp (disch := omega) only [cm_,aq_,ay_,ag_,af_,bm_,ah_,ba_,bc_,c0_,bg_,b4_,am_,ae_,ac_,b2_,bq_,ed_,bs_,ao_,as_,a2_,az_,ar_,aw_,dw_,d6_,ea_,d3_,b5_,fl_,fn_,fh_,fu_,fz_,fq_,fk_,fr_,ft_,fs_,f0_,c5_,bt_,bd_,c3_,ct_,cx_,cr_,cf_,ch_,an_,cl_,dt_,dv_,du_,dr_,ds_,cd_,a9_,a8_,a7_,ce_,fv_,d1_,Int.toNat_natCast,di_,dm_,dn_,er_,gv_,g1_,g0_,gz_,g4_,gx_,gu_,gt_,go_,gn_,gs_,gm_,f4_,Int.add_zero,Int.zero_add,Int.ediv_one,Nat.reduceAdd,Nat.reduceMul,Int.reduceNeg,Nat.reduceLeDiff,List.length_cons,List.length_nil,true_and,and_true,Nat.zero_add,eq_self,Nat.reduceEqDiff,Int.reduceAdd,Int.reduceSub,Int.reduceMul,not_true_eq_false,not_false_eq_true,Nat.reduceLT,Int.reduceToNat,Int.reduceEq,Int.reduceNe,Int.reduceLT,Int.reduceLE,or_true,or_false,false_implies,true_implies]
    exact k4 c2
  · simp (disch := omega) only [cm_,aq_,ay_,ag_,af_,bm_,ah_,ba_,bc_,c0_,bg_,b4_,am_,ae_,ac_,b2_,bq_,ed_,bs_,ao_,as_,a2_,az_,ar_,aw_,dw_,d6_,ea_,d3_,b5_,fl_,fn_,fh_,fu_,fz_,fq_,fk_,fr_,ft_,fs_,f0_,c5_,bt_,bd_,c3_,ct_,cx_,cr_,cf_,ch_,an_,cl_,dt_,dv_,du_,dr_,ds_,cd_,a9_,a8_,a7_,ce_,fv_,d1_,Int.toNat_natCast,di_,dm_,dn_,er_,gv_,g1_,g0_,gz_,g4_,gx_,gu_,gt_,go_,gn_,gs_,gm_,f4_,Int.add_zero,Int.zero_add,Int.ediv_one,Nat.reduceAdd,Nat.reduceMul,Int.reduceNeg,Nat.reduceLeDiff,List.length_cons,List.length_nil,true_and,and_true,Nat.zero_add,eq_self,Nat.reduceEqDiff,Int.reduceAdd,Int.reduceSub,Int.reduceMul,not_true_eq_false,not_false_eq_true,Nat.reduceLT,Int.reduceToNat,Int.reduceEq,Int.reduceNe,Int.reduceLT,Int.reduceLE,or_true,or_false,false_implies,true_implies]
    refine con_Mrefuse (k := 6) (by omega) ?_
    simp (disch := omega) only [cm_,aq_,ay_,ag_,af_,bm_,ah_,ba_,bc_,c0_,bg_,b4_,am_,ae_,ac_,b2_,bq_,ed_,bs_,ao_,as_,a2_,az_,ar_,aw_,dw_,d6_,ea_,d3_,b5_,fl_,fn_,fh_,fu_,fz_,fq_,fk_,fr_,ft_,fs_,f0_,c5_,bt_,bd_,c3_,ct_,cx_,cr_,cf_,ch_,an_,cl_,dt_,dv_,du_,dr_,ds_,cd_,a9_,a8_,a7_,ce_,fv_,d1_,Int.toNat_natCast,di_,dm_,dn_,er_,gv_,g1_,g0_,gz_,g4_,gx_,gu_,gt_,go_,gn_,gs_,gm_,f4_,Int.add_zero,Int.zero_add,Int.ediv_one,Nat.reduceAdd,Nat.reduceMul,Int.reduceNeg,Nat.reduceLeDiff,List.length_cons,List.length_nil,true_and,and_true,Nat.zero_add,eq_self,Nat.reduceEqDiff,Int.reduceAdd,Int.reduceSub,Int.reduceMul,not_true_eq_false,not_false_eq_true,Nat.reduceLT,Int.reduceToNat,Int.reduceEq,Int.reduceNe,Int.reduceLT,Int.reduceLE,or_true,or_false,false_implies,true_implies]
    exact k6 c2 c3
  · simp (disch := omega) only [cm_,aq_,ay_,ag_,af_,bm_,ah_,ba_,bc_,c0_,bg_,b4_,am_,ae_,ac_,b2_,bq_,ed_,bs_,ao_,as_,a2_,az_,ar_,aw_,dw_,d6_,ea_,d3_,b5_,fl_,fn_,fh_,fu_,fz_,fq_,fk_,fr_,ft_,fs_,f0_,c5_,bt_,bd_,c3_,ct_,cx_,cr_,cf_,ch_,an_,cl_,dt_,dv_,du_,dr_,ds_,cd_,a9_,a8_,a7_,ce_,fv_,d1_,Int.toNat_natCast,di_,dm_,dn_,er_,gv_,g1_,g0_,gz_,g4_,gx_,gu_,gt_,go_,gn_,gs_,gm_,f4_,Int.add_zero,Int.zero_add,Int.ediv_one,Nat.reduceAdd,Nat.reduceMul,Int.reduceNeg,Nat.reduceLeDiff,List.length_cons,List.length_nil,true_and,and_true,Nat.zero_add,eq_self,Nat.reduceEqDiff,Int.reduceAdd,Int.reduceSub,Int.reduceMul,not_true_eq_false,not_false_eq_true,Nat.reduceLT,Int.reduceToNat,Int.reduceEq,Int.reduceNe,Int.reduceLT,Int.reduceLE,or_true,or_false,false_implies,true_implies]
    refine w_M_snows_23 ?_
    simp (disch := omega) only [cm_,aq_,ay_,ag_,af_,bm_,ah_,ba_,bc_,c0_,bg_,b4_,am_,ae_,ac_,b2_,bq_,ed_,bs_,ao_,as_,a2_,az_,ar_,aw_,dw_,d6_,ea_,d3_,b5_,fl_,fn_,fh_,fu_,fz_,fq_,fk_,fr_,ft_,fs_,f0_,c5_,bt_,bd_,c3_,ct_,cx_,cr_,cf_,ch_,an_,cl_,dt_,dv_,du_,dr_,ds_,cd_,a9_,a8_,a7_,ce_,fv_,d1_,Int.toNat_natCast,di_,dm_,dn_,er_,gv_,g1_,g0_,gz_,g4_,gx_,gu_,gt_,go_,gn_,gs_,gm_,f4_,Int.add_zero,Int.zero_add,Int.ediv_one,Nat.reduceAdd,Nat.reduceMul,Int.reduceNeg,Nat.reduceLeDiff,List.length_cons,List.length_nil,true_and,and_true,Nat.zero_add,eq_self,Nat.reduceEqDiff,Int.reduceAdd,Int.reduceSub,Int.reduceMul,not_true_eq_false,not_false_eq_true,Nat.reduceLT,Int.reduceToNat,Int.reduceEq,Int.reduceNe,Int.reduceLT,Int.reduceLE,or_true,or_false,false_implies,true_implies]
    exact ok c2 c3 _ ⟨_, _, _, _, _, _, _, _, _, _, _, _, _, _, _, rfl, hIg, fun i hi => by omega, by omega⟩
end E2
end
/-! daysM -/
section
/-! ===== the reference's methods with days ===== -/
section E3
variable {R I : RR} {im : Int} {P : Nat → RR} {pz : Int} {lt : Nat → Int} {lsz : Int} {tn : Nat → Int} {tsz : Int} {rf : Nat → Int} {bb h : AH} {Q : Option Value → AH → Prop}
theorem M_days {n : Int} (hn : inI n) (hD : 0 ≤ hh_ R ∧ hh_ R ≤ 999) (hI : GI R)  (W : (MW R I im P pz lt lsz tn tsz rf bb h))
    (r4 : n < 1 → ∀ h, (MW R I im P pz lt lsz tn tsz (rfU rf 4) bb h) → Q (some (.int (zI (-4)))) h)
    (r6 : ¬ n < 1 → (60 < n ∨ 999 < hh_ R + n) → ∀ h, (MW R I im P pz lt lsz tn tsz (rfU rf 6) bb h) → Q (some (.int (zI (-6)))) h)
    (ok : ¬ n < 1 → ¬ 60 < n → ¬ 999 < hh_ R + n → ∀ h, (MW (g6_ R n.toNat) I im (pushP P pz R) (min 8 (pz + 1)) lt lsz tn tsz rf bb h) → Q (some (.int (zI (hd_ (g6_ R n.toNat))))) h) : Con M_M_days [.ref 90, .int (zI n)] h Q := by
  obtain ⟨a0, ib, sm, pl, lo, nu, kp, ig, p0, tk, ki, tu, tf, ga, sd, rfl, hIg, hTu, hPz⟩ := W
  obtain ⟨n1, n2⟩ := id hn
  have k4 := fun q => r4 q _ ⟨a0, ib, sm, pl, lo, nu, kp, ig, p0, tk, ki, tu, tf, ga, sd, rfl, hIg, hTu, hPz⟩
  have k6 := fun q q2 => r6 q q2 _ ⟨a0, ib, sm, pl, lo, nu, kp, ig, p0, tk, ki, tu, tf, ga, sd, rfl, hIg, hTu, hPz⟩
  refine g8_ (L := [some (.ref 90), some (.int (zI n)), none]) ok_M_days (Nat.le_of_ble_eq_true rfl) rfl ?_
  refine w_M_days_0 ?_
  simp (disch := omega) only [cm_,aq_,ay_,ag_,b8_,af_,ba_,bc_,bx_,bg_,am_,ae_,ac_,b2_,bq_,ed_,bs_,ao_,a2_,az_,ar_,aw_,dw_,d6_,ea_,d3_,b5_,b1_,fl_,fn_,fh_,fu_,fp_,fz_,fq_,fk_,fr_,ft_,fs_,f0_,c5_,bt_,bd_,c3_,ck_,ct_,cx_,cr_,cj_,cf_,ch_,ci_,an_,cl_,dr_,cd_,a9_,a8_,a7_,ce_,fv_,d0_,cs_,Int.toNat_natCast,f3_,di_,dm_,dn_,gv_,g4_,gh_,gj_,gu_,gs_,f8_,f4_,Int.add_zero,Int.zero_add,Int.ediv_one,Nat.reduceAdd,Nat.reduceMul,Int.reduceNeg,Nat.reduceLeDiff,List.length_cons,List.length_nil,true_and,and_true,Nat.zero_add,eq_self,Nat.reduceEqDiff,Int.reduceAdd,Int.reduceSub,Int.reduceMul,not_true_eq_false,not_false_eq_true,Nat.reduceLT,Int.reduceToNat,Int.reduceEq,Int.reduceNe,Int.reduceLT,Int.reduceLE,or_true,and_false,false_and,false_implies,true_implies]
  refine con_MwrongNumber hn (by unfold inI; omega) (by unfold inI; omega) (fun c2 => ?_) (fun c2 c3 => ?_) (fun c2 c3 => ?_)
  · simp (disch := omega) only [cm_,aq_,ay_,ag_,b8_,af_,ba_,bc_,bx_,bg_,am_,ae_,ac_,b2_,bq_,ed_,bs_,ao_,a2_,az_,ar_,aw_,dw_,d6_,ea_,d3_,b5_,b1_,fl_,fn_,fh_,fu_,fp_,fz_,fq_,fk_,fr_,ft_,fs_,f0_,c5_,bt_,bd_,c3_,ck_,ct_,cx_,cr_,cj_,cf_,ch_,ci_,an_,cl_,dr_,cd_,a9_,a8_,a7_,ce_,fv_,d0_,cs_,Int.toNat_natCast,f3_,di_,dm_,dn_,gv_,g4_,gh_,gj_,gu_,gs_,f8_,f4_,Int.add_zero,Int.zero_add,Int.ediv_one,Nat.reduceAdd,Nat.reduceMul,Int.reduceNeg,Nat.reduceLeDiff,List.length_cons,List.length_nil,true_and,and_true,Nat.zero_add,eq_self,Nat.reduceEqDiff,Int.reduceAdd,Int.reduceSub,Int.reduceMul,not_true_eq_false,not_false_eq_true,Nat.reduceLT,Int.reduceToNat,Int.reduceEq,Int.reduceNe,Int.reduceLT,Int.reduceLE,or_true,and_false,false_and,false_implies,true_implies]
    refine w_M_days_34 ?_
    simp (disch := omega) only [cm_,aq_,ay_,ag_,b8_,af_,ba_,bc_,bx_,bg_,am_,ae_,ac_,b2_,bq_,ed_,bs_,ao_,a2_,az_,ar_,aw_,dw_,d6_,ea_,d3_,b5_,b1_,fl_,fn_,fh_,fu_,fp_,fz_,fq_,fk_,fr_,ft_,fs_,f0_,c5_,bt_,bd_,c3_,ck_,ct_,cx_,cr_,cj_,cf_,ch_,ci_,an_,cl_,dr_,cd_,a9_,a8_,a7_,ce_,fv_,d0_,cs_,Int.toNat_natCast,f3_,di_,dm_,dn_,gv_,g4_,gh_,gj_,gu_,gs_,f8_,f4_,Int.add_zero,Int.zero_add,Int.ediv_one,Nat.reduceAdd,Nat.reduceMul,Int.reduceNeg,Nat.reduceLeDiff,List.length_cons,List.length_nil,true_and,and_true,Nat.zero_add,eq_self,Nat.reduceEqDiff,Int.reduceAdd,Int.reduceSub,Int.reduceMul,not_true_eq_false,not_false_eq_true,Nat.reduceLT,Int.reduceToNat,Int.reduceEq,Int.reduceNe,Int.reduceLT,Int.reduceLE,or_true,and_false,false_and,false_implies,true_implies]
    refine w_M_days_35 ?_
    simp (disch := omega) only [cm_,aq_,ay_,ag_,b8_,af_,ba_,bc_,bx_,bg_,am_,ae_,ac_,b2_,bq_,ed_,bs_,ao_,a2_,az_,ar_,aw_,dw_,d6_,ea_,d3_,b5_,b1_,fl_,fn_,fh_,fu_,fp_,fz_,fq_,fk_,fr_,ft_,fs_,f0_,c5_,bt_,bd_,c3_,ck_,ct_,cx_,cr_,cj_,cf_,ch_,ci_,an_,cl_,dr_,cd_,a9_,a8_,a7_,ce_,fv_,d0_,cs_,Int.toNat_natCast,f3_,di_,dm_,dn_,gv_,g4_,gh_,gj_,gu_,gs_,f8_,f4_,Int.add_zero,Int.zero_add,Int.ediv_one,Nat.reduceAdd,Nat.reduceMul,Int.reduceNeg,Nat.reduceLeDiff,List.length_cons,List.length_nil,true_and,and_true,Nat.zero_add,eq_self,Nat.reduceEqDiff,Int.reduceAdd,Int.reduceSub,Int.reduceMul,not_true_eq_false,not_false_eq_true,Nat.reduceLT,Int.reduceToNat,Int.reduceEq,Int.reduceNe,Int.reduceLT,Int.reduceLE,or_true,and_false,false_and,false_implies,true_implies]
    refine con_Mrefuse (k := 4) (by omega) ?_
    simp (disch := omega) only [cm_,aq_,ay_,ag_,b8_,af_,ba_,bc_,bx_,bg_,am_,ae_,ac_,b2_,bq_,ed_,bs_,ao_,a2_,az_,ar_,aw_,dw_,d6_,ea_,d3_,b5_,b1_,fl_,fn_,fh_,fu_,fp_,fz_,fq_,fk_,fr_,ft_,fs_,f0_,c5_,bt_,bd_,c3_,ck_,ct_,cx_,cr_,cj_,cf_,ch_,ci_,an_,cl_,dr_,cd_,a9_,a8_,a7_,ce_,fv_,d0_,cs_,Int.toNat_natCast,f3_,di_,dm_,dn_,gv_,g4_,gh_,gj_,gu_,gs_,f8_,f4_,Int.add_zero,Int.zero_add,Int.ediv_one,Nat.reduceAdd,Nat.reduceMul,Int.reduceNeg,Nat.reduceLeDiff,List.length_cons,List.length_nil,true_and,and_true,Nat.zero_add,eq_self,Nat.reduceEqDiff,Int.reduceAdd,Int.reduceSub,Int.reduceMul,not_true_eq_false,not_false_eq_true,Nat.reduceLT,Int.reduceToNat,Int.reduceEq,Int.reduceNe,Int.reduceLT,Int.reduceLE,or_true,and_false,false_and,false_implies,true_implies]
    exact k4 c2
  · simp (disch := omega) only [cm_,aq_,ay_,ag_,b8_,af_,ba_,bc_,bx_,bg_,am_,ae_,ac_,b2_,bq_,ed_,bs_,ao_,a2_,az_,ar_,aw_,dw_,d6_,ea_,d3_,b5_,b1_,fl_,fn_,fh_,fu_,fp_,fz_,fq_,fk_,fr_,ft_,fs_,f0_,c5_,bt_,bd_,c3_,ck_,ct_,cx_,cr_,cj_,cf_,ch_,ci_,an_,cl_,dr_,cd_,a9_,a8_,a7_,ce_,fv_,d0_,cs_,Int.toNat_natCast,f3_,di_,dm_,dn_,gv_,g4_,gh_,gj_,gu_,gs_,f8_,f4_,Int.add_zero,Int.zero_add,Int.ediv_one,Nat.reduceAdd,Nat.reduceMul,Int.reduceNeg,Nat.reduceLeDiff,List.length_cons,List.length_nil,true_and,and_true,Nat.zero_add,eq_self,Nat.reduceEqDiff,Int.reduceAdd,Int.reduceSub,Int.reduceMul,not_true_eq_false,not_false_eq_true,Nat.reduceLT,Int.reduceToNat,Int.reduceEq,Int.reduceNe,Int.reduceLT,Int.reduceLE,or_true,and_false,false_and,false_implies,true_implies]
    refine w_M_days_34 ?_
    simp (disch := omega) only [cm_,aq_,ay_,ag_,b8_,af_,ba_,bc_,bx_,bg_,am_,ae_,ac_,b2_,bq_,ed_,bs_,ao_,a2_,az_,ar_,aw_,dw_,d6_,ea_,d3_,b5_,b1_,fl_,fn_,fh_,fu_,fp_,fz_,fq_,fk_,fr_,ft_,fs_,f0_,c5_,bt_,bd_,c3_,ck_,ct_,cx_,cr_,cj_,cf_,ch_,ci_,an_,cl_,dr_,cd_,a9_,a8_,a7_,ce_,fv_,d0_,cs_,Int.toNat_natCast,f3_,di_,dm_,dn_,gv_,g4_,gh_,gj_,gu_,gs_,f8_,f4_,Int.add_zero,Int.zero_add,Int.ediv_one,Nat.reduceAdd,Nat.reduceMul,Int.reduceNeg,Nat.reduceLeDiff,List.length_cons,List.length_nil,true_and,and_true,Nat.zero_add,eq_self,Nat.reduceEqDiff,Int.reduceAdd,Int.reduceSub,Int.reduceMul,not_true_eq_false,not_false_eq_true,Nat.reduceLT,Int.reduceToNat,Int.reduceEq,Int.reduceNe,Int.reduceLT,Int.reduceLE,or_true,and_false,false_and,false_implies,true_implies]
    refine w_M_days_35 ?_
    simp (disch := omega) only [cm_,aq_,ay_,ag_,b8_,af_,ba_,bc_,bx_,bg_,am_,ae_,ac_,b2_,bq_,ed_,bs_,ao_,a2_,az_,ar_,aw_,dw_,d6_,ea_,d3_,b5_,b1_,fl_,fn_,fh_,fu_,fp_,fz_,fq_,fk_,fr_,ft_,fs_,f0_,c5_,bt_,bd_,c3_,ck_,ct_,cx_,cr_,cj_,cf_,ch_,ci_,an_,cl_,dr_,cd_,a9_,a8_,a7_,ce_,fv_,d0_,cs_,Int.toNat_natCast,f3_,di_,dm_,dn_,gv_,g4_,gh_,gj_,gu_,gs_,f8_,f4_,Int.add_zero,Int.zero_add,Int.ediv_one,Nat.reduceAdd,Nat.reduceMul,Int.reduceNeg,Nat.reduceLeDiff,List.length_cons,List.length_nil,true_and,and_true,Nat.zero_add,eq_self,Nat.reduceEqDiff,Int.reduceAdd,Int.reduceSub,Int.reduceMul,not_true_eq_false,not_false_eq_true,Nat.reduceLT,Int.reduceToNat,Int.reduceEq,Int.reduceNe,Int.reduceLT,Int.reduceLE,or_true,and_false,false_and,false_implies,true_implies]
    refine con_Mrefuse (k := 6) (by omega) ?_
    simp (disch := omega) only [cm_,aq_,ay_,ag_,b8_,af_,ba_,bc_,bx_,bg_,am_,ae_,ac_,b2_,bq_,ed_,bs_,ao_,a2_,az_,ar_,aw_,dw_,d6_,ea_,d3_,b5_,b1_,fl_,fn_,fh_,fu_,fp_,fz_,fq_,fk_,fr_,ft_,fs_,f0_,c5_,bt_,bd_,c3_,ck_,ct_,cx_,cr_,cj_,cf_,ch_,ci_,an_,cl_,dr_,cd_,a9_,a8_,a7_,ce_,fv_,d0_,cs_,Int.toNat_natCast,f3_,di_,dm_,dn_,gv_,g4_,gh_,gj_,gu_,gs_,f8_,f4_,Int.add_zero,Int.zero_add,Int.ediv_one,Nat.reduceAdd,Nat.reduceMul,Int.reduceNeg,Nat.reduceLeDiff,List.length_cons,List.length_nil,true_and,and_true,Nat.zero_add,eq_self,Nat.reduceEqDiff,Int.reduceAdd,Int.reduceSub,Int.reduceMul,not_true_eq_false,not_false_eq_true,Nat.reduceLT,Int.reduceToNat,Int.reduceEq,Int.reduceNe,Int.reduceLT,Int.reduceLE,or_true,and_false,false_and,false_implies,true_implies]
    exact k6 c2 (Or.inl c3)
  · have hnn : n = (n.toNat : Int) := by omega
    simp (disch := omega) only [cm_,aq_,ay_,ag_,b8_,af_,ba_,bc_,bx_,bg_,am_,ae_,ac_,b2_,bq_,ed_,bs_,ao_,a2_,az_,ar_,aw_,dw_,d6_,ea_,d3_,b5_,b1_,fl_,fn_,fh_,fu_,fp_,fz_,fq_,fk_,fr_,ft_,fs_,f0_,c5_,bt_,bd_,c3_,ck_,ct_,cx_,cr_,cj_,cf_,ch_,ci_,an_,cl_,dr_,cd_,a9_,a8_,a7_,ce_,fv_,d0_,cs_,Int.toNat_natCast,f3_,di_,dm_,dn_,gv_,g4_,gh_,gj_,gu_,gs_,f8_,f4_,Int.add_zero,Int.zero_add,Int.ediv_one,Nat.reduceAdd,Nat.reduceMul,Int.reduceNeg,Nat.reduceLeDiff,List.length_cons,List.length_nil,true_and,and_true,Nat.zero_add,eq_self,Nat.reduceEqDiff,Int.reduceAdd,Int.reduceSub,Int.reduceMul,not_true_eq_false,not_false_eq_true,Nat.reduceLT,Int.reduceToNat,Int.reduceEq,Int.reduceNe,Int.reduceLT,Int.reduceLE,or_true,and_false,false_and,false_implies,true_implies]
    refine ⟨fun c4 => ?_, fun c4 => ?_⟩
    · refine w_M_days_34 ?_
      simp (disch := omega) only [cm_,aq_,ay_,ag_,b8_,af_,ba_,bc_,bx_,bg_,am_,ae_,ac_,b2_,bq_,ed_,bs_,ao_,a2_,az_,ar_,aw_,dw_,d6_,ea_,d3_,b5_,b1_,fl_,fn_,fh_,fu_,fp_,fz_,fq_,fk_,fr_,ft_,fs_,f0_,c5_,bt_,bd_,c3_,ck_,ct_,cx_,cr_,cj_,cf_,ch_,ci_,an_,cl_,dr_,cd_,a9_,a8_,a7_,ce_,fv_,d0_,cs_,Int.toNat_natCast,f3_,di_,dm_,dn_,gv_,g4_,gh_,gj_,gu_,gs_,f8_,f4_,Int.add_zero,Int.zero_add,Int.ediv_one,Nat.reduceAdd,Nat.reduceMul,Int.reduceNeg,Nat.reduceLeDiff,List.length_cons,List.length_nil,true_and,and_true,Nat.zero_add,eq_self,Nat.reduceEqDiff,Int.reduceAdd,Int.reduceSub,Int.reduceMul,not_true_eq_false,not_false_eq_true,Nat.reduceLT,Int.reduceToNat,Int.reduceEq,Int.reduceNe,Int.reduceLT,Int.reduceLE,or_true,and_false,false_and,false_implies,true_implies]
      refine w_M_days_35 ?_
      simp (disch := omega) only [cm_,aq_,ay_,ag_,b8_,af_,ba_,bc_,bx_,bg_,am_,ae_,ac_,b2_,bq_,ed_,bs_,ao_,a2_,az_,ar_,aw_,dw_,d6_,ea_,d3_,b5_,b1_,fl_,fn_,fh_,fu_,fp_,fz_,fq_,fk_,fr_,ft_,fs_,f0_,c5_,bt_,bd_,c3_,ck_,ct_,cx_,cr_,cj_,cf_,ch_,ci_,an_,cl_,dr_,cd_,a9_,a8_,a7_,ce_,fv_,d0_,cs_,Int.toNat_natCast,f3_,di_,dm_,dn_,gv_,g4_,gh_,gj_,gu_,gs_,f8_,f4_,Int.add_zero,Int.zero_add,Int.ediv_one,Nat.reduceAdd,Nat.reduceMul,Int.reduceNeg,Nat.reduceLeDiff,List.length_cons,List.length_nil,true_and,and_true,Nat.zero_add,eq_self,Nat.reduceEqDiff,Int.reduceAdd,Int.reduceSub,Int.reduceMul,not_true_eq_false,not_false_eq_true,Nat.reduceLT,Int.reduceToNat,Int.reduceEq,Int.reduceNe,Int.reduceLT,Int.reduceLE,or_true,and_false,false_and,false_implies,true_implies]
      refine w_M_days_46 ?_
      simp (disch := omega) only [cm_,aq_,ay_,ag_,b8_,af_,ba_,bc_,bx_,bg_,am_,ae_,ac_,b2_,bq_,ed_,bs_,ao_,a2_,az_,ar_,aw_,dw_,d6_,ea_,d3_,b5_,b1_,fl_,fn_,fh_,fu_,fp_,fz_,fq_,fk_,fr_,ft_,fs_,f0_,c5_,bt_,bd_,c3_,ck_,ct_,cx_,cr_,cj_,cf_,ch_,ci_,an_,cl_,dr_,cd_,a9_,a8_,a7_,ce_,fv_,d0_,cs_,Int.toNat_natCast,f3_,di_,dm_,dn_,gv_,g4_,gh_,gj_,gu_,gs_,f8_,f4_,Int.add_zero,Int.zero_add,Int.ediv_one,Nat.reduceAdd,Nat.reduceMul,Int.reduceNeg,Nat.reduceLeDiff,List.length_cons,List.length_nil,true_and,and_true,Nat.zero_add,eq_self,Nat.reduceEqDiff,Int.reduceAdd,Int.reduceSub,Int.reduceMul,not_true_eq_false,not_false_eq_true,Nat.reduceLT,Int.reduceToNat,Int.reduceEq,Int.reduceNe,Int.reduceLT,Int.reduceLE,or_true,and_false,false_and,false_implies,true_implies]
      refine con_MkeepTurn (P := P) hTu hPz (fun x u hu => ?_)
      have ok := ok c2 c3 (by omega)
      simp (disch := omega) only [cm_,aq_,ay_,ag_,b8_,af_,ba_,bc_,bx_,bg_,am_,ae_,ac_,b2_,bq_,ed_,bs_,ao_,a2_,az_,ar_,aw_,dw_,d6_,ea_,d3_,b5_,b1_,fl_,fn_,fh_,fu_,fp_,fz_,fq_,fk_,fr_,ft_,fs_,f0_,c5_,bt_,bd_,c3_,ck_,ct_,cx_,cr_,cj_,cf_,ch_,ci_,an_,cl_,dr_,cd_,a9_,a8_,a7_,ce_,fv_,d0_,cs_,Int.toNat_natCast,f3_,di_,dm_,dn_,gv_,g4_,gh_,gj_,gu_,gs_,f8_,f4_,Int.add_zero,Int.zero_add,Int.ediv_one,Nat.reduceAdd,Nat.reduceMul,Int.reduceNeg,Nat.reduceLeDiff,List.length_cons,List.length_nil,true_and,and_true,Nat.zero_add,eq_self,Nat.reduceEqDiff,Int.reduceAdd,Int.reduceSub,Int.reduceMul,not_true_eq_false,not_false_eq_true,Nat.reduceLT,Int.reduceToNat,Int.reduceEq,Int.reduceNe,Int.reduceLT,Int.reduceLE,or_true,and_false,false_and,false_implies,true_implies]
      rw [hnn]
      refine con_MgoDays (by omega) hI ?_
      simp (disch := omega) only [cm_,aq_,ay_,ag_,b8_,af_,ba_,bc_,bx_,bg_,am_,ae_,ac_,b2_,bq_,ed_,bs_,ao_,a2_,az_,ar_,aw_,dw_,d6_,ea_,d3_,b5_,b1_,fl_,fn_,fh_,fu_,fp_,fz_,fq_,fk_,fr_,ft_,fs_,f0_,c5_,bt_,bd_,c3_,ck_,ct_,cx_,cr_,cj_,cf_,ch_,ci_,an_,cl_,dr_,cd_,a9_,a8_,a7_,ce_,fv_,d0_,cs_,Int.toNat_natCast,f3_,di_,dm_,dn_,gv_,g4_,gh_,gj_,gu_,gs_,f8_,f4_,Int.add_zero,Int.zero_add,Int.ediv_one,Nat.reduceAdd,Nat.reduceMul,Int.reduceNeg,Nat.reduceLeDiff,List.length_cons,List.length_nil,true_and,and_true,Nat.zero_add,eq_self,Nat.reduceEqDiff,Int.reduceAdd,Int.reduceSub,Int.reduceMul,not_true_eq_false,not_false_eq_true,Nat.reduceLT,Int.reduceToNat,Int.reduceEq,Int.reduceNe,Int.reduceLT,Int.reduceLE,or_true,and_false,false_and,false_implies,true_implies]
      exact ok _ ⟨_, _, _, _, _, _, _, _, _, _, _, _, _, _, _, rfl, hIg, hu, by omega⟩
    · refine w_M_days_35 ?_
      simp (disch := omega) only [cm_,aq_,ay_,ag_,b8_,af_,ba_,bc_,bx_,bg_,am_,ae_,ac_,b2_,bq_,ed_,bs_,ao_,a2_,az_,ar_,aw_,dw_,d6_,ea_,d3_,b5_,b1_,fl_,fn_,fh_,fu_,fp_,fz_,fq_,fk_,fr_,ft_,fs_,f0_,c5_,bt_,bd_,c3_,ck_,ct_,cx_,cr_,cj_,cf_,ch_,ci_,an_,cl_,dr_,cd_,a9_,a8_,a7_,ce_,fv_,d0_,cs_,Int.toNat_natCast,f3_,di_,dm_,dn_,gv_,g4_,gh_,gj_,gu_,gs_,f8_,f4_,Int.add_zero,Int.zero_add,Int.ediv_one,Nat.reduceAdd,Nat.reduceMul,Int.reduceNeg,Nat.reduceLeDiff,List.length_cons,List.length_nil,true_and,and_true,Nat.zero_add,eq_self,Nat.reduceEqDiff,Int.reduceAdd,Int.reduceSub,Int.reduceMul,not_true_eq_false,not_false_eq_true,Nat.reduceLT,Int.reduceToNat,Int.reduceEq,Int.reduceNe,Int.reduceLT,Int.reduceLE,or_true,and_false,false_and,false_implies,true_implies]
      refine con_Mrefuse (k := 6) (by omega) ?_
      simp (disch := omega) only [cm_,aq_,ay_,ag_,b8_,af_,ba_,bc_,bx_,bg_,am_,ae_,ac_,b2_,bq_,ed_,bs_,ao_,a2_,az_,ar_,aw_,dw_,d6_,ea_,d3_,b5_,b1_,fl_,fn_,fh_,fu_,fp_,fz_,fq_,fk_,fr_,ft_,fs_,f0_,c5_,bt_,bd_,c3_,ck_,ct_,cx_,cr_,cj_,cf_,ch_,ci_,an_,cl_,dr_,cd_,a9_,a8_,a7_,ce_,fv_,d0_,cs_,Int.toNat_natCast,f3_,di_,dm_,dn_,gv_,g4_,gh_,gj_,gu_,gs_,f8_,f4_,Int.add_zero,Int.zero_add,Int.ediv_one,Nat.reduceAdd,Nat.reduceMul,Int.reduceNeg,Nat.reduceLeDiff,List.length_cons,List.length_nil,true_and,and_true,Nat.zero_add,eq_self,Nat.reduceEqDiff,Int.reduceAdd,Int.reduceSub,Int.reduceMul,not_true_eq_false,not_false_eq_true,Nat.reduceLT,Int.reduceToNat,Int.reduceEq,Int.reduceNe,Int.reduceLT,Int.reduceLE,or_true,and_false,false_and,false_implies,true_implies]
      exact k6 c2 (Or.inr (by omega))
theorem M_pardons {m : Int} (hm : inI m) (hI : GI R)  (W : (MW R I im P pz lt lsz tn tsz rf bb h))
    (r1 : ¬ g7_ R m → ∀ h, (MW R I im P pz lt lsz tn tsz (rfU rf 1) bb h) → Q (some (.int (zI (-1)))) h)
    (r3 : g7_ R m → rFa R m.toNat = 2 → ∀ h, (MW R I im P pz lt lsz tn tsz (rfU rf 3) bb h) → Q (some (.int (zI (-3)))) h)
    (ok : g7_ R m → rFa R m.toNat ≠ 2 → ∀ h, (MW (sFa R (upI (rFa R) m.toNat (1 - rFa R m.toNat))) I im (pushP P pz R) (min 8 (pz + 1)) lt lsz tn tsz rf bb h) → Q (some (.int (zI (1 - rFa R m.toNat)))) h) : Con M_M_pardons [.ref 90, .int (zI m)] h Q := by
  obtain ⟨a0, ib, sm, pl, lo, nu, kp, ig, p0, tk, ki, tu, tf, ga, sd, rfl, hIg, hTu, hPz⟩ := W
  have hG := hI.1
  have gm := hG.men
  have gf := hG.fa m.toNat
  have k1 := fun q => r1 q _ ⟨a0, ib, sm, pl, lo, nu, kp, ig, p0, tk, ki, tu, tf, ga, sd, rfl, hIg, hTu, hPz⟩
  have k3 := fun q q2 => r3 q q2 _ ⟨a0, ib, sm, pl, lo, nu, kp, ig, p0, tk, ki, tu, tf, ga, sd, rfl, hIg, hTu, hPz⟩
  refine g8_ (L := [some (.ref 90), some (.int (zI m))]) ok_M_pardons (Nat.le_of_ble_eq_true rfl) rfl ?_
  refine w_M_pardons_0 ?_
  simp (disch := omega) only [cm_,aq_,ay_,ag_,b8_,af_,ba_,bc_,bx_,bg_,am_,ae_,ac_,b2_,bq_,ed_,bs_,ao_,a2_,az_,ar_,aw_,dw_,d6_,ea_,d3_,b5_,b1_,fl_,fn_,fh_,fu_,fp_,fz_,fq_,fk_,fr_,ft_,fs_,f0_,c5_,bt_,bd_,c3_,ck_,ct_,cx_,cr_,cj_,cf_,ch_,ci_,an_,cl_,dr_,cd_,a9_,a8_,a7_,ce_,fv_,d0_,cs_,Int.toNat_natCast,f3_,di_,dm_,dn_,gv_,g4_,gh_,gj_,gu_,gs_,f8_,f4_,Int.add_zero,Int.zero_add,Int.ediv_one,Nat.reduceAdd,Nat.reduceMul,Int.reduceNeg,Nat.reduceLeDiff,List.length_cons,List.length_nil,true_and,and_true,Nat.zero_add,eq_self,Nat.reduceEqDiff,Int.reduceAdd,Int.reduceSub,Int.reduceMul,not_true_eq_false,not_false_eq_true,Nat.reduceLT,Int.reduceToNat,Int.reduceEq,Int.reduceNe,Int.reduceLT,Int.reduceLE,or_true,and_false,false_and,false_implies,true_implies]
  refine con_MisMan hm hG (fun c => ?_) (fun c => ?_)
  · simp (disch := omega) only [cm_,aq_,ay_,ag_,b8_,af_,ba_,bc_,bx_,bg_,am_,ae_,ac_,b2_,bq_,ed_,bs_,ao_,a2_,az_,ar_,aw_,dw_,d6_,ea_,d3_,b5_,b1_,fl_,fn_,fh_,fu_,fp_,fz_,fq_,fk_,fr_,ft_,fs_,f0_,c5_,bt_,bd_,c3_,ck_,ct_,cx_,cr_,cj_,cf_,ch_,ci_,an_,cl_,dr_,cd_,a9_,a8_,a7_,ce_,fv_,d0_,cs_,Int.toNat_natCast,f3_,di_,dm_,dn_,gv_,g4_,gh_,gj_,gu_,gs_,f8_,f4_,Int.add_zero,Int.zero_add,Int.ediv_one,Nat.reduceAdd,Nat.reduceMul,Int.reduceNeg,Nat.reduceLeDiff,List.length_cons,List.length_nil,true_and,and_true,Nat.zero_add,eq_self,Nat.reduceEqDiff,Int.reduceAdd,Int.reduceSub,Int.reduceMul,not_true_eq_false,not_false_eq_true,Nat.reduceLT,Int.reduceToNat,Int.reduceEq,Int.reduceNe,Int.reduceLT,Int.reduceLE,or_true,and_false,false_and,false_implies,true_implies]
    refine ⟨by omega, fun c2 => ?_, fun c2 => ?_⟩
    · refine w_M_pardons_42 ?_
      simp (disch := omega) only [cm_,aq_,ay_,ag_,b8_,af_,ba_,bc_,bx_,bg_,am_,ae_,ac_,b2_,bq_,ed_,bs_,ao_,a2_,az_,ar_,aw_,dw_,d6_,ea_,d3_,b5_,b1_,fl_,fn_,fh_,fu_,fp_,fz_,fq_,fk_,fr_,ft_,fs_,f0_,c5_,bt_,bd_,c3_,ck_,ct_,cx_,cr_,cj_,cf_,ch_,ci_,an_,cl_,dr_,cd_,a9_,a8_,a7_,ce_,fv_,d0_,cs_,Int.toNat_natCast,f3_,di_,dm_,dn_,gv_,g4_,gh_,gj_,gu_,gs_,f8_,f4_,Int.add_zero,Int.zero_add,Int.ediv_one,Nat.reduceAdd,Nat.reduceMul,Int.reduceNeg,Nat.reduceLeDiff,List.length_cons,List.length_nil,true_and,and_true,Nat.zero_add,eq_self,Nat.reduceEqDiff,Int.reduceAdd,Int.reduceSub,Int.reduceMul,not_true_eq_false,not_false_eq_true,Nat.reduceLT,Int.reduceToNat,Int.reduceEq,Int.reduceNe,Int.reduceLT,Int.reduceLE,or_true,and_false,false_and,false_implies,true_implies]
      refine con_MkeepTurn (P := P) hTu hPz (fun x u hu => ?_)
      simp (disch := omega) only [cm_,aq_,ay_,ag_,b8_,af_,ba_,bc_,bx_,bg_,am_,ae_,ac_,b2_,bq_,ed_,bs_,ao_,a2_,az_,ar_,aw_,dw_,d6_,ea_,d3_,b5_,b1_,fl_,fn_,fh_,fu_,fp_,fz_,fq_,fk_,fr_,ft_,fs_,f0_,c5_,bt_,bd_,c3_,ck_,ct_,cx_,cr_,cj_,cf_,ch_,ci_,an_,cl_,dr_,cd_,a9_,a8_,a7_,ce_,fv_,d0_,cs_,Int.toNat_natCast,f3_,di_,dm_,dn_,gv_,g4_,gh_,gj_,gu_,gs_,f8_,f4_,Int.add_zero,Int.zero_add,Int.ediv_one,Nat.reduceAdd,Nat.reduceMul,Int.reduceNeg,Nat.reduceLeDiff,List.length_cons,List.length_nil,true_and,and_true,Nat.zero_add,eq_self,Nat.reduceEqDiff,Int.reduceAdd,Int.reduceSub,Int.reduceMul,not_true_eq_false,not_false_eq_true,Nat.reduceLT,Int.reduceToNat,Int.reduceEq,Int.reduceNe,Int.reduceLT,Int.reduceLE,or_true,and_false,false_and,false_implies,true_implies]
      refine ⟨by omega, by omega, by omega, ?_⟩
      rw [upI_s]
      exact ok c (by omega) _ ⟨_, _, _, _, _, _, _, _, _, _, _, _, _, _, _, rfl, hIg, hu, by omega⟩
    · refine w_M_pardons_23 ?_
      simp (disch := omega) only [cm_,aq_,ay_,ag_,b8_,af_,ba_,bc_,bx_,bg_,am_,ae_,ac_,b2_,bq_,ed_,bs_,ao_,a2_,az_,ar_,aw_,dw_,d6_,ea_,d3_,b5_,b1_,fl_,fn_,fh_,fu_,fp_,fz_,fq_,fk_,fr_,ft_,fs_,f0_,c5_,bt_,bd_,c3_,ck_,ct_,cx_,cr_,cj_,cf_,ch_,ci_,an_,cl_,dr_,cd_,a9_,a8_,a7_,ce_,fv_,d0_,cs_,Int.toNat_natCast,f3_,di_,dm_,dn_,gv_,g4_,gh_,gj_,gu_,gs_,f8_,f4_,Int.add_zero,Int.zero_add,Int.ediv_one,Nat.reduceAdd,Nat.reduceMul,Int.reduceNeg,Nat.reduceLeDiff,List.length_cons,List.length_nil,true_and,and_true,Nat.zero_add,eq_self,Nat.reduceEqDiff,Int.reduceAdd,Int.reduceSub,Int.reduceMul,not_true_eq_false,not_false_eq_true,Nat.reduceLT,Int.reduceToNat,Int.reduceEq,Int.reduceNe,Int.reduceLT,Int.reduceLE,or_true,and_false,false_and,false_implies,true_implies]
      refine con_MisMan hm hG (fun _ => ?_) (fun q => absurd c q)
      simp (disch := omega) only [cm_,aq_,ay_,ag_,b8_,af_,ba_,bc_,bx_,bg_,am_,ae_,ac_,b2_,bq_,ed_,bs_,ao_,a2_,az_,ar_,aw_,dw_,d6_,ea_,d3_,b5_,b1_,fl_,fn_,fh_,fu_,fp_,fz_,fq_,fk_,fr_,ft_,fs_,f0_,c5_,bt_,bd_,c3_,ck_,ct_,cx_,cr_,cj_,cf_,ch_,ci_,an_,cl_,dr_,cd_,a9_,a8_,a7_,ce_,fv_,d0_,cs_,Int.toNat_natCast,f3_,di_,dm_,dn_,gv_,g4_,gh_,gj_,gu_,gs_,f8_,f4_,Int.add_zero,Int.zero_add,Int.ediv_one,Nat.reduceAdd,Nat.reduceMul,Int.reduceNeg,Nat.reduceLeDiff,List.length_cons,List.length_nil,true_and,and_true,Nat.zero_add,eq_self,Nat.reduceEqDiff,Int.reduceAdd,Int.reduceSub,Int.reduceMul,not_true_eq_false,not_false_eq_true,Nat.reduceLT,Int.reduceToNat,Int.reduceEq,Int.reduceNe,Int.reduceLT,Int.reduceLE,or_true,and_false,false_and,false_implies,true_implies]
      refine w_M_pardons_38 ?_
      simp (disch := omega) only [cm_,aq_,ay_,ag_,b8_,af_,ba_,bc_,bx_,bg_,am_,ae_,ac_,b2_,bq_,ed_,bs_,ao_,a2_,az_,ar_,aw_,dw_,d6_,ea_,d3_,b5_,b1_,fl_,fn_,fh_,fu_,fp_,fz_,fq_,fk_,fr_,ft_,fs_,f0_,c5_,bt_,bd_,c3_,ck_,ct_,cx_,cr_,cj_,cf_,ch_,ci_,an_,cl_,dr_,cd_,a9_,a8_,a7_,ce_,fv_,d0_,cs_,Int.toNat_natCast,f3_,di_,dm_,dn_,gv_,g4_,gh_,gj_,gu_,gs_,f8_,f4_,Int.add_zero,Int.zero_add,Int.ediv_one,Nat.reduceAdd,Nat.reduceMul,Int.reduceNeg,Nat.reduceLeDiff,List.length_cons,List.length_nil,true_and,and_true,Nat.zero_add,eq_self,Nat.reduceEqDiff,Int.reduceAdd,Int.reduceSub,Int.reduceMul,not_true_eq_false,not_false_eq_true,Nat.reduceLT,Int.reduceToNat,Int.reduceEq,Int.reduceNe,Int.reduceLT,Int.reduceLE,or_true,and_false,false_and,false_implies,true_implies]
      refine con_Mrefuse (k := 3) (by omega) ?_
      simp (disch := omega) only [cm_,aq_,ay_,ag_,b8_,af_,ba_,bc_,bx_,bg_,am_,ae_,ac_,b2_,bq_,ed_,bs_,ao_,a2_,az_,ar_,aw_,dw_,d6_,ea_,d3_,b5_,b1_,fl_,fn_,fh_,fu_,fp_,fz_,fq_,fk_,fr_,ft_,fs_,f0_,c5_,bt_,bd_,c3_,ck_,ct_,cx_,cr_,cj_,cf_,ch_,ci_,an_,cl_,dr_,cd_,a9_,a8_,a7_,ce_,fv_,d0_,cs_,Int.toNat_natCast,f3_,di_,dm_,dn_,gv_,g4_,gh_,gj_,gu_,gs_,f8_,f4_,Int.add_zero,Int.zero_add,Int.ediv_one,Nat.reduceAdd,Nat.reduceMul,Int.reduceNeg,Nat.reduceLeDiff,List.length_cons,List.length_nil,true_and,and_true,Nat.zero_add,eq_self,Nat.reduceEqDiff,Int.reduceAdd,Int.reduceSub,Int.reduceMul,not_true_eq_false,not_false_eq_true,Nat.reduceLT,Int.reduceToNat,Int.reduceEq,Int.reduceNe,Int.reduceLT,Int.reduceLE,or_true,and_false,false_and,false_implies,true_implies]
      exact k3 c (by omega)
  · simp (disch := omega) only [cm_,aq_,ay_,ag_,b8_,af_,ba_,bc_,bx_,bg_,am_,ae_,ac_,b2_,bq_,ed_,bs_,ao_,a2_,az_,ar_,aw_,dw_,d6_,ea_,d3_,b5_,b1_,fl_,fn_,fh_,fu_,fp_,fz_,fq_,fk_,fr_,ft_,fs_,f0_,c5_,bt_,bd_,c3_,ck_,ct_,cx_,cr_,cj_,cf_,ch_,ci_,an_,cl_,dr_,cd_,a9_,a8_,a7_,ce_,fv_,d0_,cs_,Int.toNat_natCast,f3_,di_,dm_,dn_,gv_,g4_,gh_,gj_,gu_,gs_,f8_,f4_,Int.add_zero,Int.zero_add,Int.ediv_one,Nat.reduceAdd,Nat.reduceMul,Int.reduceNeg,Nat.reduceLeDiff,List.length_cons,List.length_nil,true_and,and_true,Nat.zero_add,eq_self,Nat.reduceEqDiff,Int.reduceAdd,Int.reduceSub,Int.reduceMul,not_true_eq_false,not_false_eq_true,Nat.reduceLT,Int.reduceToNat,Int.reduceEq,Int.reduceNe,Int.reduceLT,Int.reduceLE,or_true,and_false,false_and,false_implies,true_implies]
    refine w_M_pardons_23 ?_
    simp (disch := omega) only [cm_,aq_,ay_,ag_,b8_,af_,ba_,bc_,bx_,bg_,am_,ae_,ac_,b2_,bq_,ed_,bs_,ao_,a2_,az_,ar_,aw_,dw_,d6_,ea_,d3_,b5_,b1_,fl_,fn_,fh_,fu_,fp_,fz_,fq_,fk_,fr_,ft_,fs_,f0_,c5_,bt_,bd_,c3_,ck_,ct_,cx_,cr_,cj_,cf_,ch_,ci_,an_,cl_,dr_,cd_,a9_,a8_,a7_,ce_,fv_,d0_,cs_,Int.toNat_natCast,f3_,di_,dm_,dn_,gv_,g4_,gh_,gj_,gu_,gs_,f8_,f4_,Int.add_zero,Int.zero_add,Int.ediv_one,Nat.reduceAdd,Nat.reduceMul,Int.reduceNeg,Nat.reduceLeDiff,List.length_cons,List.length_nil,true_and,and_true,Nat.zero_add,eq_self,Nat.reduceEqDiff,Int.reduceAdd,Int.reduceSub,Int.reduceMul,not_true_eq_false,not_false_eq_true,Nat.reduceLT,Int.reduceToNat,Int.reduceEq,Int.reduceNe,Int.reduceLT,Int.reduceLE,or_true,and_false,false_and,false_implies,true_implies]
    refine con_MisMan hm hG (fun q => absurd q c) (fun _ => ?_)
    simp (disch := omega) only [cm_,aq_,ay_,ag_,b8_,af_,ba_,bc_,bx_,bg_,am_,ae_,ac_,b2_,bq_,ed_,bs_,ao_,a2_,az_,ar_,aw_,dw_,d6_,ea_,d3_,b5_,b1_,fl_,fn_,fh_,fu_,fp_,fz_,fq_,fk_,fr_,ft_,fs_,f0_,c5_,bt_,bd_,c3_,ck_,ct_,cx_,cr_,cj_,cf_,ch_,ci_,an_,cl_,dr_,cd_,a9_,a8_,a7_,ce_,fv_,d0_,cs_,Int.toNat_natCast,f3_,di_,dm_,dn_,gv_,g4_,gh_,gj_,gu_,gs_,f8_,f4_,Int.add_zero,Int.zero_add,Int.ediv_one,Nat.reduceAdd,Nat.reduceMul,Int.reduceNeg,Nat.reduceLeDiff,List.length_cons,List.length_nil,true_and,and_true,Nat.zero_add,eq_self,Nat.reduceEqDiff,Int.reduceAdd,Int.reduceSub,Int.reduceMul,not_true_eq_false,not_false_eq_true,Nat.reduceLT,Int.reduceToNat,Int.reduceEq,Int.reduceNe,Int.reduceLT,Int.reduceLE,or_true,and_false,false_and,false_implies,true_implies]
    refine w_M_pardons_37 ?_
    simp (disch := omega) only [cm_,aq_,ay_,ag_,b8_,af_,ba_,bc_,bx_,bg_,am_,ae_,ac_,b2_,bq_,ed_,bs_,ao_,a2_,az_,ar_,aw_,dw_,d6_,ea_,d3_,b5_,b1_,fl_,fn_,fh_,fu_,fp_,fz_,fq_,fk_,fr_,ft_,fs_,f0_,c5_,bt_,bd_,c3_,ck_,ct_,cx_,cr_,cj_,cf_,ch_,ci_,an_,cl_,dr_,cd_,a9_,a8_,a7_,ce_,fv_,d0_,cs_,Int.toNat_natCast,f3_,di_,dm_,dn_,gv_,g4_,gh_,gj_,gu_,gs_,f8_,f4_,Int.add_zero,Int.zero_add,Int.ediv_one,Nat.reduceAdd,Nat.reduceMul,Int.reduceNeg,Nat.reduceLeDiff,List.length_cons,List.length_nil,true_and,and_true,Nat.zero_add,eq_self,Nat.reduceEqDiff,Int.reduceAdd,Int.reduceSub,Int.reduceMul,not_true_eq_false,not_false_eq_true,Nat.reduceLT,Int.reduceToNat,Int.reduceEq,Int.reduceNe,Int.reduceLT,Int.reduceLE,or_true,and_false,false_and,false_implies,true_implies]
    refine w_M_pardons_38 ?_
    simp (disch := omega) only [cm_,aq_,ay_,ag_,b8_,af_,ba_,bc_,bx_,bg_,am_,ae_,ac_,b2_,bq_,ed_,bs_,ao_,a2_,az_,ar_,aw_,dw_,d6_,ea_,d3_,b5_,b1_,fl_,fn_,fh_,fu_,fp_,fz_,fq_,fk_,fr_,ft_,fs_,f0_,c5_,bt_,bd_,c3_,ck_,ct_,cx_,cr_,cj_,cf_,ch_,ci_,an_,cl_,dr_,cd_,a9_,a8_,a7_,ce_,fv_,d0_,cs_,Int.toNat_natCast,f3_,di_,dm_,dn_,gv_,g4_,gh_,gj_,gu_,gs_,f8_,f4_,Int.add_zero,Int.zero_add,Int.ediv_one,Nat.reduceAdd,Nat.reduceMul,Int.reduceNeg,Nat.reduceLeDiff,List.length_cons,List.length_nil,true_and,and_true,Nat.zero_add,eq_self,Nat.reduceEqDiff,Int.reduceAdd,Int.reduceSub,Int.reduceMul,not_true_eq_false,not_false_eq_true,Nat.reduceLT,Int.reduceToNat,Int.reduceEq,Int.reduceNe,Int.reduceLT,Int.reduceLE,or_true,and_false,false_and,false_implies,true_implies]
    refine con_Mrefuse (k := 1) (by omega) ?_
    simp (disch := omega) only [cm_,aq_,ay_,ag_,b8_,af_,ba_,bc_,bx_,bg_,am_,ae_,ac_,b2_,bq_,ed_,bs_,ao_,a2_,az_,ar_,aw_,dw_,d6_,ea_,d3_,b5_,b1_,fl_,fn_,fh_,fu_,fp_,fz_,fq_,fk_,fr_,ft_,fs_,f0_,c5_,bt_,bd_,c3_,ck_,ct_,cx_,cr_,cj_,cf_,ch_,ci_,an_,cl_,dr_,cd_,a9_,a8_,a7_,ce_,fv_,d0_,cs_,Int.toNat_natCast,f3_,di_,dm_,dn_,gv_,g4_,gh_,gj_,gu_,gs_,f8_,f4_,Int.add_zero,Int.zero_add,Int.ediv_one,Nat.reduceAdd,Nat.reduceMul,Int.reduceNeg,Nat.reduceLeDiff,List.length_cons,List.length_nil,true_and,and_true,Nat.zero_add,eq_self,Nat.reduceEqDiff,Int.reduceAdd,Int.reduceSub,Int.reduceMul,not_true_eq_false,not_false_eq_true,Nat.reduceLT,Int.reduceToNat,Int.reduceEq,Int.reduceNe,Int.reduceLT,Int.reduceLE,or_true,and_false,false_and,false_implies,true_implies]
    exact k1 c
theorem M_back (hI : GI R) (hP : ∀ i : Nat, (i : Int) < pz → GI (P i)) (W : (MW R I im P pz lt lsz tn tsz rf bb h))
    (r3 : pz = 0 → ∀ h, (MW R I im P pz lt lsz tn tsz (rfU rf 3) bb h) → Q (some (.int (zI (-3)))) h)
    (ok : 0 < pz → ∀ h, (MW (P (pz - 1).toNat) I im P (pz - 1) lt lsz tn tsz rf bb h) → Q (some (.int (zI (pz - 1)))) h) : Con M_M_back [.ref 90] h Q := by
  obtain ⟨a0, ib, sm, pl, lo, nu, kp, ig, p0, tk, ki, tu, tf, ga, sd, rfl, hIg, hTu, hPz⟩ := W
  have k3 := fun q => r3 q _ ⟨a0, ib, sm, pl, lo, nu, kp, ig, p0, tk, ki, tu, tf, ga, sd, rfl, hIg, hTu, hPz⟩
  refine g8_ (L := [some (.ref 90), none]) ok_M_back (Nat.le_of_ble_eq_true rfl) rfl ?_
  refine w_M_back_0 ?_
  simp (disch := omega) only [cm_,aq_,ay_,ag_,b8_,af_,ba_,bc_,bx_,bg_,am_,ae_,ac_,b2_,bq_,ed_,bs_,ao_,a2_,az_,ar_,aw_,dw_,d6_,ea_,d3_,b5_,b1_,fl_,fn_,fh_,fu_,fp_,fz_,fq_,fk_,fr_,ft_,fs_,f0_,c5_,bt_,bd_,c3_,ck_,ct_,cx_,cr_,cj_,cf_,ch_,ci_,an_,cl_,dr_,cd_,a9_,a8_,a7_,ce_,fv_,d0_,cs_,Int.toNat_natCast,f3_,di_,dm_,dn_,gv_,g4_,gh_,gj_,gu_,gs_,f8_,f4_,Int.add_zero,Int.zero_add,Int.ediv_one,Nat.reduceAdd,Nat.reduceMul,Int.reduceNeg,Nat.reduceLeDiff,List.length_cons,List.length_nil,true_and,and_true,Nat.zero_add,eq_self,Nat.reduceEqDiff,Int.reduceAdd,Int.reduceSub,Int.reduceMul,not_true_eq_false,not_false_eq_true,Nat.reduceLT,Int.reduceToNat,Int.reduceEq,Int.reduceNe,Int.reduceLT,Int.reduceLE,or_true,and_false,false_and,false_implies,true_implies]
  refine ⟨fun c => ?_, fun c => ?_⟩
  · have hp0 : 0 < pz := by omega
    have ok := ok hp0
    obtain ⟨t, ht⟩ := Int.eq_ofNat_of_zero_le (show 0 ≤ pz - 1 by omega)
    rw [ht] at ok
    simp only [Int.toNat_natCast] at ok
    have hgi := hP t (by omega)
    refine w_M_back_19 ?_
    simp (disch := omega) only [cm_,aq_,ay_,ag_,b8_,af_,ba_,bc_,bx_,bg_,am_,ae_,ac_,b2_,bq_,ed_,bs_,ao_,a2_,az_,ar_,aw_,dw_,d6_,ea_,d3_,b5_,b1_,fl_,fn_,fh_,fu_,fp_,fz_,fq_,fk_,fr_,ft_,fs_,f0_,c5_,bt_,bd_,c3_,ck_,ct_,cx_,cr_,cj_,cf_,ch_,ci_,an_,cl_,dr_,cd_,a9_,a8_,a7_,ce_,fv_,d0_,cs_,Int.toNat_natCast,f3_,di_,dm_,dn_,gv_,g4_,gh_,gj_,gu_,gs_,f8_,f4_,Int.add_zero,Int.zero_add,Int.ediv_one,Nat.reduceAdd,Nat.reduceMul,Int.reduceNeg,Nat.reduceLeDiff,List.length_cons,List.length_nil,true_and,and_true,Nat.zero_add,eq_self,Nat.reduceEqDiff,Int.reduceAdd,Int.reduceSub,Int.reduceMul,not_true_eq_false,not_false_eq_true,Nat.reduceLT,Int.reduceToNat,Int.reduceEq,Int.reduceNe,Int.reduceLT,Int.reduceLE,or_true,and_false,false_and,false_implies,true_implies,ht]
    have loop : ∀ n k : Nat, k + n = 49 → J M_M_back 31 [some (.ref 90), some (.int (zI k))] [] (HM R rf lt lsz a0 ib sm pl lo nu kp ig im p0 tk ki tu (t : Int) (mixI (fl (P t)) tf k) tn tsz ga sd bb) Q := by
      intro n
      induction n with
      | zero =>
        intro k hk
        have e : k = 49 := by omega
        subst e
        refine w_M_back_31 ?_
        simp (disch := omega) only [cm_,aq_,ay_,ag_,b8_,af_,ba_,bc_,bx_,bg_,am_,ae_,ac_,b2_,bq_,ed_,bs_,ao_,a2_,az_,ar_,aw_,dw_,d6_,ea_,d3_,b5_,b1_,fl_,fn_,fh_,fu_,fp_,fz_,fq_,fk_,fr_,ft_,fs_,f0_,c5_,bt_,bd_,c3_,ck_,ct_,cx_,cr_,cj_,cf_,ch_,ci_,an_,cl_,dr_,cd_,a9_,a8_,a7_,ce_,fv_,d0_,cs_,Int.toNat_natCast,f3_,di_,dm_,dn_,gv_,g4_,gh_,gj_,gu_,gs_,f8_,f4_,Int.add_zero,Int.zero_add,Int.ediv_one,Nat.reduceAdd,Nat.reduceMul,Int.reduceNeg,Nat.reduceLeDiff,List.length_cons,List.length_nil,true_and,and_true,Nat.zero_add,eq_self,Nat.reduceEqDiff,Int.reduceAdd,Int.reduceSub,Int.reduceMul,not_true_eq_false,not_false_eq_true,Nat.reduceLT,Int.reduceToNat,Int.reduceEq,Int.reduceNe,Int.reduceLT,Int.reduceLE,or_true,and_false,false_and,false_implies,true_implies]
        refine w_M_back_63 ?_
        simp (disch := omega) only [cm_,aq_,ay_,ag_,b8_,af_,ba_,bc_,bx_,bg_,am_,ae_,ac_,b2_,bq_,ed_,bs_,ao_,a2_,az_,ar_,aw_,dw_,d6_,ea_,d3_,b5_,b1_,fl_,fn_,fh_,fu_,fp_,fz_,fq_,fk_,fr_,ft_,fs_,f0_,c5_,bt_,bd_,c3_,ck_,ct_,cx_,cr_,cj_,cf_,ch_,ci_,an_,cl_,dr_,cd_,a9_,a8_,a7_,ce_,fv_,d0_,cs_,Int.toNat_natCast,f3_,di_,dm_,dn_,gv_,g4_,gh_,gj_,gu_,gs_,f8_,f4_,Int.add_zero,Int.zero_add,Int.ediv_one,Nat.reduceAdd,Nat.reduceMul,Int.reduceNeg,Nat.reduceLeDiff,List.length_cons,List.length_nil,true_and,and_true,Nat.zero_add,eq_self,Nat.reduceEqDiff,Int.reduceAdd,Int.reduceSub,Int.reduceMul,not_true_eq_false,not_false_eq_true,Nat.reduceLT,Int.reduceToNat,Int.reduceEq,Int.reduceNe,Int.reduceLT,Int.reduceLE,or_true,and_false,false_and,false_implies,true_implies]
        refine con_give_T (S := P t) (fun j hj => by simp only [mixI]; rw [if_pos hj]) hI.2.2 hgi.2.2 ?_
        simp (disch := omega) only [cm_,aq_,ay_,ag_,b8_,af_,ba_,bc_,bx_,bg_,am_,ae_,ac_,b2_,bq_,ed_,bs_,ao_,a2_,az_,ar_,aw_,dw_,d6_,ea_,d3_,b5_,b1_,fl_,fn_,fh_,fu_,fp_,fz_,fq_,fk_,fr_,ft_,fs_,f0_,c5_,bt_,bd_,c3_,ck_,ct_,cx_,cr_,cj_,cf_,ch_,ci_,an_,cl_,dr_,cd_,a9_,a8_,a7_,ce_,fv_,d0_,cs_,Int.toNat_natCast,f3_,di_,dm_,dn_,gv_,g4_,gh_,gj_,gu_,gs_,f8_,f4_,Int.add_zero,Int.zero_add,Int.ediv_one,Nat.reduceAdd,Nat.reduceMul,Int.reduceNeg,Nat.reduceLeDiff,List.length_cons,List.length_nil,true_and,and_true,Nat.zero_add,eq_self,Nat.reduceEqDiff,Int.reduceAdd,Int.reduceSub,Int.reduceMul,not_true_eq_false,not_false_eq_true,Nat.reduceLT,Int.reduceToNat,Int.reduceEq,Int.reduceNe,Int.reduceLT,Int.reduceLE,or_true,and_false,false_and,false_implies,true_implies]
        exact ok _ ⟨_, _, _, _, _, _, _, _, _, _, _, _, _, _, _, rfl, hIg, fun i hi j hj => hTu i (by omega) j hj, by omega⟩
      | succ n ih =>
        intro k hk
        have step := ih (k + 1) (by omega)
        have e : 49 * (t : Int) + (k : Int) = ((49 * t + k : Nat) : Int) := by omega
        have e2 : tu (49 * t + k) = fl (P t) k := hTu t (by omega) k (by omega)
        rw [← mix_s] at step
        refine w_M_back_31 ?_
        simp (disch := omega) only [cm_,aq_,ay_,ag_,b8_,af_,ba_,bc_,bx_,bg_,am_,ae_,ac_,b2_,bq_,ed_,bs_,ao_,a2_,az_,ar_,aw_,dw_,d6_,ea_,d3_,b5_,b1_,fl_,fn_,fh_,fu_,fp_,fz_,fq_,fk_,fr_,ft_,fs_,f0_,c5_,bt_,bd_,c3_,ck_,ct_,cx_,cr_,cj_,cf_,ch_,ci_,an_,cl_,dr_,cd_,a9_,a8_,a7_,ce_,fv_,d0_,cs_,Int.toNat_natCast,f3_,di_,dm_,dn_,gv_,g4_,gh_,gj_,gu_,gs_,f8_,f4_,Int.add_zero,Int.zero_add,Int.ediv_one,Nat.reduceAdd,Nat.reduceMul,Int.reduceNeg,Nat.reduceLeDiff,List.length_cons,List.length_nil,true_and,and_true,Nat.zero_add,eq_self,Nat.reduceEqDiff,Int.reduceAdd,Int.reduceSub,Int.reduceMul,not_true_eq_false,not_false_eq_true,Nat.reduceLT,Int.reduceToNat,Int.reduceEq,Int.reduceNe,Int.reduceLT,Int.reduceLE,or_true,and_false,false_and,false_implies,true_implies,e,e2]
        refine ⟨fun q => by omega, fun _ => ?_⟩
        first | exact step | exact ⟨by omega, step⟩ | exact ⟨by omega, by omega, step⟩
    have l0 := loop 49 0 (by omega)
    rw [mix_0] at l0
    exact l0
  · refine con_Mrefuse (k := 3) (by omega) ?_
    simp (disch := omega) only [cm_,aq_,ay_,ag_,b8_,af_,ba_,bc_,bx_,bg_,am_,ae_,ac_,b2_,bq_,ed_,bs_,ao_,a2_,az_,ar_,aw_,dw_,d6_,ea_,d3_,b5_,b1_,fl_,fn_,fh_,fu_,fp_,fz_,fq_,fk_,fr_,ft_,fs_,f0_,c5_,bt_,bd_,c3_,ck_,ct_,cx_,cr_,cj_,cf_,ch_,ci_,an_,cl_,dr_,cd_,a9_,a8_,a7_,ce_,fv_,d0_,cs_,Int.toNat_natCast,f3_,di_,dm_,dn_,gv_,g4_,gh_,gj_,gu_,gs_,f8_,f4_,Int.add_zero,Int.zero_add,Int.ediv_one,Nat.reduceAdd,Nat.reduceMul,Int.reduceNeg,Nat.reduceLeDiff,List.length_cons,List.length_nil,true_and,and_true,Nat.zero_add,eq_self,Nat.reduceEqDiff,Int.reduceAdd,Int.reduceSub,Int.reduceMul,not_true_eq_false,not_false_eq_true,Nat.reduceLT,Int.reduceToNat,Int.reduceEq,Int.reduceNe,Int.reduceLT,Int.reduceLE,or_true,and_false,false_and,false_implies,true_implies]
    exact k3 (by omega)
theorem M_image (hI : GI R)  (W : (MW R I im P pz lt lsz tn tsz rf bb h))
    (ok : ∀ h, (MW R (R) (1) P pz lt lsz tn tsz rf bb h) → Q (some (.int (zI (hh_ R)))) h) : Con M_M_image [.ref 90] h Q := by
  obtain ⟨a0, ib, sm, pl, lo, nu, kp, ig, p0, tk, ki, tu, tf, ga, sd, rfl, hIg, hTu, hPz⟩ := W
  refine g8_ (L := [some (.ref 90)]) ok_M_image (Nat.le_of_ble_eq_true rfl) rfl ?_
  refine w_M_image_0 ?_
  simp (disch := omega) only [cm_,aq_,ay_,ag_,b8_,af_,ba_,bc_,bx_,bg_,am_,ae_,ac_,b2_,bq_,ed_,bs_,ao_,a2_,az_,ar_,aw_,dw_,d6_,ea_,d3_,b5_,b1_,fl_,fn_,fh_,fu_,fp_,fz_,fq_,fk_,fr_,ft_,fs_,f0_,c5_,bt_,bd_,c3_,ck_,ct_,cx_,cr_,cj_,cf_,ch_,ci_,an_,cl_,dr_,cd_,a9_,a8_,a7_,ce_,fv_,d0_,cs_,Int.toNat_natCast,f3_,di_,dm_,dn_,gv_,g4_,gh_,gj_,gu_,gs_,f8_,f4_,Int.add_zero,Int.zero_add,Int.ediv_one,Nat.reduceAdd,Nat.reduceMul,Int.reduceNeg,Nat.reduceLeDiff,List.length_cons,List.length_nil,true_and,and_true,Nat.zero_add,eq_self,Nat.reduceEqDiff,Int.reduceAdd,Int.reduceSub,Int.reduceMul,not_true_eq_false,not_false_eq_true,Nat.reduceLT,Int.reduceToNat,Int.reduceEq,Int.reduceNe,Int.reduceLT,Int.reduceLE,or_true,and_false,false_and,false_implies,true_implies]
  refine con_take_G (fun x hx => ?_)
  simp (disch := omega) only [cm_,aq_,ay_,ag_,b8_,af_,ba_,bc_,bx_,bg_,am_,ae_,ac_,b2_,bq_,ed_,bs_,ao_,a2_,az_,ar_,aw_,dw_,d6_,ea_,d3_,b5_,b1_,fl_,fn_,fh_,fu_,fp_,fz_,fq_,fk_,fr_,ft_,fs_,f0_,c5_,bt_,bd_,c3_,ck_,ct_,cx_,cr_,cj_,cf_,ch_,ci_,an_,cl_,dr_,cd_,a9_,a8_,a7_,ce_,fv_,d0_,cs_,Int.toNat_natCast,f3_,di_,dm_,dn_,gv_,g4_,gh_,gj_,gu_,gs_,f8_,f4_,Int.add_zero,Int.zero_add,Int.ediv_one,Nat.reduceAdd,Nat.reduceMul,Int.reduceNeg,Nat.reduceLeDiff,List.length_cons,List.length_nil,true_and,and_true,Nat.zero_add,eq_self,Nat.reduceEqDiff,Int.reduceAdd,Int.reduceSub,Int.reduceMul,not_true_eq_false,not_false_eq_true,Nat.reduceLT,Int.reduceToNat,Int.reduceEq,Int.reduceNe,Int.reduceLT,Int.reduceLE,or_true,and_false,false_and,false_implies,true_implies]
  exact ok _ ⟨_, _, _, _, _, _, _, _, _, _, _, _, _, _, _, rfl, fun _ => hx, hTu, hPz⟩
theorem M_restore (hI : im = 0 ∨ im = 1) (hI : GI R) (hII : GI I) (W : (MW R I im P pz lt lsz tn tsz rf bb h))
    (r3 : im = 0 → ∀ h, (MW R I im P pz lt lsz tn tsz (rfU rf 3) bb h) → Q (some (.int (zI (-3)))) h)
    (ok : im ≠ 0 → ∀ h, (MW (I) I im P (0) lt lsz tn tsz rf bb h) → Q (some (.int (zI (hh_ I)))) h) : Con M_M_restore [.ref 90] h Q := by
  obtain ⟨a0, ib, sm, pl, lo, nu, kp, ig, p0, tk, ki, tu, tf, ga, sd, rfl, hIg, hTu, hPz⟩ := W
  have k3 := fun q => r3 q _ ⟨a0, ib, sm, pl, lo, nu, kp, ig, p0, tk, ki, tu, tf, ga, sd, rfl, hIg, hTu, hPz⟩
  refine g8_ (L := [some (.ref 90)]) ok_M_restore (Nat.le_of_ble_eq_true rfl) rfl ?_
  refine w_M_restore_0 ?_
  simp (disch := omega) only [cm_,aq_,ay_,ag_,b8_,af_,ba_,bc_,bx_,bg_,am_,ae_,ac_,b2_,bq_,ed_,bs_,ao_,a2_,az_,ar_,aw_,dw_,d6_,ea_,d3_,b5_,b1_,fl_,fn_,fh_,fu_,fp_,fz_,fq_,fk_,fr_,ft_,fs_,f0_,c5_,bt_,bd_,c3_,ck_,ct_,cx_,cr_,cj_,cf_,ch_,ci_,an_,cl_,dr_,cd_,a9_,a8_,a7_,ce_,fv_,d0_,cs_,Int.toNat_natCast,f3_,di_,dm_,dn_,gv_,g4_,gh_,gj_,gu_,gs_,f8_,f4_,Int.add_zero,Int.zero_add,Int.ediv_one,Nat.reduceAdd,Nat.reduceMul,Int.reduceNeg,Nat.reduceLeDiff,List.length_cons,List.length_nil,true_and,and_true,Nat.zero_add,eq_self,Nat.reduceEqDiff,Int.reduceAdd,Int.reduceSub,Int.reduceMul,not_true_eq_false,not_false_eq_true,Nat.reduceLT,Int.reduceToNat,Int.reduceEq,Int.reduceNe,Int.reduceLT,Int.reduceLE,or_true,and_false,false_and,false_implies,true_implies]
  refine ⟨fun c => ?_, fun c => ?_⟩
  · refine w_M_restore_19 ?_
    simp (disch := omega) only [cm_,aq_,ay_,ag_,b8_,af_,ba_,bc_,bx_,bg_,am_,ae_,ac_,b2_,bq_,ed_,bs_,ao_,a2_,az_,ar_,aw_,dw_,d6_,ea_,d3_,b5_,b1_,fl_,fn_,fh_,fu_,fp_,fz_,fq_,fk_,fr_,ft_,fs_,f0_,c5_,bt_,bd_,c3_,ck_,ct_,cx_,cr_,cj_,cf_,ch_,ci_,an_,cl_,dr_,cd_,a9_,a8_,a7_,ce_,fv_,d0_,cs_,Int.toNat_natCast,f3_,di_,dm_,dn_,gv_,g4_,gh_,gj_,gu_,gs_,f8_,f4_,Int.add_zero,Int.zero_add,Int.ediv_one,Nat.reduceAdd,Nat.reduceMul,Int.reduceNeg,Nat.reduceLeDiff,List.length_cons,List.length_nil,true_and,and_true,Nat.zero_add,eq_self,Nat.reduceEqDiff,Int.reduceAdd,Int.reduceSub,Int.reduceMul,not_true_eq_false,not_false_eq_true,Nat.reduceLT,Int.reduceToNat,Int.reduceEq,Int.reduceNe,Int.reduceLT,Int.reduceLE,or_true,and_false,false_and,false_implies,true_implies]
    refine con_give_G (S := I) (hIg (by omega)) hI.2.2 hII.2.2 ?_
    simp (disch := omega) only [cm_,aq_,ay_,ag_,b8_,af_,ba_,bc_,bx_,bg_,am_,ae_,ac_,b2_,bq_,ed_,bs_,ao_,a2_,az_,ar_,aw_,dw_,d6_,ea_,d3_,b5_,b1_,fl_,fn_,fh_,fu_,fp_,fz_,fq_,fk_,fr_,ft_,fs_,f0_,c5_,bt_,bd_,c3_,ck_,ct_,cx_,cr_,cj_,cf_,ch_,ci_,an_,cl_,dr_,cd_,a9_,a8_,a7_,ce_,fv_,d0_,cs_,Int.toNat_natCast,f3_,di_,dm_,dn_,gv_,g4_,gh_,gj_,gu_,gs_,f8_,f4_,Int.add_zero,Int.zero_add,Int.ediv_one,Nat.reduceAdd,Nat.reduceMul,Int.reduceNeg,Nat.reduceLeDiff,List.length_cons,List.length_nil,true_and,and_true,Nat.zero_add,eq_self,Nat.reduceEqDiff,Int.reduceAdd,Int.reduceSub,Int.reduceMul,not_true_eq_false,not_false_eq_true,Nat.reduceLT,Int.reduceToNat,Int.reduceEq,Int.reduceNe,Int.reduceLT,Int.reduceLE,or_true,and_false,false_and,false_implies,true_implies]
    exact ok (by omega) _ ⟨_, _, _, _, _, _, _, _, _, _, _, _, _, _, _, rfl, hIg, fun i hi => by omega, by omega⟩
  · refine con_Mrefuse (k := 3) (by omega) ?_
    simp (disch := omega) only [cm_,aq_,ay_,ag_,b8_,af_,ba_,bc_,bx_,bg_,am_,ae_,ac_,b2_,bq_,ed_,bs_,ao_,a2_,az_,ar_,aw_,dw_,d6_,ea_,d3_,b5_,b1_,fl_,fn_,fh_,fu_,fp_,fz_,fq_,fk_,fr_,ft_,fs_,f0_,c5_,bt_,bd_,c3_,ck_,ct_,cx_,cr_,cj_,cf_,ch_,ci_,an_,cl_,dr_,cd_,a9_,a8_,a7_,ce_,fv_,d0_,cs_,Int.toNat_natCast,f3_,di_,dm_,dn_,gv_,g4_,gh_,gj_,gu_,gs_,f8_,f4_,Int.add_zero,Int.zero_add,Int.ediv_one,Nat.reduceAdd,Nat.reduceMul,Int.reduceNeg,Nat.reduceLeDiff,List.length_cons,List.length_nil,true_and,and_true,Nat.zero_add,eq_self,Nat.reduceEqDiff,Int.reduceAdd,Int.reduceSub,Int.reduceMul,not_true_eq_false,not_false_eq_true,Nat.reduceLT,Int.reduceToNat,Int.reduceEq,Int.reduceNe,Int.reduceLT,Int.reduceLE,or_true,and_false,false_and,false_implies,true_implies]
    exact k3 (by omega)
end E3
end
/-! thinkM -/
section
/-! ===== the reference's methods that think days on ===== -/
section E4
variable {R I : RR} {im : Int} {P : Nat → RR} {pz : Int} {lt : Nat → Int} {lsz : Int} {tn : Nat → Int} {tsz : Int} {rf : Nat → Int} {bb h : AH} {Q : Option Value → AH → Prop}
theorem M_then {n w : Int} (hn : inI n) (hw : inI w) (hI : GI R)  (W : (MW R I im P pz lt lsz tn tsz rf bb h))
    (r4 : n < 0 → ∀ h, (MW R I im P pz lt lsz tn tsz (rfU rf 4) bb h) → Q (some (.int (zI (-4)))) h)
    (r6 : ¬ n < 0 → 60 < n → ∀ h, (MW R I im P pz lt lsz tn tsz (rfU rf 6) bb h) → Q (some (.int (zI (-6)))) h)
    (r2 : ¬ n < 0 → ¬ 60 < n → ¬ (0 ≤ w ∧ w ≤ 2) → ∀ h, (MW R I im P pz lt lsz tn tsz (rfU rf 2) bb h) → Q (some (.int (zI (-2)))) h)
    (ok : ¬ n < 0 → ¬ 60 < n → (0 ≤ w ∧ w ≤ 2) → ∀ h, (MW R I im P pz lt lsz tn tsz rf bb h) → Q (some (.int (zI (thA g6_ wtX R n.toNat w)))) h) : Con M_M_then [.ref 90, .int (zI n), .int (zI w)] h Q := by
  obtain ⟨a0, ib, sm, pl, lo, nu, kp, ig, p0, tk, ki, tu, tf, ga, sd, rfl, hIg, hTu, hPz⟩ := W
  obtain ⟨w1, w2⟩ := id hw
  have k4 := fun q => r4 q _ ⟨a0, ib, sm, pl, lo, nu, kp, ig, p0, tk, ki, tu, tf, ga, sd, rfl, hIg, hTu, hPz⟩
  have k6 := fun q q2 => r6 q q2 _ ⟨a0, ib, sm, pl, lo, nu, kp, ig, p0, tk, ki, tu, tf, ga, sd, rfl, hIg, hTu, hPz⟩
  have k2 := fun q q2 q3 => r2 q q2 q3 _ ⟨a0, ib, sm, pl, lo, nu, kp, ig, p0, tk, ki, tu, tf, ga, sd, rfl, hIg, hTu, hPz⟩
  refine g8_ (L := [some (.ref 90), some (.int (zI n)), some (.int (zI w)), none, none, none]) ok_M_then (Nat.le_of_ble_eq_true rfl) rfl ?_
  refine w_M_then_0 ?_
  simp (disch := omega) only [cm_,aq_,ay_,ag_,af_,cg_,bc_,am_,ac_,b2_,bq_,ed_,bs_,ao_,a2_,az_,aw_,dw_,d6_,ea_,d3_,b5_,fl_,fn_,fh_,fu_,fz_,fq_,fk_,fr_,ft_,f0_,c5_,bt_,bd_,c3_,ct_,cx_,cr_,ch_,an_,cd_,a9_,a8_,a7_,ce_,fv_,Int.toNat_natCast,di_,dm_,dn_,gv_,gx_,gu_,f4_,Int.add_zero,Int.zero_add,Int.ediv_one,Nat.reduceAdd,Nat.reduceMul,Int.reduceNeg,Nat.reduceLeDiff,List.length_cons,List.length_nil,true_and,and_true,Nat.zero_add,eq_self,Nat.reduceEqDiff,Int.reduceAdd,Int.reduceSub,Int.reduceMul,not_true_eq_false,not_false_eq_true,Nat.reduceLT,Int.reduceToNat,Int.reduceEq,Int.reduceNe,Int.reduceLT,Int.reduceLE,false_implies,true_implies]
  refine con_MwrongNumber hn (by unfold inI; omega) (by unfold inI; omega) (fun c2 => ?_) (fun c2 c3 => ?_) (fun c2 c3 => ?_)
  · simp (disch := omega) only [cm_,aq_,ay_,ag_,af_,cg_,bc_,am_,ac_,b2_,bq_,ed_,bs_,ao_,a2_,az_,aw_,dw_,d6_,ea_,d3_,b5_,fl_,fn_,fh_,fu_,fz_,fq_,fk_,fr_,ft_,f0_,c5_,bt_,bd_,c3_,ct_,cx_,cr_,ch_,an_,cd_,a9_,a8_,a7_,ce_,fv_,Int.toNat_natCast,di_,dm_,dn_,gv_,gx_,gu_,f4_,Int.add_zero,Int.zero_add,Int.ediv_one,Nat.reduceAdd,Nat.reduceMul,Int.reduceNeg,Nat.reduceLeDiff,List.length_cons,List.length_nil,true_and,and_true,Nat.zero_add,eq_self,Nat.reduceEqDiff,Int.reduceAdd,Int.reduceSub,Int.reduceMul,not_true_eq_false,not_false_eq_true,Nat.reduceLT,Int.reduceToNat,Int.reduceEq,Int.reduceNe,Int.reduceLT,Int.reduceLE,false_implies,true_implies]
    refine con_MwrongBit (by unfold inI; omega) hw (by unfold inI; omega) (fun q => by omega) (fun _ => ?_)
    simp (disch := omega) only [cm_,aq_,ay_,ag_,af_,cg_,bc_,am_,ac_,b2_,bq_,ed_,bs_,ao_,a2_,az_,aw_,dw_,d6_,ea_,d3_,b5_,fl_,fn_,fh_,fu_,fz_,fq_,fk_,fr_,ft_,f0_,c5_,bt_,bd_,c3_,ct_,cx_,cr_,ch_,an_,cd_,a9_,a8_,a7_,ce_,fv_,Int.toNat_natCast,di_,dm_,dn_,gv_,gx_,gu_,f4_,Int.add_zero,Int.zero_add,Int.ediv_one,Nat.reduceAdd,Nat.reduceMul,Int.reduceNeg,Nat.reduceLeDiff,List.length_cons,List.length_nil,true_and,and_true,Nat.zero_add,eq_self,Nat.reduceEqDiff,Int.reduceAdd,Int.reduceSub,Int.reduceMul,not_true_eq_false,not_false_eq_true,Nat.reduceLT,Int.reduceToNat,Int.reduceEq,Int.reduceNe,Int.reduceLT,Int.reduceLE,false_implies,true_implies]
    refine con_Mrefuse (k := 4) (by omega) ?_
    simp (disch := omega) only [cm_,aq_,ay_,ag_,af_,cg_,bc_,am_,ac_,b2_,bq_,ed_,bs_,ao_,a2_,az_,aw_,dw_,d6_,ea_,d3_,b5_,fl_,fn_,fh_,fu_,fz_,fq_,fk_,fr_,ft_,f0_,c5_,bt_,bd_,c3_,ct_,cx_,cr_,ch_,an_,cd_,a9_,a8_,a7_,ce_,fv_,Int.toNat_natCast,di_,dm_,dn_,gv_,gx_,gu_,f4_,Int.add_zero,Int.zero_add,Int.ediv_one,Nat.reduceAdd,Nat.reduceMul,Int.reduceNeg,Nat.reduceLeDiff,List.length_cons,List.length_nil,true_and,and_true,Nat.zero_add,eq_self,Nat.reduceEqDiff,Int.reduceAdd,Int.reduceSub,Int.reduceMul,not_true_eq_false,not_false_eq_true,Nat.reduceLT,Int.reduceToNat,Int.reduceEq,Int.reduceNe,Int.reduceLT,Int.reduceLE,false_implies,true_implies]
    exact k4 c2
  · simp (disch := omega) only [cm_,aq_,ay_,ag_,af_,cg_,bc_,am_,ac_,b2_,bq_,ed_,bs_,ao_,a2_,az_,aw_,dw_,d6_,ea_,d3_,b5_,fl_,fn_,fh_,fu_,fz_,fq_,fk_,fr_,ft_,f0_,c5_,bt_,bd_,c3_,ct_,cx_,cr_,ch_,an_,cd_,a9_,a8_,a7_,ce_,fv_,Int.toNat_natCast,di_,dm_,dn_,gv_,gx_,gu_,f4_,Int.add_zero,Int.zero_add,Int.ediv_one,Nat.reduceAdd,Nat.reduceMul,Int.reduceNeg,Nat.reduceLeDiff,List.length_cons,List.length_nil,true_and,and_true,Nat.zero_add,eq_self,Nat.reduceEqDiff,Int.reduceAdd,Int.reduceSub,Int.reduceMul,not_true_eq_false,not_false_eq_true,Nat.reduceLT,Int.reduceToNat,Int.reduceEq,Int.reduceNe,Int.reduceLT,Int.reduceLE,false_implies,true_implies]
    refine con_MwrongBit (by unfold inI; omega) hw (by unfold inI; omega) (fun q => by omega) (fun _ => ?_)
    simp (disch := omega) only [cm_,aq_,ay_,ag_,af_,cg_,bc_,am_,ac_,b2_,bq_,ed_,bs_,ao_,a2_,az_,aw_,dw_,d6_,ea_,d3_,b5_,fl_,fn_,fh_,fu_,fz_,fq_,fk_,fr_,ft_,f0_,c5_,bt_,bd_,c3_,ct_,cx_,cr_,ch_,an_,cd_,a9_,a8_,a7_,ce_,fv_,Int.toNat_natCast,di_,dm_,dn_,gv_,gx_,gu_,f4_,Int.add_zero,Int.zero_add,Int.ediv_one,Nat.reduceAdd,Nat.reduceMul,Int.reduceNeg,Nat.reduceLeDiff,List.length_cons,List.length_nil,true_and,and_true,Nat.zero_add,eq_self,Nat.reduceEqDiff,Int.reduceAdd,Int.reduceSub,Int.reduceMul,not_true_eq_false,not_false_eq_true,Nat.reduceLT,Int.reduceToNat,Int.reduceEq,Int.reduceNe,Int.reduceLT,Int.reduceLE,false_implies,true_implies]
    refine con_Mrefuse (k := 6) (by omega) ?_
    simp (disch := omega) only [cm_,aq_,ay_,ag_,af_,cg_,bc_,am_,ac_,b2_,bq_,ed_,bs_,ao_,a2_,az_,aw_,dw_,d6_,ea_,d3_,b5_,fl_,fn_,fh_,fu_,fz_,fq_,fk_,fr_,ft_,f0_,c5_,bt_,bd_,c3_,ct_,cx_,cr_,ch_,an_,cd_,a9_,a8_,a7_,ce_,fv_,Int.toNat_natCast,di_,dm_,dn_,gv_,gx_,gu_,f4_,Int.add_zero,Int.zero_add,Int.ediv_one,Nat.reduceAdd,Nat.reduceMul,Int.reduceNeg,Nat.reduceLeDiff,List.length_cons,List.length_nil,true_and,and_true,Nat.zero_add,eq_self,Nat.reduceEqDiff,Int.reduceAdd,Int.reduceSub,Int.reduceMul,not_true_eq_false,not_false_eq_true,Nat.reduceLT,Int.reduceToNat,Int.reduceEq,Int.reduceNe,Int.reduceLT,Int.reduceLE,false_implies,true_implies]
    exact k6 c2 c3
  · simp (disch := omega) only [cm_,aq_,ay_,ag_,af_,cg_,bc_,am_,ac_,b2_,bq_,ed_,bs_,ao_,a2_,az_,aw_,dw_,d6_,ea_,d3_,b5_,fl_,fn_,fh_,fu_,fz_,fq_,fk_,fr_,ft_,f0_,c5_,bt_,bd_,c3_,ct_,cx_,cr_,ch_,an_,cd_,a9_,a8_,a7_,ce_,fv_,Int.toNat_natCast,di_,dm_,dn_,gv_,gx_,gu_,f4_,Int.add_zero,Int.zero_add,Int.ediv_one,Nat.reduceAdd,Nat.reduceMul,Int.reduceNeg,Nat.reduceLeDiff,List.length_cons,List.length_nil,true_and,and_true,Nat.zero_add,eq_self,Nat.reduceEqDiff,Int.reduceAdd,Int.reduceSub,Int.reduceMul,not_true_eq_false,not_false_eq_true,Nat.reduceLT,Int.reduceToNat,Int.reduceEq,Int.reduceNe,Int.reduceLT,Int.reduceLE,false_implies,true_implies]
    refine con_MwrongBit (by unfold inI; omega) hw (by unfold inI; omega) (fun _ c4 => ?_) (fun c4 => ?_)
    · simp (disch := omega) only [cm_,aq_,ay_,ag_,af_,cg_,bc_,am_,ac_,b2_,bq_,ed_,bs_,ao_,a2_,az_,aw_,dw_,d6_,ea_,d3_,b5_,fl_,fn_,fh_,fu_,fz_,fq_,fk_,fr_,ft_,f0_,c5_,bt_,bd_,c3_,ct_,cx_,cr_,ch_,an_,cd_,a9_,a8_,a7_,ce_,fv_,Int.toNat_natCast,di_,dm_,dn_,gv_,gx_,gu_,f4_,Int.add_zero,Int.zero_add,Int.ediv_one,Nat.reduceAdd,Nat.reduceMul,Int.reduceNeg,Nat.reduceLeDiff,List.length_cons,List.length_nil,true_and,and_true,Nat.zero_add,eq_self,Nat.reduceEqDiff,Int.reduceAdd,Int.reduceSub,Int.reduceMul,not_true_eq_false,not_false_eq_true,Nat.reduceLT,Int.reduceToNat,Int.reduceEq,Int.reduceNe,Int.reduceLT,Int.reduceLE,false_implies,true_implies]
      refine con_Mrefuse (k := 2) (by omega) ?_
      simp (disch := omega) only [cm_,aq_,ay_,ag_,af_,cg_,bc_,am_,ac_,b2_,bq_,ed_,bs_,ao_,a2_,az_,aw_,dw_,d6_,ea_,d3_,b5_,fl_,fn_,fh_,fu_,fz_,fq_,fk_,fr_,ft_,f0_,c5_,bt_,bd_,c3_,ct_,cx_,cr_,ch_,an_,cd_,a9_,a8_,a7_,ce_,fv_,Int.toNat_natCast,di_,dm_,dn_,gv_,gx_,gu_,f4_,Int.add_zero,Int.zero_add,Int.ediv_one,Nat.reduceAdd,Nat.reduceMul,Int.reduceNeg,Nat.reduceLeDiff,List.length_cons,List.length_nil,true_and,and_true,Nat.zero_add,eq_self,Nat.reduceEqDiff,Int.reduceAdd,Int.reduceSub,Int.reduceMul,not_true_eq_false,not_false_eq_true,Nat.reduceLT,Int.reduceToNat,Int.reduceEq,Int.reduceNe,Int.reduceLT,Int.reduceLE,false_implies,true_implies]
      exact k2 c2 c3 c4
    · have c4 := c4 rfl
      have hnn : n = (n.toNat : Int) := by omega
      have kk := ok c2 c3 c4
      have hmk := (hI.1.dsX n.toNat).nM
      simp (disch := omega) only [cm_,aq_,ay_,ag_,af_,cg_,bc_,am_,ac_,b2_,bq_,ed_,bs_,ao_,a2_,az_,aw_,dw_,d6_,ea_,d3_,b5_,fl_,fn_,fh_,fu_,fz_,fq_,fk_,fr_,ft_,f0_,c5_,bt_,bd_,c3_,ct_,cx_,cr_,ch_,an_,cd_,a9_,a8_,a7_,ce_,fv_,Int.toNat_natCast,di_,dm_,dn_,gv_,gx_,gu_,f4_,Int.add_zero,Int.zero_add,Int.ediv_one,Nat.reduceAdd,Nat.reduceMul,Int.reduceNeg,Nat.reduceLeDiff,List.length_cons,List.length_nil,true_and,and_true,Nat.zero_add,eq_self,Nat.reduceEqDiff,Int.reduceAdd,Int.reduceSub,Int.reduceMul,not_true_eq_false,not_false_eq_true,Nat.reduceLT,Int.reduceToNat,Int.reduceEq,Int.reduceNe,Int.reduceLT,Int.reduceLE,false_implies,true_implies]
      refine w_M_then_28 ?_
      simp (disch := omega) only [cm_,aq_,ay_,ag_,af_,cg_,bc_,am_,ac_,b2_,bq_,ed_,bs_,ao_,a2_,az_,aw_,dw_,d6_,ea_,d3_,b5_,fl_,fn_,fh_,fu_,fz_,fq_,fk_,fr_,ft_,f0_,c5_,bt_,bd_,c3_,ct_,cx_,cr_,ch_,an_,cd_,a9_,a8_,a7_,ce_,fv_,Int.toNat_natCast,di_,dm_,dn_,gv_,gx_,gu_,f4_,Int.add_zero,Int.zero_add,Int.ediv_one,Nat.reduceAdd,Nat.reduceMul,Int.reduceNeg,Nat.reduceLeDiff,List.length_cons,List.length_nil,true_and,and_true,Nat.zero_add,eq_self,Nat.reduceEqDiff,Int.reduceAdd,Int.reduceSub,Int.reduceMul,not_true_eq_false,not_false_eq_true,Nat.reduceLT,Int.reduceToNat,Int.reduceEq,Int.reduceNe,Int.reduceLT,Int.reduceLE,false_implies,true_implies]
      refine con_Mthink (fun x hx => ?_)
      simp (disch := omega) only [cm_,aq_,ay_,ag_,af_,cg_,bc_,am_,ac_,b2_,bq_,ed_,bs_,ao_,a2_,az_,aw_,dw_,d6_,ea_,d3_,b5_,fl_,fn_,fh_,fu_,fz_,fq_,fk_,fr_,ft_,f0_,c5_,bt_,bd_,c3_,ct_,cx_,cr_,ch_,an_,cd_,a9_,a8_,a7_,ce_,fv_,Int.toNat_natCast,di_,dm_,dn_,gv_,gx_,gu_,f4_,Int.add_zero,Int.zero_add,Int.ediv_one,Nat.reduceAdd,Nat.reduceMul,Int.reduceNeg,Nat.reduceLeDiff,List.length_cons,List.length_nil,true_and,and_true,Nat.zero_add,eq_self,Nat.reduceEqDiff,Int.reduceAdd,Int.reduceSub,Int.reduceMul,not_true_eq_false,not_false_eq_true,Nat.reduceLT,Int.reduceToNat,Int.reduceEq,Int.reduceNe,Int.reduceLT,Int.reduceLE,false_implies,true_implies]
      rw [hnn]
      refine con_MwaitsIn (by omega) hI ?_
      simp only [thA] at kk
      have fin : ∀ v y, v = (if w = 0 then hd_ (g6_ R n.toNat) else if w = 1 then ((mask (isF (g6_ R n.toNat) 2) (hb_ (g6_ R n.toNat)) : Nat) : Int) else wtX R n.toNat) → J M_M_then 65 [some (.ref 90), some (.int (zI (n.toNat : Int))), some (.int (zI w)), some (.int (zI 0)), some (.int (zI (wtX R n.toNat))), y] [.int (zI v)] (HM (g6_ R n.toNat) rf lt lsz a0 ib sm pl lo nu x ig im 49 1 (.ref 101) tu pz tf tn tsz ga sd bb) Q := by
        intro v y hv
        refine w_M_then_65 ?_
        simp (disch := omega) only [cm_,aq_,ay_,ag_,af_,cg_,bc_,am_,ac_,b2_,bq_,ed_,bs_,ao_,a2_,az_,aw_,dw_,d6_,ea_,d3_,b5_,fl_,fn_,fh_,fu_,fz_,fq_,fk_,fr_,ft_,f0_,c5_,bt_,bd_,c3_,ct_,cx_,cr_,ch_,an_,cd_,a9_,a8_,a7_,ce_,fv_,Int.toNat_natCast,di_,dm_,dn_,gv_,gx_,gu_,f4_,Int.add_zero,Int.zero_add,Int.ediv_one,Nat.reduceAdd,Nat.reduceMul,Int.reduceNeg,Nat.reduceLeDiff,List.length_cons,List.length_nil,true_and,and_true,Nat.zero_add,eq_self,Nat.reduceEqDiff,Int.reduceAdd,Int.reduceSub,Int.reduceMul,not_true_eq_false,not_false_eq_true,Nat.reduceLT,Int.reduceToNat,Int.reduceEq,Int.reduceNe,Int.reduceLT,Int.reduceLE,false_implies,true_implies]
        refine con_Magain hx (hI.dsX n.toNat).2.2 hI.2.2 ?_
        simp (disch := omega) only [cm_,aq_,ay_,ag_,af_,cg_,bc_,am_,ac_,b2_,bq_,ed_,bs_,ao_,a2_,az_,aw_,dw_,d6_,ea_,d3_,b5_,fl_,fn_,fh_,fu_,fz_,fq_,fk_,fr_,ft_,f0_,c5_,bt_,bd_,c3_,ct_,cx_,cr_,ch_,an_,cd_,a9_,a8_,a7_,ce_,fv_,Int.toNat_natCast,di_,dm_,dn_,gv_,gx_,gu_,f4_,Int.add_zero,Int.zero_add,Int.ediv_one,Nat.reduceAdd,Nat.reduceMul,Int.reduceNeg,Nat.reduceLeDiff,List.length_cons,List.length_nil,true_and,and_true,Nat.zero_add,eq_self,Nat.reduceEqDiff,Int.reduceAdd,Int.reduceSub,Int.reduceMul,not_true_eq_false,not_false_eq_true,Nat.reduceLT,Int.reduceToNat,Int.reduceEq,Int.reduceNe,Int.reduceLT,Int.reduceLE,false_implies,true_implies]
        rw [hv]
        exact kk _ ⟨_, _, _, _, _, _, _, _, _, _, _, _, _, _, _, rfl, hIg, hTu, hPz⟩
      simp (disch := omega) only [cm_,aq_,ay_,ag_,af_,cg_,bc_,am_,ac_,b2_,bq_,ed_,bs_,ao_,a2_,az_,aw_,dw_,d6_,ea_,d3_,b5_,fl_,fn_,fh_,fu_,fz_,fq_,fk_,fr_,ft_,f0_,c5_,bt_,bd_,c3_,ct_,cx_,cr_,ch_,an_,cd_,a9_,a8_,a7_,ce_,fv_,Int.toNat_natCast,di_,dm_,dn_,gv_,gx_,gu_,f4_,Int.add_zero,Int.zero_add,Int.ediv_one,Nat.reduceAdd,Nat.reduceMul,Int.reduceNeg,Nat.reduceLeDiff,List.length_cons,List.length_nil,true_and,and_true,Nat.zero_add,eq_self,Nat.reduceEqDiff,Int.reduceAdd,Int.reduceSub,Int.reduceMul,not_true_eq_false,not_false_eq_true,Nat.reduceLT,Int.reduceToNat,Int.reduceEq,Int.reduceNe,Int.reduceLT,Int.reduceLE,false_implies,true_implies]
      have hw3 : w = 0 ∨ w = 1 ∨ w = 2 := by omega
      rcases hw3 with rfl | rfl | rfl
      · simp (disch := omega) only [cm_,aq_,ay_,ag_,af_,cg_,bc_,am_,ac_,b2_,bq_,ed_,bs_,ao_,a2_,az_,aw_,dw_,d6_,ea_,d3_,b5_,fl_,fn_,fh_,fu_,fz_,fq_,fk_,fr_,ft_,f0_,c5_,bt_,bd_,c3_,ct_,cx_,cr_,ch_,an_,cd_,a9_,a8_,a7_,ce_,fv_,Int.toNat_natCast,di_,dm_,dn_,gv_,gx_,gu_,f4_,Int.add_zero,Int.zero_add,Int.ediv_one,Nat.reduceAdd,Nat.reduceMul,Int.reduceNeg,Nat.reduceLeDiff,List.length_cons,List.length_nil,true_and,and_true,Nat.zero_add,eq_self,Nat.reduceEqDiff,Int.reduceAdd,Int.reduceSub,Int.reduceMul,not_true_eq_false,not_false_eq_true,Nat.reduceLT,Int.reduceToNat,Int.reduceEq,Int.reduceNe,Int.reduceLT,Int.reduceLE,false_implies,true_implies]
        exact fin _ _ rfl
      · simp (disch := omega) only [cm_,aq_,ay_,ag_,af_,cg_,bc_,am_,ac_,b2_,bq_,ed_,bs_,ao_,a2_,az_,aw_,dw_,d6_,ea_,d3_,b5_,fl_,fn_,fh_,fu_,fz_,fq_,fk_,fr_,ft_,f0_,c5_,bt_,bd_,c3_,ct_,cx_,cr_,ch_,an_,cd_,a9_,a8_,a7_,ce_,fv_,Int.toNat_natCast,di_,dm_,dn_,gv_,gx_,gu_,f4_,Int.add_zero,Int.zero_add,Int.ediv_one,Nat.reduceAdd,Nat.reduceMul,Int.reduceNeg,Nat.reduceLeDiff,List.length_cons,List.length_nil,true_and,and_true,Nat.zero_add,eq_self,Nat.reduceEqDiff,Int.reduceAdd,Int.reduceSub,Int.reduceMul,not_true_eq_false,not_false_eq_true,Nat.reduceLT,Int.reduceToNat,Int.reduceEq,Int.reduceNe,Int.reduceLT,Int.reduceLE,false_implies,true_implies]
        refine w_M_then_50 ?_
        simp (disch := omega) only [cm_,aq_,ay_,ag_,af_,cg_,bc_,am_,ac_,b2_,bq_,ed_,bs_,ao_,a2_,az_,aw_,dw_,d6_,ea_,d3_,b5_,fl_,fn_,fh_,fu_,fz_,fq_,fk_,fr_,ft_,f0_,c5_,bt_,bd_,c3_,ct_,cx_,cr_,ch_,an_,cd_,a9_,a8_,a7_,ce_,fv_,Int.toNat_natCast,di_,dm_,dn_,gv_,gx_,gu_,f4_,Int.add_zero,Int.zero_add,Int.ediv_one,Nat.reduceAdd,Nat.reduceMul,Int.reduceNeg,Nat.reduceLeDiff,List.length_cons,List.length_nil,true_and,and_true,Nat.zero_add,eq_self,Nat.reduceEqDiff,Int.reduceAdd,Int.reduceSub,Int.reduceMul,not_true_eq_false,not_false_eq_true,Nat.reduceLT,Int.reduceToNat,Int.reduceEq,Int.reduceNe,Int.reduceLT,Int.reduceLE,false_implies,true_implies]
        refine con_MbitsOf (by unfold inI; omega) (hI.dsX n.toNat).1 ?_
        simp (disch := omega) only [cm_,aq_,ay_,ag_,af_,cg_,bc_,am_,ac_,b2_,bq_,ed_,bs_,ao_,a2_,az_,aw_,dw_,d6_,ea_,d3_,b5_,fl_,fn_,fh_,fu_,fz_,fq_,fk_,fr_,ft_,f0_,c5_,bt_,bd_,c3_,ct_,cx_,cr_,ch_,an_,cd_,a9_,a8_,a7_,ce_,fv_,Int.toNat_natCast,di_,dm_,dn_,gv_,gx_,gu_,f4_,Int.add_zero,Int.zero_add,Int.ediv_one,Nat.reduceAdd,Nat.reduceMul,Int.reduceNeg,Nat.reduceLeDiff,List.length_cons,List.length_nil,true_and,and_true,Nat.zero_add,eq_self,Nat.reduceEqDiff,Int.reduceAdd,Int.reduceSub,Int.reduceMul,not_true_eq_false,not_false_eq_true,Nat.reduceLT,Int.reduceToNat,Int.reduceEq,Int.reduceNe,Int.reduceLT,Int.reduceLE,false_implies,true_implies]
        exact fin _ _ rfl
      · simp (disch := omega) only [cm_,aq_,ay_,ag_,af_,cg_,bc_,am_,ac_,b2_,bq_,ed_,bs_,ao_,a2_,az_,aw_,dw_,d6_,ea_,d3_,b5_,fl_,fn_,fh_,fu_,fz_,fq_,fk_,fr_,ft_,f0_,c5_,bt_,bd_,c3_,ct_,cx_,cr_,ch_,an_,cd_,a9_,a8_,a7_,ce_,fv_,Int.toNat_natCast,di_,dm_,dn_,gv_,gx_,gu_,f4_,Int.add_zero,Int.zero_add,Int.ediv_one,Nat.reduceAdd,Nat.reduceMul,Int.reduceNeg,Nat.reduceLeDiff,List.length_cons,List.length_nil,true_and,and_true,Nat.zero_add,eq_self,Nat.reduceEqDiff,Int.reduceAdd,Int.reduceSub,Int.reduceMul,not_true_eq_false,not_false_eq_true,Nat.reduceLT,Int.reduceToNat,Int.reduceEq,Int.reduceNe,Int.reduceLT,Int.reduceLE,false_implies,true_implies]
        refine w_M_then_50 ?_
        simp (disch := omega) only [cm_,aq_,ay_,ag_,af_,cg_,bc_,am_,ac_,b2_,bq_,ed_,bs_,ao_,a2_,az_,aw_,dw_,d6_,ea_,d3_,b5_,fl_,fn_,fh_,fu_,fz_,fq_,fk_,fr_,ft_,f0_,c5_,bt_,bd_,c3_,ct_,cx_,cr_,ch_,an_,cd_,a9_,a8_,a7_,ce_,fv_,Int.toNat_natCast,di_,dm_,dn_,gv_,gx_,gu_,f4_,Int.add_zero,Int.zero_add,Int.ediv_one,Nat.reduceAdd,Nat.reduceMul,Int.reduceNeg,Nat.reduceLeDiff,List.length_cons,List.length_nil,true_and,and_true,Nat.zero_add,eq_self,Nat.reduceEqDiff,Int.reduceAdd,Int.reduceSub,Int.reduceMul,not_true_eq_false,not_false_eq_true,Nat.reduceLT,Int.reduceToNat,Int.reduceEq,Int.reduceNe,Int.reduceLT,Int.reduceLE,false_implies,true_implies]
        refine w_M_then_63 ?_
        simp (disch := omega) only [cm_,aq_,ay_,ag_,af_,cg_,bc_,am_,ac_,b2_,bq_,ed_,bs_,ao_,a2_,az_,aw_,dw_,d6_,ea_,d3_,b5_,fl_,fn_,fh_,fu_,fz_,fq_,fk_,fr_,ft_,f0_,c5_,bt_,bd_,c3_,ct_,cx_,cr_,ch_,an_,cd_,a9_,a8_,a7_,ce_,fv_,Int.toNat_natCast,di_,dm_,dn_,gv_,gx_,gu_,f4_,Int.add_zero,Int.zero_add,Int.ediv_one,Nat.reduceAdd,Nat.reduceMul,Int.reduceNeg,Nat.reduceLeDiff,List.length_cons,List.length_nil,true_and,and_true,Nat.zero_add,eq_self,Nat.reduceEqDiff,Int.reduceAdd,Int.reduceSub,Int.reduceMul,not_true_eq_false,not_false_eq_true,Nat.reduceLT,Int.reduceToNat,Int.reduceEq,Int.reduceNe,Int.reduceLT,Int.reduceLE,false_implies,true_implies]
        exact fin _ _ rfl
theorem M_wornIn {m n : Int} (hm : inI m) (hn : inI n) (hI : GI R)  (W : (MW R I im P pz lt lsz tn tsz rf bb h))
    (r1 : ¬ g7_ R m → ∀ h, (MW R I im P pz lt lsz tn tsz (rfU rf 1) bb h) → Q (some (.int (zI (-1)))) h)
    (r4 : g7_ R m → n < 0 → ∀ h, (MW R I im P pz lt lsz tn tsz (rfU rf 4) bb h) → Q (some (.int (zI (-4)))) h)
    (r6 : g7_ R m → ¬ n < 0 → 60 < n → ∀ h, (MW R I im P pz lt lsz tn tsz (rfU rf 6) bb h) → Q (some (.int (zI (-6)))) h)
    (ok : g7_ R m → ¬ n < 0 → ¬ 60 < n → ∀ h, (MW R I im P pz lt lsz tn tsz rf bb h) → Q (some (.int (zI (rWo (g6_ R n.toNat) m.toNat)))) h) : Con M_M_wornIn [.ref 90, .int (zI m), .int (zI n)] h Q := by
  obtain ⟨a0, ib, sm, pl, lo, nu, kp, ig, p0, tk, ki, tu, tf, ga, sd, rfl, hIg, hTu, hPz⟩ := W
  have hG := hI.1
  have gm := hG.men
  have k1 := fun q => r1 q _ ⟨a0, ib, sm, pl, lo, nu, kp, ig, p0, tk, ki, tu, tf, ga, sd, rfl, hIg, hTu, hPz⟩
  have k4 := fun q q2 => r4 q q2 _ ⟨a0, ib, sm, pl, lo, nu, kp, ig, p0, tk, ki, tu, tf, ga, sd, rfl, hIg, hTu, hPz⟩
  have k6 := fun q q2 q3 => r6 q q2 q3 _ ⟨a0, ib, sm, pl, lo, nu, kp, ig, p0, tk, ki, tu, tf, ga, sd, rfl, hIg, hTu, hPz⟩
  refine g8_ (L := [some (.ref 90), some (.int (zI m)), some (.int (zI n)), none, none]) ok_M_wornIn (Nat.le_of_ble_eq_true rfl) rfl ?_
  refine w_M_wornIn_0 ?_
  simp (disch := omega) only [cm_,aq_,ay_,ag_,af_,cg_,bc_,am_,ac_,b2_,bq_,ed_,bs_,ao_,a2_,az_,aw_,dw_,d6_,ea_,d3_,b5_,fl_,fn_,fh_,fu_,fz_,fq_,fk_,fr_,ft_,f0_,c5_,bt_,bd_,c3_,ct_,cx_,cr_,ch_,an_,cd_,a9_,a8_,a7_,ce_,fv_,Int.toNat_natCast,di_,dm_,dn_,gv_,gx_,gu_,f4_,Int.add_zero,Int.zero_add,Int.ediv_one,Nat.reduceAdd,Nat.reduceMul,Int.reduceNeg,Nat.reduceLeDiff,List.length_cons,List.length_nil,true_and,and_true,Nat.zero_add,eq_self,Nat.reduceEqDiff,Int.reduceAdd,Int.reduceSub,Int.reduceMul,not_true_eq_false,not_false_eq_true,Nat.reduceLT,Int.reduceToNat,Int.reduceEq,Int.reduceNe,Int.reduceLT,Int.reduceLE,false_implies,true_implies]
  refine con_MisMan hm hG (fun c => ?_) (fun c => ?_)
  · simp (disch := omega) only [cm_,aq_,ay_,ag_,af_,cg_,bc_,am_,ac_,b2_,bq_,ed_,bs_,ao_,a2_,az_,aw_,dw_,d6_,ea_,d3_,b5_,fl_,fn_,fh_,fu_,fz_,fq_,fk_,fr_,ft_,f0_,c5_,bt_,bd_,c3_,ct_,cx_,cr_,ch_,an_,cd_,a9_,a8_,a7_,ce_,fv_,Int.toNat_natCast,di_,dm_,dn_,gv_,gx_,gu_,f4_,Int.add_zero,Int.zero_add,Int.ediv_one,Nat.reduceAdd,Nat.reduceMul,Int.reduceNeg,Nat.reduceLeDiff,List.length_cons,List.length_nil,true_and,and_true,Nat.zero_add,eq_self,Nat.reduceEqDiff,Int.reduceAdd,Int.reduceSub,Int.reduceMul,not_true_eq_false,not_false_eq_true,Nat.reduceLT,Int.reduceToNat,Int.reduceEq,Int.reduceNe,Int.reduceLT,Int.reduceLE,false_implies,true_implies]
    refine con_MwrongNumber hn (by unfold inI; omega) (by unfold inI; omega) (fun c2 => ?_) (fun c2 c3 => ?_) (fun c2 c3 => ?_)
    · simp (disch := omega) only [cm_,aq_,ay_,ag_,af_,cg_,bc_,am_,ac_,b2_,bq_,ed_,bs_,ao_,a2_,az_,aw_,dw_,d6_,ea_,d3_,b5_,fl_,fn_,fh_,fu_,fz_,fq_,fk_,fr_,ft_,f0_,c5_,bt_,bd_,c3_,ct_,cx_,cr_,ch_,an_,cd_,a9_,a8_,a7_,ce_,fv_,Int.toNat_natCast,di_,dm_,dn_,gv_,gx_,gu_,f4_,Int.add_zero,Int.zero_add,Int.ediv_one,Nat.reduceAdd,Nat.reduceMul,Int.reduceNeg,Nat.reduceLeDiff,List.length_cons,List.length_nil,true_and,and_true,Nat.zero_add,eq_self,Nat.reduceEqDiff,Int.reduceAdd,Int.reduceSub,Int.reduceMul,not_true_eq_false,not_false_eq_true,Nat.reduceLT,Int.reduceToNat,Int.reduceEq,Int.reduceNe,Int.reduceLT,Int.reduceLE,false_implies,true_implies]
      refine w_M_wornIn_24 ?_
      simp (disch := omega) only [cm_,aq_,ay_,ag_,af_,cg_,bc_,am_,ac_,b2_,bq_,ed_,bs_,ao_,a2_,az_,aw_,dw_,d6_,ea_,d3_,b5_,fl_,fn_,fh_,fu_,fz_,fq_,fk_,fr_,ft_,f0_,c5_,bt_,bd_,c3_,ct_,cx_,cr_,ch_,an_,cd_,a9_,a8_,a7_,ce_,fv_,Int.toNat_natCast,di_,dm_,dn_,gv_,gx_,gu_,f4_,Int.add_zero,Int.zero_add,Int.ediv_one,Nat.reduceAdd,Nat.reduceMul,Int.reduceNeg,Nat.reduceLeDiff,List.length_cons,List.length_nil,true_and,and_true,Nat.zero_add,eq_self,Nat.reduceEqDiff,Int.reduceAdd,Int.reduceSub,Int.reduceMul,not_true_eq_false,not_false_eq_true,Nat.reduceLT,Int.reduceToNat,Int.reduceEq,Int.reduceNe,Int.reduceLT,Int.reduceLE,false_implies,true_implies]
      refine con_Mrefuse (k := 4) (by omega) ?_
      simp (disch := omega) only [cm_,aq_,ay_,ag_,af_,cg_,bc_,am_,ac_,b2_,bq_,ed_,bs_,ao_,a2_,az_,aw_,dw_,d6_,ea_,d3_,b5_,fl_,fn_,fh_,fu_,fz_,fq_,fk_,fr_,ft_,f0_,c5_,bt_,bd_,c3_,ct_,cx_,cr_,ch_,an_,cd_,a9_,a8_,a7_,ce_,fv_,Int.toNat_natCast,di_,dm_,dn_,gv_,gx_,gu_,f4_,Int.add_zero,Int.zero_add,Int.ediv_one,Nat.reduceAdd,Nat.reduceMul,Int.reduceNeg,Nat.reduceLeDiff,List.length_cons,List.length_nil,true_and,and_true,Nat.zero_add,eq_self,Nat.reduceEqDiff,Int.reduceAdd,Int.reduceSub,Int.reduceMul,not_true_eq_false,not_false_eq_true,Nat.reduceLT,Int.reduceToNat,Int.reduceEq,Int.reduceNe,Int.reduceLT,Int.reduceLE,false_implies,true_implies]
      exact k4 c c2
    · simp (disch := omega) only [cm_,aq_,ay_,ag_,af_,cg_,bc_,am_,ac_,b2_,bq_,ed_,bs_,ao_,a2_,az_,aw_,dw_,d6_,ea_,d3_,b5_,fl_,fn_,fh_,fu_,fz_,fq_,fk_,fr_,ft_,f0_,c5_,bt_,bd_,c3_,ct_,cx_,cr_,ch_,an_,cd_,a9_,a8_,a7_,ce_,fv_,Int.toNat_natCast,di_,dm_,dn_,gv_,gx_,gu_,f4_,Int.add_zero,Int.zero_add,Int.ediv_one,Nat.reduceAdd,Nat.reduceMul,Int.reduceNeg,Nat.reduceLeDiff,List.length_cons,List.length_nil,true_and,and_true,Nat.zero_add,eq_self,Nat.reduceEqDiff,Int.reduceAdd,Int.reduceSub,Int.reduceMul,not_true_eq_false,not_false_eq_true,Nat.reduceLT,Int.reduceToNat,Int.reduceEq,Int.reduceNe,Int.reduceLT,Int.reduceLE,false_implies,true_implies]
      refine w_M_wornIn_24 ?_
      simp (disch := omega) only [cm_,aq_,ay_,ag_,af_,cg_,bc_,am_,ac_,b2_,bq_,ed_,bs_,ao_,a2_,az_,aw_,dw_,d6_,ea_,d3_,b5_,fl_,fn_,fh_,fu_,fz_,fq_,fk_,fr_,ft_,f0_,c5_,bt_,bd_,c3_,ct_,cx_,cr_,ch_,an_,cd_,a9_,a8_,a7_,ce_,fv_,Int.toNat_natCast,di_,dm_,dn_,gv_,gx_,gu_,f4_,Int.add_zero,Int.zero_add,Int.ediv_one,Nat.reduceAdd,Nat.reduceMul,Int.reduceNeg,Nat.reduceLeDiff,List.length_cons,List.length_nil,true_and,and_true,Nat.zero_add,eq_self,Nat.reduceEqDiff,Int.reduceAdd,Int.reduceSub,Int.reduceMul,not_true_eq_false,not_false_eq_true,Nat.reduceLT,Int.reduceToNat,Int.reduceEq,Int.reduceNe,Int.reduceLT,Int.reduceLE,false_implies,true_implies]
      refine con_Mrefuse (k := 6) (by omega) ?_
      simp (disch := omega) only [cm_,aq_,ay_,ag_,af_,cg_,bc_,am_,ac_,b2_,bq_,ed_,bs_,ao_,a2_,az_,aw_,dw_,d6_,ea_,d3_,b5_,fl_,fn_,fh_,fu_,fz_,fq_,fk_,fr_,ft_,f0_,c5_,bt_,bd_,c3_,ct_,cx_,cr_,ch_,an_,cd_,a9_,a8_,a7_,ce_,fv_,Int.toNat_natCast,di_,dm_,dn_,gv_,gx_,gu_,f4_,Int.add_zero,Int.zero_add,Int.ediv_one,Nat.reduceAdd,Nat.reduceMul,Int.reduceNeg,Nat.reduceLeDiff,List.length_cons,List.length_nil,true_and,and_true,Nat.zero_add,eq_self,Nat.reduceEqDiff,Int.reduceAdd,Int.reduceSub,Int.reduceMul,not_true_eq_false,not_false_eq_true,Nat.reduceLT,Int.reduceToNat,Int.reduceEq,Int.reduceNe,Int.reduceLT,Int.reduceLE,false_implies,true_implies]
      exact k6 c c2 c3
    · have hnn : n = (n.toNat : Int) := by omega
      have kk := ok c c2 c3
      simp (disch := omega) only [cm_,aq_,ay_,ag_,af_,cg_,bc_,am_,ac_,b2_,bq_,ed_,bs_,ao_,a2_,az_,aw_,dw_,d6_,ea_,d3_,b5_,fl_,fn_,fh_,fu_,fz_,fq_,fk_,fr_,ft_,f0_,c5_,bt_,bd_,c3_,ct_,cx_,cr_,ch_,an_,cd_,a9_,a8_,a7_,ce_,fv_,Int.toNat_natCast,di_,dm_,dn_,gv_,gx_,gu_,f4_,Int.add_zero,Int.zero_add,Int.ediv_one,Nat.reduceAdd,Nat.reduceMul,Int.reduceNeg,Nat.reduceLeDiff,List.length_cons,List.length_nil,true_and,and_true,Nat.zero_add,eq_self,Nat.reduceEqDiff,Int.reduceAdd,Int.reduceSub,Int.reduceMul,not_true_eq_false,not_false_eq_true,Nat.reduceLT,Int.reduceToNat,Int.reduceEq,Int.reduceNe,Int.reduceLT,Int.reduceLE,false_implies,true_implies]
      refine w_M_wornIn_24 ?_
      simp (disch := omega) only [cm_,aq_,ay_,ag_,af_,cg_,bc_,am_,ac_,b2_,bq_,ed_,bs_,ao_,a2_,az_,aw_,dw_,d6_,ea_,d3_,b5_,fl_,fn_,fh_,fu_,fz_,fq_,fk_,fr_,ft_,f0_,c5_,bt_,bd_,c3_,ct_,cx_,cr_,ch_,an_,cd_,a9_,a8_,a7_,ce_,fv_,Int.toNat_natCast,di_,dm_,dn_,gv_,gx_,gu_,f4_,Int.add_zero,Int.zero_add,Int.ediv_one,Nat.reduceAdd,Nat.reduceMul,Int.reduceNeg,Nat.reduceLeDiff,List.length_cons,List.length_nil,true_and,and_true,Nat.zero_add,eq_self,Nat.reduceEqDiff,Int.reduceAdd,Int.reduceSub,Int.reduceMul,not_true_eq_false,not_false_eq_true,Nat.reduceLT,Int.reduceToNat,Int.reduceEq,Int.reduceNe,Int.reduceLT,Int.reduceLE,false_implies,true_implies]
      refine w_M_wornIn_35 ?_
      simp (disch := omega) only [cm_,aq_,ay_,ag_,af_,cg_,bc_,am_,ac_,b2_,bq_,ed_,bs_,ao_,a2_,az_,aw_,dw_,d6_,ea_,d3_,b5_,fl_,fn_,fh_,fu_,fz_,fq_,fk_,fr_,ft_,f0_,c5_,bt_,bd_,c3_,ct_,cx_,cr_,ch_,an_,cd_,a9_,a8_,a7_,ce_,fv_,Int.toNat_natCast,di_,dm_,dn_,gv_,gx_,gu_,f4_,Int.add_zero,Int.zero_add,Int.ediv_one,Nat.reduceAdd,Nat.reduceMul,Int.reduceNeg,Nat.reduceLeDiff,List.length_cons,List.length_nil,true_and,and_true,Nat.zero_add,eq_self,Nat.reduceEqDiff,Int.reduceAdd,Int.reduceSub,Int.reduceMul,not_true_eq_false,not_false_eq_true,Nat.reduceLT,Int.reduceToNat,Int.reduceEq,Int.reduceNe,Int.reduceLT,Int.reduceLE,false_implies,true_implies]
      refine con_Mthink (fun x hx => ?_)
      simp (disch := omega) only [cm_,aq_,ay_,ag_,af_,cg_,bc_,am_,ac_,b2_,bq_,ed_,bs_,ao_,a2_,az_,aw_,dw_,d6_,ea_,d3_,b5_,fl_,fn_,fh_,fu_,fz_,fq_,fk_,fr_,ft_,f0_,c5_,bt_,bd_,c3_,ct_,cx_,cr_,ch_,an_,cd_,a9_,a8_,a7_,ce_,fv_,Int.toNat_natCast,di_,dm_,dn_,gv_,gx_,gu_,f4_,Int.add_zero,Int.zero_add,Int.ediv_one,Nat.reduceAdd,Nat.reduceMul,Int.reduceNeg,Nat.reduceLeDiff,List.length_cons,List.length_nil,true_and,and_true,Nat.zero_add,eq_self,Nat.reduceEqDiff,Int.reduceAdd,Int.reduceSub,Int.reduceMul,not_true_eq_false,not_false_eq_true,Nat.reduceLT,Int.reduceToNat,Int.reduceEq,Int.reduceNe,Int.reduceLT,Int.reduceLE,false_implies,true_implies]
      rw [hnn]
      refine con_MgoDays (by omega) hI ?_
      simp (disch := omega) only [cm_,aq_,ay_,ag_,af_,cg_,bc_,am_,ac_,b2_,bq_,ed_,bs_,ao_,a2_,az_,aw_,dw_,d6_,ea_,d3_,b5_,fl_,fn_,fh_,fu_,fz_,fq_,fk_,fr_,ft_,f0_,c5_,bt_,bd_,c3_,ct_,cx_,cr_,ch_,an_,cd_,a9_,a8_,a7_,ce_,fv_,Int.toNat_natCast,di_,dm_,dn_,gv_,gx_,gu_,f4_,Int.add_zero,Int.zero_add,Int.ediv_one,Nat.reduceAdd,Nat.reduceMul,Int.reduceNeg,Nat.reduceLeDiff,List.length_cons,List.length_nil,true_and,and_true,Nat.zero_add,eq_self,Nat.reduceEqDiff,Int.reduceAdd,Int.reduceSub,Int.reduceMul,not_true_eq_false,not_false_eq_true,Nat.reduceLT,Int.reduceToNat,Int.reduceEq,Int.reduceNe,Int.reduceLT,Int.reduceLE,false_implies,true_implies]
      refine ⟨by omega, ?_⟩
      refine con_Magain hx (hI.dsX n.toNat).2.2 hI.2.2 ?_
      simp (disch := omega) only [cm_,aq_,ay_,ag_,af_,cg_,bc_,am_,ac_,b2_,bq_,ed_,bs_,ao_,a2_,az_,aw_,dw_,d6_,ea_,d3_,b5_,fl_,fn_,fh_,fu_,fz_,fq_,fk_,fr_,ft_,f0_,c5_,bt_,bd_,c3_,ct_,cx_,cr_,ch_,an_,cd_,a9_,a8_,a7_,ce_,fv_,Int.toNat_natCast,di_,dm_,dn_,gv_,gx_,gu_,f4_,Int.add_zero,Int.zero_add,Int.ediv_one,Nat.reduceAdd,Nat.reduceMul,Int.reduceNeg,Nat.reduceLeDiff,List.length_cons,List.length_nil,true_and,and_true,Nat.zero_add,eq_self,Nat.reduceEqDiff,Int.reduceAdd,Int.reduceSub,Int.reduceMul,not_true_eq_false,not_false_eq_true,Nat.reduceLT,Int.reduceToNat,Int.reduceEq,Int.reduceNe,Int.reduceLT,Int.reduceLE,false_implies,true_implies]
      exact kk _ ⟨_, _, _, _, _, _, _, _, _, _, _, _, _, _, _, rfl, hIg, hTu, hPz⟩
  · simp (disch := omega) only [cm_,aq_,ay_,ag_,af_,cg_,bc_,am_,ac_,b2_,bq_,ed_,bs_,ao_,a2_,az_,aw_,dw_,d6_,ea_,d3_,b5_,fl_,fn_,fh_,fu_,fz_,fq_,fk_,fr_,ft_,f0_,c5_,bt_,bd_,c3_,ct_,cx_,cr_,ch_,an_,cd_,a9_,a8_,a7_,ce_,fv_,Int.toNat_natCast,di_,dm_,dn_,gv_,gx_,gu_,f4_,Int.add_zero,Int.zero_add,Int.ediv_one,Nat.reduceAdd,Nat.reduceMul,Int.reduceNeg,Nat.reduceLeDiff,List.length_cons,List.length_nil,true_and,and_true,Nat.zero_add,eq_self,Nat.reduceEqDiff,Int.reduceAdd,Int.reduceSub,Int.reduceMul,not_true_eq_false,not_false_eq_true,Nat.reduceLT,Int.reduceToNat,Int.reduceEq,Int.reduceNe,Int.reduceLT,Int.reduceLE,false_implies,true_implies]
    refine w_M_wornIn_23 ?_
    simp (disch := omega) only [cm_,aq_,ay_,ag_,af_,cg_,bc_,am_,ac_,b2_,bq_,ed_,bs_,ao_,a2_,az_,aw_,dw_,d6_,ea_,d3_,b5_,fl_,fn_,fh_,fu_,fz_,fq_,fk_,fr_,ft_,f0_,c5_,bt_,bd_,c3_,ct_,cx_,cr_,ch_,an_,cd_,a9_,a8_,a7_,ce_,fv_,Int.toNat_natCast,di_,dm_,dn_,gv_,gx_,gu_,f4_,Int.add_zero,Int.zero_add,Int.ediv_one,Nat.reduceAdd,Nat.reduceMul,Int.reduceNeg,Nat.reduceLeDiff,List.length_cons,List.length_nil,true_and,and_true,Nat.zero_add,eq_self,Nat.reduceEqDiff,Int.reduceAdd,Int.reduceSub,Int.reduceMul,not_true_eq_false,not_false_eq_true,Nat.reduceLT,Int.reduceToNat,Int.reduceEq,Int.reduceNe,Int.reduceLT,Int.reduceLE,false_implies,true_implies]
    refine w_M_wornIn_24 ?_
    simp (disch := omega) only [cm_,aq_,ay_,ag_,af_,cg_,bc_,am_,ac_,b2_,bq_,ed_,bs_,ao_,a2_,az_,aw_,dw_,d6_,ea_,d3_,b5_,fl_,fn_,fh_,fu_,fz_,fq_,fk_,fr_,ft_,f0_,c5_,bt_,bd_,c3_,ct_,cx_,cr_,ch_,an_,cd_,a9_,a8_,a7_,ce_,fv_,Int.toNat_natCast,di_,dm_,dn_,gv_,gx_,gu_,f4_,Int.add_zero,Int.zero_add,Int.ediv_one,Nat.reduceAdd,Nat.reduceMul,Int.reduceNeg,Nat.reduceLeDiff,List.length_cons,List.length_nil,true_and,and_true,Nat.zero_add,eq_self,Nat.reduceEqDiff,Int.reduceAdd,Int.reduceSub,Int.reduceMul,not_true_eq_false,not_false_eq_true,Nat.reduceLT,Int.reduceToNat,Int.reduceEq,Int.reduceNe,Int.reduceLT,Int.reduceLE,false_implies,true_implies]
    refine con_Mrefuse (k := 1) (by omega) ?_
    simp (disch := omega) only [cm_,aq_,ay_,ag_,af_,cg_,bc_,am_,ac_,b2_,bq_,ed_,bs_,ao_,a2_,az_,aw_,dw_,d6_,ea_,d3_,b5_,fl_,fn_,fh_,fu_,fz_,fq_,fk_,fr_,ft_,f0_,c5_,bt_,bd_,c3_,ct_,cx_,cr_,ch_,an_,cd_,a9_,a8_,a7_,ce_,fv_,Int.toNat_natCast,di_,dm_,dn_,gv_,gx_,gu_,f4_,Int.add_zero,Int.zero_add,Int.ediv_one,Nat.reduceAdd,Nat.reduceMul,Int.reduceNeg,Nat.reduceLeDiff,List.length_cons,List.length_nil,true_and,and_true,Nat.zero_add,eq_self,Nat.reduceEqDiff,Int.reduceAdd,Int.reduceSub,Int.reduceMul,not_true_eq_false,not_false_eq_true,Nat.reduceLT,Int.reduceToNat,Int.reduceEq,Int.reduceNe,Int.reduceLT,Int.reduceLE,false_implies,true_implies]
    exact k1 c
theorem M_eased {n : Int} (hn : inI n) (hI : GI R)  (W : (MW R I im P pz lt lsz tn tsz rf bb h))
    (r4 : n < 0 → ∀ h, (MW R I im P pz lt lsz tn tsz (rfU rf 4) bb h) → Q (some (.int (zI 1000000004))) h)
    (r6 : ¬ n < 0 → 60 < n → ∀ h, (MW R I im P pz lt lsz tn tsz (rfU rf 6) bb h) → Q (some (.int (zI 1000000006))) h)
    (ok : ¬ n < 0 → ¬ 60 < n → ∀ h, (MW R I im P pz lt lsz tn tsz rf bb h) → Q (some (.int (zI (hd_ (g6_ (sSnow R 0) n.toNat) - hd_ (g6_ R n.toNat))))) h) : Con M_M_eased [.ref 90, .int (zI n)] h Q := by
  obtain ⟨a0, ib, sm, pl, lo, nu, kp, ig, p0, tk, ki, tu, tf, ga, sd, rfl, hIg, hTu, hPz⟩ := W
  have k4 := fun q => r4 q _ ⟨a0, ib, sm, pl, lo, nu, kp, ig, p0, tk, ki, tu, tf, ga, sd, rfl, hIg, hTu, hPz⟩
  have k6 := fun q q2 => r6 q q2 _ ⟨a0, ib, sm, pl, lo, nu, kp, ig, p0, tk, ki, tu, tf, ga, sd, rfl, hIg, hTu, hPz⟩
  refine g8_ (L := [some (.ref 90), some (.int (zI n)), none, none]) ok_M_eased (Nat.le_of_ble_eq_true rfl) rfl ?_
  refine w_M_eased_0 ?_
  simp (disch := omega) only [cm_,aq_,ay_,ag_,af_,cg_,bc_,am_,ac_,b2_,bq_,ed_,bs_,ao_,a2_,az_,aw_,dw_,d6_,ea_,d3_,b5_,fl_,fn_,fh_,fu_,fz_,fq_,fk_,fr_,ft_,f0_,c5_,bt_,bd_,c3_,ct_,cx_,cr_,ch_,an_,cd_,a9_,a8_,a7_,ce_,fv_,Int.toNat_natCast,di_,dm_,dn_,gv_,gx_,gu_,f4_,Int.add_zero,Int.zero_add,Int.ediv_one,Nat.reduceAdd,Nat.reduceMul,Int.reduceNeg,Nat.reduceLeDiff,List.length_cons,List.length_nil,true_and,and_true,Nat.zero_add,eq_self,Nat.reduceEqDiff,Int.reduceAdd,Int.reduceSub,Int.reduceMul,not_true_eq_false,not_false_eq_true,Nat.reduceLT,Int.reduceToNat,Int.reduceEq,Int.reduceNe,Int.reduceLT,Int.reduceLE,false_implies,true_implies]
  refine con_MwrongNumber hn (by unfold inI; omega) (by unfold inI; omega) (fun c2 => ?_) (fun c2 c3 => ?_) (fun c2 c3 => ?_)
  · simp (disch := omega) only [cm_,aq_,ay_,ag_,af_,cg_,bc_,am_,ac_,b2_,bq_,ed_,bs_,ao_,a2_,az_,aw_,dw_,d6_,ea_,d3_,b5_,fl_,fn_,fh_,fu_,fz_,fq_,fk_,fr_,ft_,f0_,c5_,bt_,bd_,c3_,ct_,cx_,cr_,ch_,an_,cd_,a9_,a8_,a7_,ce_,fv_,Int.toNat_natCast,di_,dm_,dn_,gv_,gx_,gu_,f4_,Int.add_zero,Int.zero_add,Int.ediv_one,Nat.reduceAdd,Nat.reduceMul,Int.reduceNeg,Nat.reduceLeDiff,List.length_cons,List.length_nil,true_and,and_true,Nat.zero_add,eq_self,Nat.reduceEqDiff,Int.reduceAdd,Int.reduceSub,Int.reduceMul,not_true_eq_false,not_false_eq_true,Nat.reduceLT,Int.reduceToNat,Int.reduceEq,Int.reduceNe,Int.reduceLT,Int.reduceLE,false_implies,true_implies]
    refine con_Mrefuse (k := 4) (by omega) ?_
    simp (disch := omega) only [cm_,aq_,ay_,ag_,af_,cg_,bc_,am_,ac_,b2_,bq_,ed_,bs_,ao_,a2_,az_,aw_,dw_,d6_,ea_,d3_,b5_,fl_,fn_,fh_,fu_,fz_,fq_,fk_,fr_,ft_,f0_,c5_,bt_,bd_,c3_,ct_,cx_,cr_,ch_,an_,cd_,a9_,a8_,a7_,ce_,fv_,Int.toNat_natCast,di_,dm_,dn_,gv_,gx_,gu_,f4_,Int.add_zero,Int.zero_add,Int.ediv_one,Nat.reduceAdd,Nat.reduceMul,Int.reduceNeg,Nat.reduceLeDiff,List.length_cons,List.length_nil,true_and,and_true,Nat.zero_add,eq_self,Nat.reduceEqDiff,Int.reduceAdd,Int.reduceSub,Int.reduceMul,not_true_eq_false,not_false_eq_true,Nat.reduceLT,Int.reduceToNat,Int.reduceEq,Int.reduceNe,Int.reduceLT,Int.reduceLE,false_implies,true_implies]
    exact k4 c2
  · simp (disch := omega) only [cm_,aq_,ay_,ag_,af_,cg_,bc_,am_,ac_,b2_,bq_,ed_,bs_,ao_,a2_,az_,aw_,dw_,d6_,ea_,d3_,b5_,fl_,fn_,fh_,fu_,fz_,fq_,fk_,fr_,ft_,f0_,c5_,bt_,bd_,c3_,ct_,cx_,cr_,ch_,an_,cd_,a9_,a8_,a7_,ce_,fv_,Int.toNat_natCast,di_,dm_,dn_,gv_,gx_,gu_,f4_,Int.add_zero,Int.zero_add,Int.ediv_one,Nat.reduceAdd,Nat.reduceMul,Int.reduceNeg,Nat.reduceLeDiff,List.length_cons,List.length_nil,true_and,and_true,Nat.zero_add,eq_self,Nat.reduceEqDiff,Int.reduceAdd,Int.reduceSub,Int.reduceMul,not_true_eq_false,not_false_eq_true,Nat.reduceLT,Int.reduceToNat,Int.reduceEq,Int.reduceNe,Int.reduceLT,Int.reduceLE,false_implies,true_implies]
    refine con_Mrefuse (k := 6) (by omega) ?_
    simp (disch := omega) only [cm_,aq_,ay_,ag_,af_,cg_,bc_,am_,ac_,b2_,bq_,ed_,bs_,ao_,a2_,az_,aw_,dw_,d6_,ea_,d3_,b5_,fl_,fn_,fh_,fu_,fz_,fq_,fk_,fr_,ft_,f0_,c5_,bt_,bd_,c3_,ct_,cx_,cr_,ch_,an_,cd_,a9_,a8_,a7_,ce_,fv_,Int.toNat_natCast,di_,dm_,dn_,gv_,gx_,gu_,f4_,Int.add_zero,Int.zero_add,Int.ediv_one,Nat.reduceAdd,Nat.reduceMul,Int.reduceNeg,Nat.reduceLeDiff,List.length_cons,List.length_nil,true_and,and_true,Nat.zero_add,eq_self,Nat.reduceEqDiff,Int.reduceAdd,Int.reduceSub,Int.reduceMul,not_true_eq_false,not_false_eq_true,Nat.reduceLT,Int.reduceToNat,Int.reduceEq,Int.reduceNe,Int.reduceLT,Int.reduceLE,false_implies,true_implies]
    exact k6 c2 c3
  · have hnn : n = (n.toNat : Int) := by omega
    have kk := ok c2 c3
    simp (disch := omega) only [cm_,aq_,ay_,ag_,af_,cg_,bc_,am_,ac_,b2_,bq_,ed_,bs_,ao_,a2_,az_,aw_,dw_,d6_,ea_,d3_,b5_,fl_,fn_,fh_,fu_,fz_,fq_,fk_,fr_,ft_,f0_,c5_,bt_,bd_,c3_,ct_,cx_,cr_,ch_,an_,cd_,a9_,a8_,a7_,ce_,fv_,Int.toNat_natCast,di_,dm_,dn_,gv_,gx_,gu_,f4_,Int.add_zero,Int.zero_add,Int.ediv_one,Nat.reduceAdd,Nat.reduceMul,Int.reduceNeg,Nat.reduceLeDiff,List.length_cons,List.length_nil,true_and,and_true,Nat.zero_add,eq_self,Nat.reduceEqDiff,Int.reduceAdd,Int.reduceSub,Int.reduceMul,not_true_eq_false,not_false_eq_true,Nat.reduceLT,Int.reduceToNat,Int.reduceEq,Int.reduceNe,Int.reduceLT,Int.reduceLE,false_implies,true_implies]
    refine w_M_eased_26 ?_
    simp (disch := omega) only [cm_,aq_,ay_,ag_,af_,cg_,bc_,am_,ac_,b2_,bq_,ed_,bs_,ao_,a2_,az_,aw_,dw_,d6_,ea_,d3_,b5_,fl_,fn_,fh_,fu_,fz_,fq_,fk_,fr_,ft_,f0_,c5_,bt_,bd_,c3_,ct_,cx_,cr_,ch_,an_,cd_,a9_,a8_,a7_,ce_,fv_,Int.toNat_natCast,di_,dm_,dn_,gv_,gx_,gu_,f4_,Int.add_zero,Int.zero_add,Int.ediv_one,Nat.reduceAdd,Nat.reduceMul,Int.reduceNeg,Nat.reduceLeDiff,List.length_cons,List.length_nil,true_and,and_true,Nat.zero_add,eq_self,Nat.reduceEqDiff,Int.reduceAdd,Int.reduceSub,Int.reduceMul,not_true_eq_false,not_false_eq_true,Nat.reduceLT,Int.reduceToNat,Int.reduceEq,Int.reduceNe,Int.reduceLT,Int.reduceLE,false_implies,true_implies]
    refine con_Mthink (fun x hx => ?_)
    simp (disch := omega) only [cm_,aq_,ay_,ag_,af_,cg_,bc_,am_,ac_,b2_,bq_,ed_,bs_,ao_,a2_,az_,aw_,dw_,d6_,ea_,d3_,b5_,fl_,fn_,fh_,fu_,fz_,fq_,fk_,fr_,ft_,f0_,c5_,bt_,bd_,c3_,ct_,cx_,cr_,ch_,an_,cd_,a9_,a8_,a7_,ce_,fv_,Int.toNat_natCast,di_,dm_,dn_,gv_,gx_,gu_,f4_,Int.add_zero,Int.zero_add,Int.ediv_one,Nat.reduceAdd,Nat.reduceMul,Int.reduceNeg,Nat.reduceLeDiff,List.length_cons,List.length_nil,true_and,and_true,Nat.zero_add,eq_self,Nat.reduceEqDiff,Int.reduceAdd,Int.reduceSub,Int.reduceMul,not_true_eq_false,not_false_eq_true,Nat.reduceLT,Int.reduceToNat,Int.reduceEq,Int.reduceNe,Int.reduceLT,Int.reduceLE,false_implies,true_implies]
    rw [hnn]
    refine con_MkingThen (S := R) (by omega) hI hx hI.2.2 ?_
    simp (disch := omega) only [cm_,aq_,ay_,ag_,af_,cg_,bc_,am_,ac_,b2_,bq_,ed_,bs_,ao_,a2_,az_,aw_,dw_,d6_,ea_,d3_,b5_,fl_,fn_,fh_,fu_,fz_,fq_,fk_,fr_,ft_,f0_,c5_,bt_,bd_,c3_,ct_,cx_,cr_,ch_,an_,cd_,a9_,a8_,a7_,ce_,fv_,Int.toNat_natCast,di_,dm_,dn_,gv_,gx_,gu_,f4_,Int.add_zero,Int.zero_add,Int.ediv_one,Nat.reduceAdd,Nat.reduceMul,Int.reduceNeg,Nat.reduceLeDiff,List.length_cons,List.length_nil,true_and,and_true,Nat.zero_add,eq_self,Nat.reduceEqDiff,Int.reduceAdd,Int.reduceSub,Int.reduceMul,not_true_eq_false,not_false_eq_true,Nat.reduceLT,Int.reduceToNat,Int.reduceEq,Int.reduceNe,Int.reduceLT,Int.reduceLE,false_implies,true_implies]
    refine con_MkingThen (R := sSnow R 0) (S := R) (by omega) (hI.setSnow (by omega)) hx hI.2.2 ?_
    simp (disch := omega) only [cm_,aq_,ay_,ag_,af_,cg_,bc_,am_,ac_,b2_,bq_,ed_,bs_,ao_,a2_,az_,aw_,dw_,d6_,ea_,d3_,b5_,fl_,fn_,fh_,fu_,fz_,fq_,fk_,fr_,ft_,f0_,c5_,bt_,bd_,c3_,ct_,cx_,cr_,ch_,an_,cd_,a9_,a8_,a7_,ce_,fv_,Int.toNat_natCast,di_,dm_,dn_,gv_,gx_,gu_,f4_,Int.add_zero,Int.zero_add,Int.ediv_one,Nat.reduceAdd,Nat.reduceMul,Int.reduceNeg,Nat.reduceLeDiff,List.length_cons,List.length_nil,true_and,and_true,Nat.zero_add,eq_self,Nat.reduceEqDiff,Int.reduceAdd,Int.reduceSub,Int.reduceMul,not_true_eq_false,not_false_eq_true,Nat.reduceLT,Int.reduceToNat,Int.reduceEq,Int.reduceNe,Int.reduceLT,Int.reduceLE,false_implies,true_implies]
    exact kk _ ⟨_, _, _, _, _, _, _, _, _, _, _, _, _, _, _, rfl, hIg, hTu, hPz⟩
end E4
end
/-! shortM -/
section
/-! ===== the reference's short answers ===== -/
section E5
variable {R I : RR} {im : Int} {P : Nat → RR} {pz : Int} {lt : Nat → Int} {lsz : Int} {tn : Nat → Int} {tsz : Int} {rf : Nat → Int} {bb h : AH} {Q : Option Value → AH → Prop}
theorem M_shares {n w : Int} (hn : inI n) (hw : inI w) (hI : GI R)  (W : (MW R I im P pz lt lsz tn tsz rf bb h))
    (r4 : n < 1 → ∀ h, (MW R I im P pz lt lsz tn tsz (rfU rf 4) bb h) → Q (some (.int (zI (-4)))) h)
    (r6 : ¬ n < 1 → 9 < n → ∀ h, (MW R I im P pz lt lsz tn tsz (rfU rf 6) bb h) → Q (some (.int (zI (-6)))) h)
    (r2 : ¬ n < 1 → ¬ 9 < n → ¬ (w = 0 ∨ w = 1) → ∀ h, (MW R I im P pz lt lsz tn tsz (rfU rf 2) bb h) → Q (some (.int (zI (-2)))) h)
    (ok : ¬ n < 1 → ¬ 9 < n → (w = 0 ∨ w = 1) → ∀ h, (MW R I im P pz lt lsz tn tsz rf bb h) → Q (some (.int (zI (if w = 0 then needed R / n else needed R % n)))) h) : Con M_M_shares [.ref 90, .int (zI n), .int (zI w)] h Q := by
  obtain ⟨a0, ib, sm, pl, lo, nu, kp, ig, p0, tk, ki, tu, tf, ga, sd, rfl, hIg, hTu, hPz⟩ := W
  have hG := hI.1
  obtain ⟨n1, n2⟩ := id hn
  obtain ⟨w1, w2⟩ := id hw
  have n3 := needed_rng hG
  have k4 := fun q => r4 q _ ⟨a0, ib, sm, pl, lo, nu, kp, ig, p0, tk, ki, tu, tf, ga, sd, rfl, hIg, hTu, hPz⟩
  have k6 := fun q q2 => r6 q q2 _ ⟨a0, ib, sm, pl, lo, nu, kp, ig, p0, tk, ki, tu, tf, ga, sd, rfl, hIg, hTu, hPz⟩
  have k2 := fun q q2 q3 => r2 q q2 q3 _ ⟨a0, ib, sm, pl, lo, nu, kp, ig, p0, tk, ki, tu, tf, ga, sd, rfl, hIg, hTu, hPz⟩
  have kk := fun q q2 q3 => ok q q2 q3 _ ⟨a0, ib, sm, pl, lo, nu, kp, ig, p0, tk, ki, tu, tf, ga, sd, rfl, hIg, hTu, hPz⟩
  refine g8_ (L := [some (.ref 90), some (.int (zI n)), some (.int (zI w)), none]) ok_M_shares (Nat.le_of_ble_eq_true rfl) rfl ?_
  refine w_M_shares_0 ?_
  simp (disch := omega) only [cm_,aq_,ay_,ag_,b8_,af_,bm_,ah_,ba_,bc_,bh_,bl_,c0_,bg_,am_,ae_,ac_,b2_,bq_,ed_,bs_,ao_,a2_,az_,a4_,aw_,dw_,d6_,ea_,d3_,b5_,b1_,fl_,fn_,fh_,fu_,fp_,fz_,fq_,fk_,fr_,ft_,fs_,f0_,c5_,bd_,c3_,ct_,cx_,cr_,cz_,cf_,ch_,ci_,an_,cl_,fv_,d1_,cq_,Int.toNat_natCast,f3_,di_,dm_,dn_,er_,gv_,g0_,g4_,gx_,ge_,gu_,ga_,f4_,Int.add_zero,Int.zero_add,Int.ediv_one,Nat.reduceAdd,Nat.reduceMul,Int.reduceNeg,Nat.reduceLeDiff,List.length_cons,List.length_nil,true_and,and_true,Nat.zero_add,eq_self,Nat.reduceEqDiff,Int.reduceAdd,Int.reduceSub,Int.reduceMul,not_true_eq_false,not_false_eq_true,Nat.reduceLT,Int.reduceToNat,Int.reduceEq,Int.reduceNe,Int.reduceLT,Int.reduceLE,false_and,false_implies,true_implies]
  refine con_MwrongNumber hn (by unfold inI; omega) (by unfold inI; omega) (fun c2 => ?_) (fun c2 c3 => ?_) (fun c2 c3 => ?_)
  · simp (disch := omega) only [cm_,aq_,ay_,ag_,b8_,af_,bm_,ah_,ba_,bc_,bh_,bl_,c0_,bg_,am_,ae_,ac_,b2_,bq_,ed_,bs_,ao_,a2_,az_,a4_,aw_,dw_,d6_,ea_,d3_,b5_,b1_,fl_,fn_,fh_,fu_,fp_,fz_,fq_,fk_,fr_,ft_,fs_,f0_,c5_,bd_,c3_,ct_,cx_,cr_,cz_,cf_,ch_,ci_,an_,cl_,fv_,d1_,cq_,Int.toNat_natCast,f3_,di_,dm_,dn_,er_,gv_,g0_,g4_,gx_,ge_,gu_,ga_,f4_,Int.add_zero,Int.zero_add,Int.ediv_one,Nat.reduceAdd,Nat.reduceMul,Int.reduceNeg,Nat.reduceLeDiff,List.length_cons,List.length_nil,true_and,and_true,Nat.zero_add,eq_self,Nat.reduceEqDiff,Int.reduceAdd,Int.reduceSub,Int.reduceMul,not_true_eq_false,not_false_eq_true,Nat.reduceLT,Int.reduceToNat,Int.reduceEq,Int.reduceNe,Int.reduceLT,Int.reduceLE,false_and,false_implies,true_implies]
    refine con_MwrongBit (by unfold inI; omega) hw (by unfold inI; omega) (fun q => by omega) (fun _ => ?_)
    simp (disch := omega) only [cm_,aq_,ay_,ag_,b8_,af_,bm_,ah_,ba_,bc_,bh_,bl_,c0_,bg_,am_,ae_,ac_,b2_,bq_,ed_,bs_,ao_,a2_,az_,a4_,aw_,dw_,d6_,ea_,d3_,b5_,b1_,fl_,fn_,fh_,fu_,fp_,fz_,fq_,fk_,fr_,ft_,fs_,f0_,c5_,bd_,c3_,ct_,cx_,cr_,cz_,cf_,ch_,ci_,an_,cl_,fv_,d1_,cq_,Int.toNat_natCast,f3_,di_,dm_,dn_,er_,gv_,g0_,g4_,gx_,ge_,gu_,ga_,f4_,Int.add_zero,Int.zero_add,Int.ediv_one,Nat.reduceAdd,Nat.reduceMul,Int.reduceNeg,Nat.reduceLeDiff,List.length_cons,List.length_nil,true_and,and_true,Nat.zero_add,eq_self,Nat.reduceEqDiff,Int.reduceAdd,Int.reduceSub,Int.reduceMul,not_true_eq_false,not_false_eq_true,Nat.reduceLT,Int.reduceToNat,Int.reduceEq,Int.reduceNe,Int.reduceLT,Int.reduceLE,false_and,false_implies,true_implies]
    refine con_Mrefuse (k := 4) (by omega) ?_
    simp (disch := omega) only [cm_,aq_,ay_,ag_,b8_,af_,bm_,ah_,ba_,bc_,bh_,bl_,c0_,bg_,am_,ae_,ac_,b2_,bq_,ed_,bs_,ao_,a2_,az_,a4_,aw_,dw_,d6_,ea_,d3_,b5_,b1_,fl_,fn_,fh_,fu_,fp_,fz_,fq_,fk_,fr_,ft_,fs_,f0_,c5_,bd_,c3_,ct_,cx_,cr_,cz_,cf_,ch_,ci_,an_,cl_,fv_,d1_,cq_,Int.toNat_natCast,f3_,di_,dm_,dn_,er_,gv_,g0_,g4_,gx_,ge_,gu_,ga_,f4_,Int.add_zero,Int.zero_add,Int.ediv_one,Nat.reduceAdd,Nat.reduceMul,Int.reduceNeg,Nat.reduceLeDiff,List.length_cons,List.length_nil,true_and,and_true,Nat.zero_add,eq_self,Nat.reduceEqDiff,Int.reduceAdd,Int.reduceSub,Int.reduceMul,not_true_eq_false,not_false_eq_true,Nat.reduceLT,Int.reduceToNat,Int.reduceEq,Int.reduceNe,Int.reduceLT,Int.reduceLE,false_and,false_implies,true_implies]
    exact k4 c2
  · simp (disch := omega) only [cm_,aq_,ay_,ag_,b8_,af_,bm_,ah_,ba_,bc_,bh_,bl_,c0_,bg_,am_,ae_,ac_,b2_,bq_,ed_,bs_,ao_,a2_,az_,a4_,aw_,dw_,d6_,ea_,d3_,b5_,b1_,fl_,fn_,fh_,fu_,fp_,fz_,fq_,fk_,fr_,ft_,fs_,f0_,c5_,bd_,c3_,ct_,cx_,cr_,cz_,cf_,ch_,ci_,an_,cl_,fv_,d1_,cq_,Int.toNat_natCast,f3_,di_,dm_,dn_,er_,gv_,g0_,g4_,gx_,ge_,gu_,ga_,f4_,Int.add_zero,Int.zero_add,Int.ediv_one,Nat.reduceAdd,Nat.reduceMul,Int.reduceNeg,Nat.reduceLeDiff,List.length_cons,List.length_nil,true_and,and_true,Nat.zero_add,eq_self,Nat.reduceEqDiff,Int.reduceAdd,Int.reduceSub,Int.reduceMul,not_true_eq_false,not_false_eq_true,Nat.reduceLT,Int.reduceToNat,Int.reduceEq,Int.reduceNe,Int.reduceLT,Int.reduceLE,false_and,false_implies,true_implies]
    refine con_MwrongBit (by unfold inI; omega) hw (by unfold inI; omega) (fun q => by omega) (fun _ => ?_)
    simp (disch := omega) only [cm_,aq_,ay_,ag_,b8_,af_,bm_,ah_,ba_,bc_,bh_,bl_,c0_,bg_,am_,ae_,ac_,b2_,bq_,ed_,bs_,ao_,a2_,az_,a4_,aw_,dw_,d6_,ea_,d3_,b5_,b1_,fl_,fn_,fh_,fu_,fp_,fz_,fq_,fk_,fr_,ft_,fs_,f0_,c5_,bd_,c3_,ct_,cx_,cr_,cz_,cf_,ch_,ci_,an_,cl_,fv_,d1_,cq_,Int.toNat_natCast,f3_,di_,dm_,dn_,er_,gv_,g0_,g4_,gx_,ge_,gu_,ga_,f4_,Int.add_zero,Int.zero_add,Int.ediv_one,Nat.reduceAdd,Nat.reduceMul,Int.reduceNeg,Nat.reduceLeDiff,List.length_cons,List.length_nil,true_and,and_true,Nat.zero_add,eq_self,Nat.reduceEqDiff,Int.reduceAdd,Int.reduceSub,Int.reduceMul,not_true_eq_false,not_false_eq_true,Nat.reduceLT,Int.reduceToNat,Int.reduceEq,Int.reduceNe,Int.reduceLT,Int.reduceLE,false_and,false_implies,true_implies]
    refine con_Mrefuse (k := 6) (by omega) ?_
    simp (disch := omega) only [cm_,aq_,ay_,ag_,b8_,af_,bm_,ah_,ba_,bc_,bh_,bl_,c0_,bg_,am_,ae_,ac_,b2_,bq_,ed_,bs_,ao_,a2_,az_,a4_,aw_,dw_,d6_,ea_,d3_,b5_,b1_,fl_,fn_,fh_,fu_,fp_,fz_,fq_,fk_,fr_,ft_,fs_,f0_,c5_,bd_,c3_,ct_,cx_,cr_,cz_,cf_,ch_,ci_,an_,cl_,fv_,d1_,cq_,Int.toNat_natCast,f3_,di_,dm_,dn_,er_,gv_,g0_,g4_,gx_,ge_,gu_,ga_,f4_,Int.add_zero,Int.zero_add,Int.ediv_one,Nat.reduceAdd,Nat.reduceMul,Int.reduceNeg,Nat.reduceLeDiff,List.length_cons,List.length_nil,true_and,and_true,Nat.zero_add,eq_self,Nat.reduceEqDiff,Int.reduceAdd,Int.reduceSub,Int.reduceMul,not_true_eq_false,not_false_eq_true,Nat.reduceLT,Int.reduceToNat,Int.reduceEq,Int.reduceNe,Int.reduceLT,Int.reduceLE,false_and,false_implies,true_implies]
    exact k6 c2 c3
  · simp (disch := omega) only [cm_,aq_,ay_,ag_,b8_,af_,bm_,ah_,ba_,bc_,bh_,bl_,c0_,bg_,am_,ae_,ac_,b2_,bq_,ed_,bs_,ao_,a2_,az_,a4_,aw_,dw_,d6_,ea_,d3_,b5_,b1_,fl_,fn_,fh_,fu_,fp_,fz_,fq_,fk_,fr_,ft_,fs_,f0_,c5_,bd_,c3_,ct_,cx_,cr_,cz_,cf_,ch_,ci_,an_,cl_,fv_,d1_,cq_,Int.toNat_natCast,f3_,di_,dm_,dn_,er_,gv_,g0_,g4_,gx_,ge_,gu_,ga_,f4_,Int.add_zero,Int.zero_add,Int.ediv_one,Nat.reduceAdd,Nat.reduceMul,Int.reduceNeg,Nat.reduceLeDiff,List.length_cons,List.length_nil,true_and,and_true,Nat.zero_add,eq_self,Nat.reduceEqDiff,Int.reduceAdd,Int.reduceSub,Int.reduceMul,not_true_eq_false,not_false_eq_true,Nat.reduceLT,Int.reduceToNat,Int.reduceEq,Int.reduceNe,Int.reduceLT,Int.reduceLE,false_and,false_implies,true_implies]
    refine con_MwrongBit (by unfold inI; omega) hw (by unfold inI; omega) (fun _ c4 => ?_) (fun c4 => ?_)
    · simp (disch := omega) only [cm_,aq_,ay_,ag_,b8_,af_,bm_,ah_,ba_,bc_,bh_,bl_,c0_,bg_,am_,ae_,ac_,b2_,bq_,ed_,bs_,ao_,a2_,az_,a4_,aw_,dw_,d6_,ea_,d3_,b5_,b1_,fl_,fn_,fh_,fu_,fp_,fz_,fq_,fk_,fr_,ft_,fs_,f0_,c5_,bd_,c3_,ct_,cx_,cr_,cz_,cf_,ch_,ci_,an_,cl_,fv_,d1_,cq_,Int.toNat_natCast,f3_,di_,dm_,dn_,er_,gv_,g0_,g4_,gx_,ge_,gu_,ga_,f4_,Int.add_zero,Int.zero_add,Int.ediv_one,Nat.reduceAdd,Nat.reduceMul,Int.reduceNeg,Nat.reduceLeDiff,List.length_cons,List.length_nil,true_and,and_true,Nat.zero_add,eq_self,Nat.reduceEqDiff,Int.reduceAdd,Int.reduceSub,Int.reduceMul,not_true_eq_false,not_false_eq_true,Nat.reduceLT,Int.reduceToNat,Int.reduceEq,Int.reduceNe,Int.reduceLT,Int.reduceLE,false_and,false_implies,true_implies]
      refine con_Mrefuse (k := 2) (by omega) ?_
      simp (disch := omega) only [cm_,aq_,ay_,ag_,b8_,af_,bm_,ah_,ba_,bc_,bh_,bl_,c0_,bg_,am_,ae_,ac_,b2_,bq_,ed_,bs_,ao_,a2_,az_,a4_,aw_,dw_,d6_,ea_,d3_,b5_,b1_,fl_,fn_,fh_,fu_,fp_,fz_,fq_,fk_,fr_,ft_,fs_,f0_,c5_,bd_,c3_,ct_,cx_,cr_,cz_,cf_,ch_,ci_,an_,cl_,fv_,d1_,cq_,Int.toNat_natCast,f3_,di_,dm_,dn_,er_,gv_,g0_,g4_,gx_,ge_,gu_,ga_,f4_,Int.add_zero,Int.zero_add,Int.ediv_one,Nat.reduceAdd,Nat.reduceMul,Int.reduceNeg,Nat.reduceLeDiff,List.length_cons,List.length_nil,true_and,and_true,Nat.zero_add,eq_self,Nat.reduceEqDiff,Int.reduceAdd,Int.reduceSub,Int.reduceMul,not_true_eq_false,not_false_eq_true,Nat.reduceLT,Int.reduceToNat,Int.reduceEq,Int.reduceNe,Int.reduceLT,Int.reduceLE,false_and,false_implies,true_implies]
      exact k2 c2 c3 (by omega)
    · have c4 := c4 rfl
      have kk := kk c2 c3 (by omega)
      simp (disch := omega) only [cm_,aq_,ay_,ag_,b8_,af_,bm_,ah_,ba_,bc_,bh_,bl_,c0_,bg_,am_,ae_,ac_,b2_,bq_,ed_,bs_,ao_,a2_,az_,a4_,aw_,dw_,d6_,ea_,d3_,b5_,b1_,fl_,fn_,fh_,fu_,fp_,fz_,fq_,fk_,fr_,ft_,fs_,f0_,c5_,bd_,c3_,ct_,cx_,cr_,cz_,cf_,ch_,ci_,an_,cl_,fv_,d1_,cq_,Int.toNat_natCast,f3_,di_,dm_,dn_,er_,gv_,g0_,g4_,gx_,ge_,gu_,ga_,f4_,Int.add_zero,Int.zero_add,Int.ediv_one,Nat.reduceAdd,Nat.reduceMul,Int.reduceNeg,Nat.reduceLeDiff,List.length_cons,List.length_nil,true_and,and_true,Nat.zero_add,eq_self,Nat.reduceEqDiff,Int.reduceAdd,Int.reduceSub,Int.reduceMul,not_true_eq_false,not_false_eq_true,Nat.reduceLT,Int.reduceToNat,Int.reduceEq,Int.reduceNe,Int.reduceLT,Int.reduceLE,false_and,false_implies,true_implies]
      refine w_M_shares_28 ?_
      simp (disch := omega) only [cm_,aq_,ay_,ag_,b8_,af_,bm_,ah_,ba_,bc_,bh_,bl_,c0_,bg_,am_,ae_,ac_,b2_,bq_,ed_,bs_,ao_,a2_,az_,a4_,aw_,dw_,d6_,ea_,d3_,b5_,b1_,fl_,fn_,fh_,fu_,fp_,fz_,fq_,fk_,fr_,ft_,fs_,f0_,c5_,bd_,c3_,ct_,cx_,cr_,cz_,cf_,ch_,ci_,an_,cl_,fv_,d1_,cq_,Int.toNat_natCast,f3_,di_,dm_,dn_,er_,gv_,g0_,g4_,gx_,ge_,gu_,ga_,f4_,Int.add_zero,Int.zero_add,Int.ediv_one,Nat.reduceAdd,Nat.reduceMul,Int.reduceNeg,Nat.reduceLeDiff,List.length_cons,List.length_nil,true_and,and_true,Nat.zero_add,eq_self,Nat.reduceEqDiff,Int.reduceAdd,Int.reduceSub,Int.reduceMul,not_true_eq_false,not_false_eq_true,Nat.reduceLT,Int.reduceToNat,Int.reduceEq,Int.reduceNe,Int.reduceLT,Int.reduceLE,false_and,false_implies,true_implies]
      refine ⟨fun c5 => ?_, fun c5 => ?_⟩
      · rw [if_neg (by omega), Int.emod_def, Int.mul_comm] at kk
        refine w_M_shares_41 ?_
        simp (disch := omega) only [cm_,aq_,ay_,ag_,b8_,af_,bm_,ah_,ba_,bc_,bh_,bl_,c0_,bg_,am_,ae_,ac_,b2_,bq_,ed_,bs_,ao_,a2_,az_,a4_,aw_,dw_,d6_,ea_,d3_,b5_,b1_,fl_,fn_,fh_,fu_,fp_,fz_,fq_,fk_,fr_,ft_,fs_,f0_,c5_,bd_,c3_,ct_,cx_,cr_,cz_,cf_,ch_,ci_,an_,cl_,fv_,d1_,cq_,Int.toNat_natCast,f3_,di_,dm_,dn_,er_,gv_,g0_,g4_,gx_,ge_,gu_,ga_,f4_,Int.add_zero,Int.zero_add,Int.ediv_one,Nat.reduceAdd,Nat.reduceMul,Int.reduceNeg,Nat.reduceLeDiff,List.length_cons,List.length_nil,true_and,and_true,Nat.zero_add,eq_self,Nat.reduceEqDiff,Int.reduceAdd,Int.reduceSub,Int.reduceMul,not_true_eq_false,not_false_eq_true,Nat.reduceLT,Int.reduceToNat,Int.reduceEq,Int.reduceNe,Int.reduceLT,Int.reduceLE,false_and,false_implies,true_implies]
        refine con_MneededHere hG ?_
        simp (disch := omega) only [cm_,aq_,ay_,ag_,b8_,af_,bm_,ah_,ba_,bc_,bh_,bl_,c0_,bg_,am_,ae_,ac_,b2_,bq_,ed_,bs_,ao_,a2_,az_,a4_,aw_,dw_,d6_,ea_,d3_,b5_,b1_,fl_,fn_,fh_,fu_,fp_,fz_,fq_,fk_,fr_,ft_,fs_,f0_,c5_,bd_,c3_,ct_,cx_,cr_,cz_,cf_,ch_,ci_,an_,cl_,fv_,d1_,cq_,Int.toNat_natCast,f3_,di_,dm_,dn_,er_,gv_,g0_,g4_,gx_,ge_,gu_,ga_,f4_,Int.add_zero,Int.zero_add,Int.ediv_one,Nat.reduceAdd,Nat.reduceMul,Int.reduceNeg,Nat.reduceLeDiff,List.length_cons,List.length_nil,true_and,and_true,Nat.zero_add,eq_self,Nat.reduceEqDiff,Int.reduceAdd,Int.reduceSub,Int.reduceMul,not_true_eq_false,not_false_eq_true,Nat.reduceLT,Int.reduceToNat,Int.reduceEq,Int.reduceNe,Int.reduceLT,Int.reduceLE,false_and,false_implies,true_implies]
        refine ⟨by omega, ?_⟩
        refine w_M_shares_47 ?_
        simp (disch := omega) only [cm_,aq_,ay_,ag_,b8_,af_,bm_,ah_,ba_,bc_,bh_,bl_,c0_,bg_,am_,ae_,ac_,b2_,bq_,ed_,bs_,ao_,a2_,az_,a4_,aw_,dw_,d6_,ea_,d3_,b5_,b1_,fl_,fn_,fh_,fu_,fp_,fz_,fq_,fk_,fr_,ft_,fs_,f0_,c5_,bd_,c3_,ct_,cx_,cr_,cz_,cf_,ch_,ci_,an_,cl_,fv_,d1_,cq_,Int.toNat_natCast,f3_,di_,dm_,dn_,er_,gv_,g0_,g4_,gx_,ge_,gu_,ga_,f4_,Int.add_zero,Int.zero_add,Int.ediv_one,Nat.reduceAdd,Nat.reduceMul,Int.reduceNeg,Nat.reduceLeDiff,List.length_cons,List.length_nil,true_and,and_true,Nat.zero_add,eq_self,Nat.reduceEqDiff,Int.reduceAdd,Int.reduceSub,Int.reduceMul,not_true_eq_false,not_false_eq_true,Nat.reduceLT,Int.reduceToNat,Int.reduceEq,Int.reduceNe,Int.reduceLT,Int.reduceLE,false_and,false_implies,true_implies]
        exact kk
      · rw [if_pos (by omega)] at kk
        refine con_MneededHere hG ?_
        simp (disch := omega) only [cm_,aq_,ay_,ag_,b8_,af_,bm_,ah_,ba_,bc_,bh_,bl_,c0_,bg_,am_,ae_,ac_,b2_,bq_,ed_,bs_,ao_,a2_,az_,a4_,aw_,dw_,d6_,ea_,d3_,b5_,b1_,fl_,fn_,fh_,fu_,fp_,fz_,fq_,fk_,fr_,ft_,fs_,f0_,c5_,bd_,c3_,ct_,cx_,cr_,cz_,cf_,ch_,ci_,an_,cl_,fv_,d1_,cq_,Int.toNat_natCast,f3_,di_,dm_,dn_,er_,gv_,g0_,g4_,gx_,ge_,gu_,ga_,f4_,Int.add_zero,Int.zero_add,Int.ediv_one,Nat.reduceAdd,Nat.reduceMul,Int.reduceNeg,Nat.reduceLeDiff,List.length_cons,List.length_nil,true_and,and_true,Nat.zero_add,eq_self,Nat.reduceEqDiff,Int.reduceAdd,Int.reduceSub,Int.reduceMul,not_true_eq_false,not_false_eq_true,Nat.reduceLT,Int.reduceToNat,Int.reduceEq,Int.reduceNe,Int.reduceLT,Int.reduceLE,false_and,false_implies,true_implies]
        refine ⟨by omega, ?_⟩
        refine w_M_shares_47 ?_
        simp (disch := omega) only [cm_,aq_,ay_,ag_,b8_,af_,bm_,ah_,ba_,bc_,bh_,bl_,c0_,bg_,am_,ae_,ac_,b2_,bq_,ed_,bs_,ao_,a2_,az_,a4_,aw_,dw_,d6_,ea_,d3_,b5_,b1_,fl_,fn_,fh_,fu_,fp_,fz_,fq_,fk_,fr_,ft_,fs_,f0_,c5_,bd_,c3_,ct_,cx_,cr_,cz_,cf_,ch_,ci_,an_,cl_,fv_,d1_,cq_,Int.toNat_natCast,f3_,di_,dm_,dn_,er_,gv_,g0_,g4_,gx_,ge_,gu_,ga_,f4_,Int.add_zero,Int.zero_add,Int.ediv_one,Nat.reduceAdd,Nat.reduceMul,Int.reduceNeg,Nat.reduceLeDiff,List.length_cons,List.length_nil,true_and,and_true,Nat.zero_add,eq_self,Nat.reduceEqDiff,Int.reduceAdd,Int.reduceSub,Int.reduceMul,not_true_eq_false,not_false_eq_true,Nat.reduceLT,Int.reduceToNat,Int.reduceEq,Int.reduceNe,Int.reduceLT,Int.reduceLE,false_and,false_implies,true_implies]
        exact kk
theorem M_spare {m : Int} (hm : inI m) (hI : GI R)  (W : (MW R I im P pz lt lsz tn tsz rf bb h))
    (r1 : ¬ g7_ R m → ∀ h, (MW R I im P pz lt lsz tn tsz (rfU rf 1) bb h) → Q (some (.int (zI (-1)))) h)
    (ok : g7_ R m → ∀ h, (MW R I im P pz lt lsz tn tsz rf bb h) → Q (some (.int (zI (max 0 (lasts R m.toNat - rWo R m.toNat))))) h) : Con M_M_spare [.ref 90, .int (zI m)] h Q := by
  obtain ⟨a0, ib, sm, pl, lo, nu, kp, ig, p0, tk, ki, tu, tf, ga, sd, rfl, hIg, hTu, hPz⟩ := W
  have hG := hI.1
  have gm := hG.men
  have k1 := fun q => r1 q _ ⟨a0, ib, sm, pl, lo, nu, kp, ig, p0, tk, ki, tu, tf, ga, sd, rfl, hIg, hTu, hPz⟩
  have kk := fun q => ok q _ ⟨a0, ib, sm, pl, lo, nu, kp, ig, p0, tk, ki, tu, tf, ga, sd, rfl, hIg, hTu, hPz⟩
  refine g8_ (L := [some (.ref 90), some (.int (zI m))]) ok_M_spare (Nat.le_of_ble_eq_true rfl) rfl ?_
  refine w_M_spare_0 ?_
  simp (disch := omega) only [cm_,aq_,ay_,ag_,b8_,af_,bm_,ah_,ba_,bc_,bh_,bl_,c0_,bg_,am_,ae_,ac_,b2_,bq_,ed_,bs_,ao_,a2_,az_,a4_,aw_,dw_,d6_,ea_,d3_,b5_,b1_,fl_,fn_,fh_,fu_,fp_,fz_,fq_,fk_,fr_,ft_,fs_,f0_,c5_,bd_,c3_,ct_,cx_,cr_,cz_,cf_,ch_,ci_,an_,cl_,fv_,d1_,cq_,Int.toNat_natCast,f3_,di_,dm_,dn_,er_,gv_,g0_,g4_,gx_,ge_,gu_,ga_,f4_,Int.add_zero,Int.zero_add,Int.ediv_one,Nat.reduceAdd,Nat.reduceMul,Int.reduceNeg,Nat.reduceLeDiff,List.length_cons,List.length_nil,true_and,and_true,Nat.zero_add,eq_self,Nat.reduceEqDiff,Int.reduceAdd,Int.reduceSub,Int.reduceMul,not_true_eq_false,not_false_eq_true,Nat.reduceLT,Int.reduceToNat,Int.reduceEq,Int.reduceNe,Int.reduceLT,Int.reduceLE,false_and,false_implies,true_implies]
  refine con_MisMan hm hG (fun c => ?_) (fun c => ?_)
  · have hmm : m = (m.toNat : Int) := by omega
    have l1 := lasts_rng hG m.toNat
    have l2 := hG.wo m.toNat
    have kk := kk c
    rw [show max 0 (lasts R m.toNat - rWo R m.toNat) = max 0 (min 99 (lasts R m.toNat - rWo R m.toNat)) by omega] at kk
    simp (disch := omega) only [cm_,aq_,ay_,ag_,b8_,af_,bm_,ah_,ba_,bc_,bh_,bl_,c0_,bg_,am_,ae_,ac_,b2_,bq_,ed_,bs_,ao_,a2_,az_,a4_,aw_,dw_,d6_,ea_,d3_,b5_,b1_,fl_,fn_,fh_,fu_,fp_,fz_,fq_,fk_,fr_,ft_,fs_,f0_,c5_,bd_,c3_,ct_,cx_,cr_,cz_,cf_,ch_,ci_,an_,cl_,fv_,d1_,cq_,Int.toNat_natCast,f3_,di_,dm_,dn_,er_,gv_,g0_,g4_,gx_,ge_,gu_,ga_,f4_,Int.add_zero,Int.zero_add,Int.ediv_one,Nat.reduceAdd,Nat.reduceMul,Int.reduceNeg,Nat.reduceLeDiff,List.length_cons,List.length_nil,true_and,and_true,Nat.zero_add,eq_self,Nat.reduceEqDiff,Int.reduceAdd,Int.reduceSub,Int.reduceMul,not_true_eq_false,not_false_eq_true,Nat.reduceLT,Int.reduceToNat,Int.reduceEq,Int.reduceNe,Int.reduceLT,Int.reduceLE,false_and,false_implies,true_implies]
    rw [hmm]
    refine con_MlastsOf (by omega) hG ?_
    simp (disch := omega) only [cm_,aq_,ay_,ag_,b8_,af_,bm_,ah_,ba_,bc_,bh_,bl_,c0_,bg_,am_,ae_,ac_,b2_,bq_,ed_,bs_,ao_,a2_,az_,a4_,aw_,dw_,d6_,ea_,d3_,b5_,b1_,fl_,fn_,fh_,fu_,fp_,fz_,fq_,fk_,fr_,ft_,fs_,f0_,c5_,bd_,c3_,ct_,cx_,cr_,cz_,cf_,ch_,ci_,an_,cl_,fv_,d1_,cq_,Int.toNat_natCast,f3_,di_,dm_,dn_,er_,gv_,g0_,g4_,gx_,ge_,gu_,ga_,f4_,Int.add_zero,Int.zero_add,Int.ediv_one,Nat.reduceAdd,Nat.reduceMul,Int.reduceNeg,Nat.reduceLeDiff,List.length_cons,List.length_nil,true_and,and_true,Nat.zero_add,eq_self,Nat.reduceEqDiff,Int.reduceAdd,Int.reduceSub,Int.reduceMul,not_true_eq_false,not_false_eq_true,Nat.reduceLT,Int.reduceToNat,Int.reduceEq,Int.reduceNe,Int.reduceLT,Int.reduceLE,false_and,false_implies,true_implies]
    refine ⟨by omega, ?_⟩
    refine con_Mheld (by unfold inI; omega) (by omega) ?_
    simp (disch := omega) only [cm_,aq_,ay_,ag_,b8_,af_,bm_,ah_,ba_,bc_,bh_,bl_,c0_,bg_,am_,ae_,ac_,b2_,bq_,ed_,bs_,ao_,a2_,az_,a4_,aw_,dw_,d6_,ea_,d3_,b5_,b1_,fl_,fn_,fh_,fu_,fp_,fz_,fq_,fk_,fr_,ft_,fs_,f0_,c5_,bd_,c3_,ct_,cx_,cr_,cz_,cf_,ch_,ci_,an_,cl_,fv_,d1_,cq_,Int.toNat_natCast,f3_,di_,dm_,dn_,er_,gv_,g0_,g4_,gx_,ge_,gu_,ga_,f4_,Int.add_zero,Int.zero_add,Int.ediv_one,Nat.reduceAdd,Nat.reduceMul,Int.reduceNeg,Nat.reduceLeDiff,List.length_cons,List.length_nil,true_and,and_true,Nat.zero_add,eq_self,Nat.reduceEqDiff,Int.reduceAdd,Int.reduceSub,Int.reduceMul,not_true_eq_false,not_false_eq_true,Nat.reduceLT,Int.reduceToNat,Int.reduceEq,Int.reduceNe,Int.reduceLT,Int.reduceLE,false_and,false_implies,true_implies]
    refine w_M_spare_38 ?_
    simp (disch := omega) only [cm_,aq_,ay_,ag_,b8_,af_,bm_,ah_,ba_,bc_,bh_,bl_,c0_,bg_,am_,ae_,ac_,b2_,bq_,ed_,bs_,ao_,a2_,az_,a4_,aw_,dw_,d6_,ea_,d3_,b5_,b1_,fl_,fn_,fh_,fu_,fp_,fz_,fq_,fk_,fr_,ft_,fs_,f0_,c5_,bd_,c3_,ct_,cx_,cr_,cz_,cf_,ch_,ci_,an_,cl_,fv_,d1_,cq_,Int.toNat_natCast,f3_,di_,dm_,dn_,er_,gv_,g0_,g4_,gx_,ge_,gu_,ga_,f4_,Int.add_zero,Int.zero_add,Int.ediv_one,Nat.reduceAdd,Nat.reduceMul,Int.reduceNeg,Nat.reduceLeDiff,List.length_cons,List.length_nil,true_and,and_true,Nat.zero_add,eq_self,Nat.reduceEqDiff,Int.reduceAdd,Int.reduceSub,Int.reduceMul,not_true_eq_false,not_false_eq_true,Nat.reduceLT,Int.reduceToNat,Int.reduceEq,Int.reduceNe,Int.reduceLT,Int.reduceLE,false_and,false_implies,true_implies]
    exact kk
  · simp (disch := omega) only [cm_,aq_,ay_,ag_,b8_,af_,bm_,ah_,ba_,bc_,bh_,bl_,c0_,bg_,am_,ae_,ac_,b2_,bq_,ed_,bs_,ao_,a2_,az_,a4_,aw_,dw_,d6_,ea_,d3_,b5_,b1_,fl_,fn_,fh_,fu_,fp_,fz_,fq_,fk_,fr_,ft_,fs_,f0_,c5_,bd_,c3_,ct_,cx_,cr_,cz_,cf_,ch_,ci_,an_,cl_,fv_,d1_,cq_,Int.toNat_natCast,f3_,di_,dm_,dn_,er_,gv_,g0_,g4_,gx_,ge_,gu_,ga_,f4_,Int.add_zero,Int.zero_add,Int.ediv_one,Nat.reduceAdd,Nat.reduceMul,Int.reduceNeg,Nat.reduceLeDiff,List.length_cons,List.length_nil,true_and,and_true,Nat.zero_add,eq_self,Nat.reduceEqDiff,Int.reduceAdd,Int.reduceSub,Int.reduceMul,not_true_eq_false,not_false_eq_true,Nat.reduceLT,Int.reduceToNat,Int.reduceEq,Int.reduceNe,Int.reduceLT,Int.reduceLE,false_and,false_implies,true_implies]
    refine w_M_spare_33 ?_
    simp (disch := omega) only [cm_,aq_,ay_,ag_,b8_,af_,bm_,ah_,ba_,bc_,bh_,bl_,c0_,bg_,am_,ae_,ac_,b2_,bq_,ed_,bs_,ao_,a2_,az_,a4_,aw_,dw_,d6_,ea_,d3_,b5_,b1_,fl_,fn_,fh_,fu_,fp_,fz_,fq_,fk_,fr_,ft_,fs_,f0_,c5_,bd_,c3_,ct_,cx_,cr_,cz_,cf_,ch_,ci_,an_,cl_,fv_,d1_,cq_,Int.toNat_natCast,f3_,di_,dm_,dn_,er_,gv_,g0_,g4_,gx_,ge_,gu_,ga_,f4_,Int.add_zero,Int.zero_add,Int.ediv_one,Nat.reduceAdd,Nat.reduceMul,Int.reduceNeg,Nat.reduceLeDiff,List.length_cons,List.length_nil,true_and,and_true,Nat.zero_add,eq_self,Nat.reduceEqDiff,Int.reduceAdd,Int.reduceSub,Int.reduceMul,not_true_eq_false,not_false_eq_true,Nat.reduceLT,Int.reduceToNat,Int.reduceEq,Int.reduceNe,Int.reduceLT,Int.reduceLE,false_and,false_implies,true_implies]
    refine con_Mrefuse (k := 1) (by omega) ?_
    simp (disch := omega) only [cm_,aq_,ay_,ag_,b8_,af_,bm_,ah_,ba_,bc_,bh_,bl_,c0_,bg_,am_,ae_,ac_,b2_,bq_,ed_,bs_,ao_,a2_,az_,a4_,aw_,dw_,d6_,ea_,d3_,b5_,b1_,fl_,fn_,fh_,fu_,fp_,fz_,fq_,fk_,fr_,ft_,fs_,f0_,c5_,bd_,c3_,ct_,cx_,cr_,cz_,cf_,ch_,ci_,an_,cl_,fv_,d1_,cq_,Int.toNat_natCast,f3_,di_,dm_,dn_,er_,gv_,g0_,g4_,gx_,ge_,gu_,ga_,f4_,Int.add_zero,Int.zero_add,Int.ediv_one,Nat.reduceAdd,Nat.reduceMul,Int.reduceNeg,Nat.reduceLeDiff,List.length_cons,List.length_nil,true_and,and_true,Nat.zero_add,eq_self,Nat.reduceEqDiff,Int.reduceAdd,Int.reduceSub,Int.reduceMul,not_true_eq_false,not_false_eq_true,Nat.reduceLT,Int.reduceToNat,Int.reduceEq,Int.reduceNe,Int.reduceLT,Int.reduceLE,false_and,false_implies,true_implies]
    refine w_M_spare_38 ?_
    simp (disch := omega) only [cm_,aq_,ay_,ag_,b8_,af_,bm_,ah_,ba_,bc_,bh_,bl_,c0_,bg_,am_,ae_,ac_,b2_,bq_,ed_,bs_,ao_,a2_,az_,a4_,aw_,dw_,d6_,ea_,d3_,b5_,b1_,fl_,fn_,fh_,fu_,fp_,fz_,fq_,fk_,fr_,ft_,fs_,f0_,c5_,bd_,c3_,ct_,cx_,cr_,cz_,cf_,ch_,ci_,an_,cl_,fv_,d1_,cq_,Int.toNat_natCast,f3_,di_,dm_,dn_,er_,gv_,g0_,g4_,gx_,ge_,gu_,ga_,f4_,Int.add_zero,Int.zero_add,Int.ediv_one,Nat.reduceAdd,Nat.reduceMul,Int.reduceNeg,Nat.reduceLeDiff,List.length_cons,List.length_nil,true_and,and_true,Nat.zero_add,eq_self,Nat.reduceEqDiff,Int.reduceAdd,Int.reduceSub,Int.reduceMul,not_true_eq_false,not_false_eq_true,Nat.reduceLT,Int.reduceToNat,Int.reduceEq,Int.reduceNe,Int.reduceLT,Int.reduceLE,false_and,false_implies,true_implies]
    exact k1 c
theorem M_shoulders {k : Int} (hk : inI k) (hI : GI R)  (W : (MW R I im P pz lt lsz tn tsz rf bb h))
    (r2 : ¬ (0 ≤ k ∧ k < 6) → ∀ h, (MW R I im P pz lt lsz tn tsz (rfU rf 2) bb h) → Q (some (.int (zI (-2)))) h)
    (ok : (0 ≤ k ∧ k < 6) → ∀ h, (MW R I im P pz lt lsz tn tsz rf bb h) → Q (some (.int (zI (cntN (fun j => decide (rFa R j = 1 ∧ rKi R j = k)) (hb_ R))))) h) : Con M_M_shoulders [.ref 90, .int (zI k)] h Q := by
  obtain ⟨a0, ib, sm, pl, lo, nu, kp, ig, p0, tk, ki, tu, tf, ga, sd, rfl, hIg, hTu, hPz⟩ := W
  have hG := hI.1
  have gm := hG.men
  have gn := hG.nM
  obtain ⟨z1, z2⟩ := id hk
  have k2 := fun q => r2 q _ ⟨a0, ib, sm, pl, lo, nu, kp, ig, p0, tk, ki, tu, tf, ga, sd, rfl, hIg, hTu, hPz⟩
  have kk := fun q => ok q _ ⟨a0, ib, sm, pl, lo, nu, kp, ig, p0, tk, ki, tu, tf, ga, sd, rfl, hIg, hTu, hPz⟩
  refine g8_ (L := [some (.ref 90), some (.int (zI k)), none, none]) ok_M_shoulders (Nat.le_of_ble_eq_true rfl) rfl ?_
  refine w_M_shoulders_0 ?_
  simp (disch := omega) only [cm_,aq_,ay_,ag_,b8_,af_,bm_,ah_,ba_,bc_,bh_,bl_,c0_,bg_,am_,ae_,ac_,b2_,bq_,ed_,bs_,ao_,a2_,az_,a4_,aw_,dw_,d6_,ea_,d3_,b5_,b1_,fl_,fn_,fh_,fu_,fp_,fz_,fq_,fk_,fr_,ft_,fs_,f0_,c5_,bd_,c3_,ct_,cx_,cr_,cz_,cf_,ch_,ci_,an_,cl_,fv_,d1_,cq_,Int.toNat_natCast,f3_,di_,dm_,dn_,er_,gv_,g0_,g4_,gx_,ge_,gu_,ga_,f4_,Int.add_zero,Int.zero_add,Int.ediv_one,Nat.reduceAdd,Nat.reduceMul,Int.reduceNeg,Nat.reduceLeDiff,List.length_cons,List.length_nil,true_and,and_true,Nat.zero_add,eq_self,Nat.reduceEqDiff,Int.reduceAdd,Int.reduceSub,Int.reduceMul,not_true_eq_false,not_false_eq_true,Nat.reduceLT,Int.reduceToNat,Int.reduceEq,Int.reduceNe,Int.reduceLT,Int.reduceLE,false_and,false_implies,true_implies]
  refine con_Min hk (by unfold inI; omega) (by unfold inI; omega) (fun c => ?_) (fun c => ?_)
  · have kk := kk (by omega)
    simp (disch := omega) only [cm_,aq_,ay_,ag_,b8_,af_,bm_,ah_,ba_,bc_,bh_,bl_,c0_,bg_,am_,ae_,ac_,b2_,bq_,ed_,bs_,ao_,a2_,az_,a4_,aw_,dw_,d6_,ea_,d3_,b5_,b1_,fl_,fn_,fh_,fu_,fp_,fz_,fq_,fk_,fr_,ft_,fs_,f0_,c5_,bd_,c3_,ct_,cx_,cr_,cz_,cf_,ch_,ci_,an_,cl_,fv_,d1_,cq_,Int.toNat_natCast,f3_,di_,dm_,dn_,er_,gv_,g0_,g4_,gx_,ge_,gu_,ga_,f4_,Int.add_zero,Int.zero_add,Int.ediv_one,Nat.reduceAdd,Nat.reduceMul,Int.reduceNeg,Nat.reduceLeDiff,List.length_cons,List.length_nil,true_and,and_true,Nat.zero_add,eq_self,Nat.reduceEqDiff,Int.reduceAdd,Int.reduceSub,Int.reduceMul,not_true_eq_false,not_false_eq_true,Nat.reduceLT,Int.reduceToNat,Int.reduceEq,Int.reduceNe,Int.reduceLT,Int.reduceLE,false_and,false_implies,true_implies]
    refine w_M_shoulders_24 ?_
    simp (disch := omega) only [cm_,aq_,ay_,ag_,b8_,af_,bm_,ah_,ba_,bc_,bh_,bl_,c0_,bg_,am_,ae_,ac_,b2_,bq_,ed_,bs_,ao_,a2_,az_,a4_,aw_,dw_,d6_,ea_,d3_,b5_,b1_,fl_,fn_,fh_,fu_,fp_,fz_,fq_,fk_,fr_,ft_,fs_,f0_,c5_,bd_,c3_,ct_,cx_,cr_,cz_,cf_,ch_,ci_,an_,cl_,fv_,d1_,cq_,Int.toNat_natCast,f3_,di_,dm_,dn_,er_,gv_,g0_,g4_,gx_,ge_,gu_,ga_,f4_,Int.add_zero,Int.zero_add,Int.ediv_one,Nat.reduceAdd,Nat.reduceMul,Int.reduceNeg,Nat.reduceLeDiff,List.length_cons,List.length_nil,true_and,and_true,Nat.zero_add,eq_self,Nat.reduceEqDiff,Int.reduceAdd,Int.reduceSub,Int.reduceMul,not_true_eq_false,not_false_eq_true,Nat.reduceLT,Int.reduceToNat,Int.reduceEq,Int.reduceNe,Int.reduceLT,Int.reduceLE,false_and,false_implies,true_implies]
    have loop : ∀ n i : Nat, i + n = hb_ R → J M_M_shoulders 28 [some (.ref 90), some (.int (zI k)), some (.int (zI (cntN (fun j => decide (rFa R j = 1 ∧ rKi R j = k)) i))), some (.int (zI i))] [] (HM R rf lt lsz a0 ib sm pl lo nu kp ig im p0 tk ki tu pz tf tn tsz ga sd bb) Q := by
      intro n
      induction n with
      | zero =>
        intro i hi
        have e : i = hb_ R := by omega
        subst e
        refine w_M_shoulders_28 ?_
        simp (disch := omega) only [cm_,aq_,ay_,ag_,b8_,af_,bm_,ah_,ba_,bc_,bh_,bl_,c0_,bg_,am_,ae_,ac_,b2_,bq_,ed_,bs_,ao_,a2_,az_,a4_,aw_,dw_,d6_,ea_,d3_,b5_,b1_,fl_,fn_,fh_,fu_,fp_,fz_,fq_,fk_,fr_,ft_,fs_,f0_,c5_,bd_,c3_,ct_,cx_,cr_,cz_,cf_,ch_,ci_,an_,cl_,fv_,d1_,cq_,Int.toNat_natCast,f3_,di_,dm_,dn_,er_,gv_,g0_,g4_,gx_,ge_,gu_,ga_,f4_,Int.add_zero,Int.zero_add,Int.ediv_one,Nat.reduceAdd,Nat.reduceMul,Int.reduceNeg,Nat.reduceLeDiff,List.length_cons,List.length_nil,true_and,and_true,Nat.zero_add,eq_self,Nat.reduceEqDiff,Int.reduceAdd,Int.reduceSub,Int.reduceMul,not_true_eq_false,not_false_eq_true,Nat.reduceLT,Int.reduceToNat,Int.reduceEq,Int.reduceNe,Int.reduceLT,Int.reduceLE,false_and,false_implies,true_implies]
        repeat' (first | with_reducible refine And.intro ?_ ?_ | with_reducible intro _ | ((first | with_reducible refine w_M_shoulders_24 ?_ | with_reducible refine w_M_shoulders_61 ?_ | with_reducible refine w_M_shoulders_62 ?_ | with_reducible refine w_M_shoulders_70 ?_); simp (disch := omega) only [cm_,aq_,ay_,ag_,b8_,af_,bm_,ah_,ba_,bc_,bh_,bl_,c0_,bg_,am_,ae_,ac_,b2_,bq_,ed_,bs_,ao_,a2_,az_,a4_,aw_,dw_,d6_,ea_,d3_,b5_,b1_,fl_,fn_,fh_,fu_,fp_,fz_,fq_,fk_,fr_,ft_,fs_,f0_,c5_,bd_,c3_,ct_,cx_,cr_,cz_,cf_,ch_,ci_,an_,cl_,fv_,d1_,cq_,Int.toNat_natCast,f3_,di_,dm_,dn_,er_,gv_,g0_,g4_,gx_,ge_,gu_,ga_,f4_,Int.add_zero,Int.zero_add,Int.ediv_one,Nat.reduceAdd,Nat.reduceMul,Int.reduceNeg,Nat.reduceLeDiff,List.length_cons,List.length_nil,true_and,and_true,Nat.zero_add,eq_self,Nat.reduceEqDiff,Int.reduceAdd,Int.reduceSub,Int.reduceMul,not_true_eq_false,not_false_eq_true,Nat.reduceLT,Int.reduceToNat,Int.reduceEq,Int.reduceNe,Int.reduceLT,Int.reduceLE,false_and,false_implies,true_implies]))
        all_goals first | omega | exact kk
      | succ n ih =>
        intro i hi
        have gf := hG.fa i
        have gk := hG.ki i
        have step := ih (i + 1) (by omega)
        simp only [cntN] at step
        refine w_M_shoulders_28 ?_
        simp (disch := omega) only [cm_,aq_,ay_,ag_,b8_,af_,bm_,ah_,ba_,bc_,bh_,bl_,c0_,bg_,am_,ae_,ac_,b2_,bq_,ed_,bs_,ao_,a2_,az_,a4_,aw_,dw_,d6_,ea_,d3_,b5_,b1_,fl_,fn_,fh_,fu_,fp_,fz_,fq_,fk_,fr_,ft_,fs_,f0_,c5_,bd_,c3_,ct_,cx_,cr_,cz_,cf_,ch_,ci_,an_,cl_,fv_,d1_,cq_,Int.toNat_natCast,f3_,di_,dm_,dn_,er_,gv_,g0_,g4_,gx_,ge_,gu_,ga_,f4_,Int.add_zero,Int.zero_add,Int.ediv_one,Nat.reduceAdd,Nat.reduceMul,Int.reduceNeg,Nat.reduceLeDiff,List.length_cons,List.length_nil,true_and,and_true,Nat.zero_add,eq_self,Nat.reduceEqDiff,Int.reduceAdd,Int.reduceSub,Int.reduceMul,not_true_eq_false,not_false_eq_true,Nat.reduceLT,Int.reduceToNat,Int.reduceEq,Int.reduceNe,Int.reduceLT,Int.reduceLE,false_and,false_implies,true_implies]
        by_cases c5 : rFa R i = 1 ∧ rKi R i = k
        · rw [if_pos (decide_eq_true c5)] at step
          repeat' (first | with_reducible refine And.intro ?_ ?_ | with_reducible intro _ | ((first | with_reducible refine w_M_shoulders_24 ?_ | with_reducible refine w_M_shoulders_61 ?_ | with_reducible refine w_M_shoulders_62 ?_ | with_reducible refine w_M_shoulders_70 ?_); simp (disch := omega) only [cm_,aq_,ay_,ag_,b8_,af_,bm_,ah_,ba_,bc_,bh_,bl_,c0_,bg_,am_,ae_,ac_,b2_,bq_,ed_,bs_,ao_,a2_,az_,a4_,aw_,dw_,d6_,ea_,d3_,b5_,b1_,fl_,fn_,fh_,fu_,fp_,fz_,fq_,fk_,fr_,ft_,fs_,f0_,c5_,bd_,c3_,ct_,cx_,cr_,cz_,cf_,ch_,ci_,an_,cl_,fv_,d1_,cq_,Int.toNat_natCast,f3_,di_,dm_,dn_,er_,gv_,g0_,g4_,gx_,ge_,gu_,ga_,f4_,Int.add_zero,Int.zero_add,Int.ediv_one,Nat.reduceAdd,Nat.reduceMul,Int.reduceNeg,Nat.reduceLeDiff,List.length_cons,List.length_nil,true_and,and_true,Nat.zero_add,eq_self,Nat.reduceEqDiff,Int.reduceAdd,Int.reduceSub,Int.reduceMul,not_true_eq_false,not_false_eq_true,Nat.reduceLT,Int.reduceToNat,Int.reduceEq,Int.reduceNe,Int.reduceLT,Int.reduceLE,false_and,false_implies,true_implies]))
          all_goals first | omega | exact step
        · rw [if_neg (by rw [decide_eq_false c5]; decide)] at step
          repeat' (first | with_reducible refine And.intro ?_ ?_ | with_reducible intro _ | ((first | with_reducible refine w_M_shoulders_24 ?_ | with_reducible refine w_M_shoulders_61 ?_ | with_reducible refine w_M_shoulders_62 ?_ | with_reducible refine w_M_shoulders_70 ?_); simp (disch := omega) only [cm_,aq_,ay_,ag_,b8_,af_,bm_,ah_,ba_,bc_,bh_,bl_,c0_,bg_,am_,ae_,ac_,b2_,bq_,ed_,bs_,ao_,a2_,az_,a4_,aw_,dw_,d6_,ea_,d3_,b5_,b1_,fl_,fn_,fh_,fu_,fp_,fz_,fq_,fk_,fr_,ft_,fs_,f0_,c5_,bd_,c3_,ct_,cx_,cr_,cz_,cf_,ch_,ci_,an_,cl_,fv_,d1_,cq_,Int.toNat_natCast,f3_,di_,dm_,dn_,er_,gv_,g0_,g4_,gx_,ge_,gu_,ga_,f4_,Int.add_zero,Int.zero_add,Int.ediv_one,Nat.reduceAdd,Nat.reduceMul,Int.reduceNeg,Nat.reduceLeDiff,List.length_cons,List.length_nil,true_and,and_true,Nat.zero_add,eq_self,Nat.reduceEqDiff,Int.reduceAdd,Int.reduceSub,Int.reduceMul,not_true_eq_false,not_false_eq_true,Nat.reduceLT,Int.reduceToNat,Int.reduceEq,Int.reduceNe,Int.reduceLT,Int.reduceLE,false_and,false_implies,true_implies]))
          all_goals first | omega | exact step
    exact loop _ 0 (Nat.zero_add _)
  · simp (disch := omega) only [cm_,aq_,ay_,ag_,b8_,af_,bm_,ah_,ba_,bc_,bh_,bl_,c0_,bg_,am_,ae_,ac_,b2_,bq_,ed_,bs_,ao_,a2_,az_,a4_,aw_,dw_,d6_,ea_,d3_,b5_,b1_,fl_,fn_,fh_,fu_,fp_,fz_,fq_,fk_,fr_,ft_,fs_,f0_,c5_,bd_,c3_,ct_,cx_,cr_,cz_,cf_,ch_,ci_,an_,cl_,fv_,d1_,cq_,Int.toNat_natCast,f3_,di_,dm_,dn_,er_,gv_,g0_,g4_,gx_,ge_,gu_,ga_,f4_,Int.add_zero,Int.zero_add,Int.ediv_one,Nat.reduceAdd,Nat.reduceMul,Int.reduceNeg,Nat.reduceLeDiff,List.length_cons,List.length_nil,true_and,and_true,Nat.zero_add,eq_self,Nat.reduceEqDiff,Int.reduceAdd,Int.reduceSub,Int.reduceMul,not_true_eq_false,not_false_eq_true,Nat.reduceLT,Int.reduceToNat,Int.reduceEq,Int.reduceNe,Int.reduceLT,Int.reduceLE,false_and,false_implies,true_implies]
    refine con_Mrefuse (k := 2) (by omega) ?_
    simp (disch := omega) only [cm_,aq_,ay_,ag_,b8_,af_,bm_,ah_,ba_,bc_,bh_,bl_,c0_,bg_,am_,ae_,ac_,b2_,bq_,ed_,bs_,ao_,a2_,az_,a4_,aw_,dw_,d6_,ea_,d3_,b5_,b1_,fl_,fn_,fh_,fu_,fp_,fz_,fq_,fk_,fr_,ft_,fs_,f0_,c5_,bd_,c3_,ct_,cx_,cr_,cz_,cf_,ch_,ci_,an_,cl_,fv_,d1_,cq_,Int.toNat_natCast,f3_,di_,dm_,dn_,er_,gv_,g0_,g4_,gx_,ge_,gu_,ga_,f4_,Int.add_zero,Int.zero_add,Int.ediv_one,Nat.reduceAdd,Nat.reduceMul,Int.reduceNeg,Nat.reduceLeDiff,List.length_cons,List.length_nil,true_and,and_true,Nat.zero_add,eq_self,Nat.reduceEqDiff,Int.reduceAdd,Int.reduceSub,Int.reduceMul,not_true_eq_false,not_false_eq_true,Nat.reduceLT,Int.reduceToNat,Int.reduceEq,Int.reduceNe,Int.reduceLT,Int.reduceLE,false_and,false_implies,true_implies]
    exact k2 (by omega)
theorem M_row {v : Int} (hv : inI v) (hT : GT tn tsz) (hI : GI R)  (W : (MW R I im P pz lt lsz tn tsz rf bb h))
    (r4 : v < 0 → ∀ h, (MW R I im P pz lt lsz tn tsz (rfU rf 4) bb h) → Q (some (.int (zI (-4)))) h)
    (r6 : ¬ v < 0 → (99 < v ∨ tsz = 12) → ∀ h, (MW R I im P pz lt lsz tn tsz (rfU rf 6) bb h) → Q (some (.int (zI (-6)))) h)
    (ok : ¬ v < 0 → ¬ 99 < v → ¬ tsz = 12 → ∀ h, (MW R I im P pz lt lsz (upI tn tsz.toNat v) (tsz + 1) rf bb h) → Q (some (.int (zI (tsz + 1)))) h) : Con M_M_row [.ref 90, .int (zI v)] h Q := by
  obtain ⟨a0, ib, sm, pl, lo, nu, kp, ig, p0, tk, ki, tu, tf, ga, sd, rfl, hIg, hTu, hPz⟩ := W
  obtain ⟨v1, v2⟩ := id hv
  have gt := hT.1
  have k4 := fun q => r4 q _ ⟨a0, ib, sm, pl, lo, nu, kp, ig, p0, tk, ki, tu, tf, ga, sd, rfl, hIg, hTu, hPz⟩
  have k6 := fun q q2 => r6 q q2 _ ⟨a0, ib, sm, pl, lo, nu, kp, ig, p0, tk, ki, tu, tf, ga, sd, rfl, hIg, hTu, hPz⟩
  have kk := fun q q2 q3 => ok q q2 q3 _ ⟨a0, ib, sm, pl, lo, nu, kp, ig, p0, tk, ki, tu, tf, ga, sd, rfl, hIg, hTu, hPz⟩
  refine g8_ (L := [some (.ref 90), some (.int (zI v))]) ok_M_row (Nat.le_of_ble_eq_true rfl) rfl ?_
  refine w_M_row_0 ?_
  simp (disch := omega) only [cm_,aq_,ay_,ag_,b8_,af_,bm_,ah_,ba_,bc_,bh_,bl_,c0_,bg_,am_,ae_,ac_,b2_,bq_,ed_,bs_,ao_,a2_,az_,a4_,aw_,dw_,d6_,ea_,d3_,b5_,b1_,fl_,fn_,fh_,fu_,fp_,fz_,fq_,fk_,fr_,ft_,fs_,f0_,c5_,bd_,c3_,ct_,cx_,cr_,cz_,cf_,ch_,ci_,an_,cl_,fv_,d1_,cq_,Int.toNat_natCast,f3_,di_,dm_,dn_,er_,gv_,g0_,g4_,gx_,ge_,gu_,ga_,f4_,Int.add_zero,Int.zero_add,Int.ediv_one,Nat.reduceAdd,Nat.reduceMul,Int.reduceNeg,Nat.reduceLeDiff,List.length_cons,List.length_nil,true_and,and_true,Nat.zero_add,eq_self,Nat.reduceEqDiff,Int.reduceAdd,Int.reduceSub,Int.reduceMul,not_true_eq_false,not_false_eq_true,Nat.reduceLT,Int.reduceToNat,Int.reduceEq,Int.reduceNe,Int.reduceLT,Int.reduceLE,false_and,false_implies,true_implies]
  refine ⟨fun q => ?_, fun q => ?_⟩
  · have bad : (99 < v ∨ tsz = 12) → J M_M_row 31 [some (.ref 90), some (.int (zI v))] [] (HM R rf lt lsz a0 ib sm pl lo nu kp ig im p0 tk ki tu pz tf tn tsz ga sd bb) Q := by
      intro q2
      refine w_M_row_31 ?_
      simp (disch := omega) only [cm_,aq_,ay_,ag_,b8_,af_,bm_,ah_,ba_,bc_,bh_,bl_,c0_,bg_,am_,ae_,ac_,b2_,bq_,ed_,bs_,ao_,a2_,az_,a4_,aw_,dw_,d6_,ea_,d3_,b5_,b1_,fl_,fn_,fh_,fu_,fp_,fz_,fq_,fk_,fr_,ft_,fs_,f0_,c5_,bd_,c3_,ct_,cx_,cr_,cz_,cf_,ch_,ci_,an_,cl_,fv_,d1_,cq_,Int.toNat_natCast,f3_,di_,dm_,dn_,er_,gv_,g0_,g4_,gx_,ge_,gu_,ga_,f4_,Int.add_zero,Int.zero_add,Int.ediv_one,Nat.reduceAdd,Nat.reduceMul,Int.reduceNeg,Nat.reduceLeDiff,List.length_cons,List.length_nil,true_and,and_true,Nat.zero_add,eq_self,Nat.reduceEqDiff,Int.reduceAdd,Int.reduceSub,Int.reduceMul,not_true_eq_false,not_false_eq_true,Nat.reduceLT,Int.reduceToNat,Int.reduceEq,Int.reduceNe,Int.reduceLT,Int.reduceLE,false_and,false_implies,true_implies]
      refine con_Mrefuse (k := 6) (by omega) ?_
      simp (disch := omega) only [cm_,aq_,ay_,ag_,b8_,af_,bm_,ah_,ba_,bc_,bh_,bl_,c0_,bg_,am_,ae_,ac_,b2_,bq_,ed_,bs_,ao_,a2_,az_,a4_,aw_,dw_,d6_,ea_,d3_,b5_,b1_,fl_,fn_,fh_,fu_,fp_,fz_,fq_,fk_,fr_,ft_,fs_,f0_,c5_,bd_,c3_,ct_,cx_,cr_,cz_,cf_,ch_,ci_,an_,cl_,fv_,d1_,cq_,Int.toNat_natCast,f3_,di_,dm_,dn_,er_,gv_,g0_,g4_,gx_,ge_,gu_,ga_,f4_,Int.add_zero,Int.zero_add,Int.ediv_one,Nat.reduceAdd,Nat.reduceMul,Int.reduceNeg,Nat.reduceLeDiff,List.length_cons,List.length_nil,true_and,and_true,Nat.zero_add,eq_self,Nat.reduceEqDiff,Int.reduceAdd,Int.reduceSub,Int.reduceMul,not_true_eq_false,not_false_eq_true,Nat.reduceLT,Int.reduceToNat,Int.reduceEq,Int.reduceNe,Int.reduceLT,Int.reduceLE,false_and,false_implies,true_implies]
      exact k6 (by omega) q2
    refine w_M_row_16 ?_
    simp (disch := omega) only [cm_,aq_,ay_,ag_,b8_,af_,bm_,ah_,ba_,bc_,bh_,bl_,c0_,bg_,am_,ae_,ac_,b2_,bq_,ed_,bs_,ao_,a2_,az_,a4_,aw_,dw_,d6_,ea_,d3_,b5_,b1_,fl_,fn_,fh_,fu_,fp_,fz_,fq_,fk_,fr_,ft_,fs_,f0_,c5_,bd_,c3_,ct_,cx_,cr_,cz_,cf_,ch_,ci_,an_,cl_,fv_,d1_,cq_,Int.toNat_natCast,f3_,di_,dm_,dn_,er_,gv_,g0_,g4_,gx_,ge_,gu_,ga_,f4_,Int.add_zero,Int.zero_add,Int.ediv_one,Nat.reduceAdd,Nat.reduceMul,Int.reduceNeg,Nat.reduceLeDiff,List.length_cons,List.length_nil,true_and,and_true,Nat.zero_add,eq_self,Nat.reduceEqDiff,Int.reduceAdd,Int.reduceSub,Int.reduceMul,not_true_eq_false,not_false_eq_true,Nat.reduceLT,Int.reduceToNat,Int.reduceEq,Int.reduceNe,Int.reduceLT,Int.reduceLE,false_and,false_implies,true_implies]
    refine ⟨fun q2 => bad (by omega), fun q2 => ⟨fun q3 => ?_, fun q3 => bad (by omega)⟩⟩
    refine w_M_row_38 ?_
    simp (disch := omega) only [cm_,aq_,ay_,ag_,b8_,af_,bm_,ah_,ba_,bc_,bh_,bl_,c0_,bg_,am_,ae_,ac_,b2_,bq_,ed_,bs_,ao_,a2_,az_,a4_,aw_,dw_,d6_,ea_,d3_,b5_,b1_,fl_,fn_,fh_,fu_,fp_,fz_,fq_,fk_,fr_,ft_,fs_,f0_,c5_,bd_,c3_,ct_,cx_,cr_,cz_,cf_,ch_,ci_,an_,cl_,fv_,d1_,cq_,Int.toNat_natCast,f3_,di_,dm_,dn_,er_,gv_,g0_,g4_,gx_,ge_,gu_,ga_,f4_,Int.add_zero,Int.zero_add,Int.ediv_one,Nat.reduceAdd,Nat.reduceMul,Int.reduceNeg,Nat.reduceLeDiff,List.length_cons,List.length_nil,true_and,and_true,Nat.zero_add,eq_self,Nat.reduceEqDiff,Int.reduceAdd,Int.reduceSub,Int.reduceMul,not_true_eq_false,not_false_eq_true,Nat.reduceLT,Int.reduceToNat,Int.reduceEq,Int.reduceNe,Int.reduceLT,Int.reduceLE,false_and,false_implies,true_implies]
    exact ⟨by omega, kk (by omega) (by omega) (by omega)⟩
  · refine con_Mrefuse (k := 4) (by omega) ?_
    simp (disch := omega) only [cm_,aq_,ay_,ag_,b8_,af_,bm_,ah_,ba_,bc_,bh_,bl_,c0_,bg_,am_,ae_,ac_,b2_,bq_,ed_,bs_,ao_,a2_,az_,a4_,aw_,dw_,d6_,ea_,d3_,b5_,b1_,fl_,fn_,fh_,fu_,fp_,fz_,fq_,fk_,fr_,ft_,fs_,f0_,c5_,bd_,c3_,ct_,cx_,cr_,cz_,cf_,ch_,ci_,an_,cl_,fv_,d1_,cq_,Int.toNat_natCast,f3_,di_,dm_,dn_,er_,gv_,g0_,g4_,gx_,ge_,gu_,ga_,f4_,Int.add_zero,Int.zero_add,Int.ediv_one,Nat.reduceAdd,Nat.reduceMul,Int.reduceNeg,Nat.reduceLeDiff,List.length_cons,List.length_nil,true_and,and_true,Nat.zero_add,eq_self,Nat.reduceEqDiff,Int.reduceAdd,Int.reduceSub,Int.reduceMul,not_true_eq_false,not_false_eq_true,Nat.reduceLT,Int.reduceToNat,Int.reduceEq,Int.reduceNe,Int.reduceLT,Int.reduceLE,false_and,false_implies,true_implies]
    exact k4 (by omega)
theorem M_clear (hI : GI R)  (W : (MW R I im P pz lt lsz tn tsz rf bb h))
    (ok : ∀ h, (MW R I im P pz lt lsz tn (0) rf bb h) → Q (some (.int (zI tsz))) h) : Con M_M_clear [.ref 90] h Q := by
  obtain ⟨a0, ib, sm, pl, lo, nu, kp, ig, p0, tk, ki, tu, tf, ga, sd, rfl, hIg, hTu, hPz⟩ := W
  have kk := ok _ ⟨a0, ib, sm, pl, lo, nu, kp, ig, p0, tk, ki, tu, tf, ga, sd, rfl, hIg, hTu, hPz⟩
  refine g8_ (L := [some (.ref 90), none]) ok_M_clear (Nat.le_of_ble_eq_true rfl) rfl ?_
  refine w_M_clear_0 ?_
  simp (disch := omega) only [cm_,aq_,ay_,ag_,b8_,af_,bm_,ah_,ba_,bc_,bh_,bl_,c0_,bg_,am_,ae_,ac_,b2_,bq_,ed_,bs_,ao_,a2_,az_,a4_,aw_,dw_,d6_,ea_,d3_,b5_,b1_,fl_,fn_,fh_,fu_,fp_,fz_,fq_,fk_,fr_,ft_,fs_,f0_,c5_,bd_,c3_,ct_,cx_,cr_,cz_,cf_,ch_,ci_,an_,cl_,fv_,d1_,cq_,Int.toNat_natCast,f3_,di_,dm_,dn_,er_,gv_,g0_,g4_,gx_,ge_,gu_,ga_,f4_,Int.add_zero,Int.zero_add,Int.ediv_one,Nat.reduceAdd,Nat.reduceMul,Int.reduceNeg,Nat.reduceLeDiff,List.length_cons,List.length_nil,true_and,and_true,Nat.zero_add,eq_self,Nat.reduceEqDiff,Int.reduceAdd,Int.reduceSub,Int.reduceMul,not_true_eq_false,not_false_eq_true,Nat.reduceLT,Int.reduceToNat,Int.reduceEq,Int.reduceNe,Int.reduceLT,Int.reduceLE,false_and,false_implies,true_implies]
  exact kk
theorem M_judge (hT : GT tn tsz) (hI : GI R)  (W : (MW R I im P pz lt lsz tn tsz rf bb h))
    (ok : ∀ h, (MW R I im P pz lt lsz tn (0) rf bb h) → Q (some (.int (zI (firstN (jdP R tn) 0 tsz.toNat)))) h) : Con M_M_judge [.ref 90] h Q := by
  obtain ⟨a0, ib, sm, pl, lo, nu, kp, ig, p0, tk, ki, tu, tf, ga, sd, rfl, hIg, hTu, hPz⟩ := W
  have hG := hI.1
  have gm := hG.men
  have gt := hT.1
  have kk := ok _ ⟨a0, ib, sm, pl, lo, nu, kp, ig, p0, tk, ki, tu, tf, ga, sd, rfl, hIg, hTu, hPz⟩
  refine g8_ (L := [some (.ref 90), none, none]) ok_M_judge (Nat.le_of_ble_eq_true rfl) rfl ?_
  refine w_M_judge_0 ?_
  simp (disch := omega) only [cm_,aq_,ay_,ag_,b8_,af_,bm_,ah_,ba_,bc_,bh_,bl_,c0_,bg_,am_,ae_,ac_,b2_,bq_,ed_,bs_,ao_,a2_,az_,a4_,aw_,dw_,d6_,ea_,d3_,b5_,b1_,fl_,fn_,fh_,fu_,fp_,fz_,fq_,fk_,fr_,ft_,fs_,f0_,c5_,bd_,c3_,ct_,cx_,cr_,cz_,cf_,ch_,ci_,an_,cl_,fv_,d1_,cq_,Int.toNat_natCast,f3_,di_,dm_,dn_,er_,gv_,g0_,g4_,gx_,ge_,gu_,ga_,f4_,Int.add_zero,Int.zero_add,Int.ediv_one,Nat.reduceAdd,Nat.reduceMul,Int.reduceNeg,Nat.reduceLeDiff,List.length_cons,List.length_nil,true_and,and_true,Nat.zero_add,eq_self,Nat.reduceEqDiff,Int.reduceAdd,Int.reduceSub,Int.reduceMul,not_true_eq_false,not_false_eq_true,Nat.reduceLT,Int.reduceToNat,Int.reduceEq,Int.reduceNe,Int.reduceLT,Int.reduceLE,false_and,false_implies,true_implies]
  have loop : ∀ n i : Nat, i + n = tsz.toNat → firstN (jdP R tn) i n = firstN (jdP R tn) 0 tsz.toNat → J M_M_judge 17 [some (.ref 90), some (.int (zI tsz)), some (.int (zI i))] [] (HM R rf lt lsz a0 ib sm pl lo nu kp ig im p0 tk ki tu pz tf tn 0 ga sd bb) Q := by
    intro n
    induction n with
    | zero =>
      intro i hi he
      refine w_M_judge_17 ?_
      simp (disch := omega) only [cm_,aq_,ay_,ag_,b8_,af_,bm_,ah_,ba_,bc_,bh_,bl_,c0_,bg_,am_,ae_,ac_,b2_,bq_,ed_,bs_,ao_,a2_,az_,a4_,aw_,dw_,d6_,ea_,d3_,b5_,b1_,fl_,fn_,fh_,fu_,fp_,fz_,fq_,fk_,fr_,ft_,fs_,f0_,c5_,bd_,c3_,ct_,cx_,cr_,cz_,cf_,ch_,ci_,an_,cl_,fv_,d1_,cq_,Int.toNat_natCast,f3_,di_,dm_,dn_,er_,gv_,g0_,g4_,gx_,ge_,gu_,ga_,f4_,Int.add_zero,Int.zero_add,Int.ediv_one,Nat.reduceAdd,Nat.reduceMul,Int.reduceNeg,Nat.reduceLeDiff,List.length_cons,List.length_nil,true_and,and_true,Nat.zero_add,eq_self,Nat.reduceEqDiff,Int.reduceAdd,Int.reduceSub,Int.reduceMul,not_true_eq_false,not_false_eq_true,Nat.reduceLT,Int.reduceToNat,Int.reduceEq,Int.reduceNe,Int.reduceLT,Int.reduceLE,false_and,false_implies,true_implies]
      refine ⟨fun _ => ?_, fun q => by omega⟩
      refine w_M_judge_53 ?_
      simp (disch := omega) only [cm_,aq_,ay_,ag_,b8_,af_,bm_,ah_,ba_,bc_,bh_,bl_,c0_,bg_,am_,ae_,ac_,b2_,bq_,ed_,bs_,ao_,a2_,az_,a4_,aw_,dw_,d6_,ea_,d3_,b5_,b1_,fl_,fn_,fh_,fu_,fp_,fz_,fq_,fk_,fr_,ft_,fs_,f0_,c5_,bd_,c3_,ct_,cx_,cr_,cz_,cf_,ch_,ci_,an_,cl_,fv_,d1_,cq_,Int.toNat_natCast,f3_,di_,dm_,dn_,er_,gv_,g0_,g4_,gx_,ge_,gu_,ga_,f4_,Int.add_zero,Int.zero_add,Int.ediv_one,Nat.reduceAdd,Nat.reduceMul,Int.reduceNeg,Nat.reduceLeDiff,List.length_cons,List.length_nil,true_and,and_true,Nat.zero_add,eq_self,Nat.reduceEqDiff,Int.reduceAdd,Int.reduceSub,Int.reduceMul,not_true_eq_false,not_false_eq_true,Nat.reduceLT,Int.reduceToNat,Int.reduceEq,Int.reduceNe,Int.reduceLT,Int.reduceLE,false_and,false_implies,true_implies]
      rw [← he] at kk
      exact kk
    | succ n ih =>
      intro i hi he
      have hw := hG.wo i
      have ht := hT.2 i
      simp only [firstN] at he
      have bad : jdP R tn i = true → J M_M_judge 45 [some (.ref 90), some (.int (zI tsz)), some (.int (zI i))] [] (HM R rf lt lsz a0 ib sm pl lo nu kp ig im p0 tk ki tu pz tf tn 0 ga sd bb) Q := by
        intro q
        rw [if_pos q] at he
        rw [← he] at kk
        refine w_M_judge_45 ?_
        simp (disch := omega) only [cm_,aq_,ay_,ag_,b8_,af_,bm_,ah_,ba_,bc_,bh_,bl_,c0_,bg_,am_,ae_,ac_,b2_,bq_,ed_,bs_,ao_,a2_,az_,a4_,aw_,dw_,d6_,ea_,d3_,b5_,b1_,fl_,fn_,fh_,fu_,fp_,fz_,fq_,fk_,fr_,ft_,fs_,f0_,c5_,bd_,c3_,ct_,cx_,cr_,cz_,cf_,ch_,ci_,an_,cl_,fv_,d1_,cq_,Int.toNat_natCast,f3_,di_,dm_,dn_,er_,gv_,g0_,g4_,gx_,ge_,gu_,ga_,f4_,Int.add_zero,Int.zero_add,Int.ediv_one,Nat.reduceAdd,Nat.reduceMul,Int.reduceNeg,Nat.reduceLeDiff,List.length_cons,List.length_nil,true_and,and_true,Nat.zero_add,eq_self,Nat.reduceEqDiff,Int.reduceAdd,Int.reduceSub,Int.reduceMul,not_true_eq_false,not_false_eq_true,Nat.reduceLT,Int.reduceToNat,Int.reduceEq,Int.reduceNe,Int.reduceLT,Int.reduceLE,false_and,false_implies,true_implies]
        exact kk
      have nxt : jdP R tn i = false → J M_M_judge 47 [some (.ref 90), some (.int (zI tsz)), some (.int (zI i))] [] (HM R rf lt lsz a0 ib sm pl lo nu kp ig im p0 tk ki tu pz tf tn 0 ga sd bb) Q := by
        intro q
        rw [if_neg (by rw [q]; decide)] at he
        refine w_M_judge_47 ?_
        simp (disch := omega) only [cm_,aq_,ay_,ag_,b8_,af_,bm_,ah_,ba_,bc_,bh_,bl_,c0_,bg_,am_,ae_,ac_,b2_,bq_,ed_,bs_,ao_,a2_,az_,a4_,aw_,dw_,d6_,ea_,d3_,b5_,b1_,fl_,fn_,fh_,fu_,fp_,fz_,fq_,fk_,fr_,ft_,fs_,f0_,c5_,bd_,c3_,ct_,cx_,cr_,cz_,cf_,ch_,ci_,an_,cl_,fv_,d1_,cq_,Int.toNat_natCast,f3_,di_,dm_,dn_,er_,gv_,g0_,g4_,gx_,ge_,gu_,ga_,f4_,Int.add_zero,Int.zero_add,Int.ediv_one,Nat.reduceAdd,Nat.reduceMul,Int.reduceNeg,Nat.reduceLeDiff,List.length_cons,List.length_nil,true_and,and_true,Nat.zero_add,eq_self,Nat.reduceEqDiff,Int.reduceAdd,Int.reduceSub,Int.reduceMul,not_true_eq_false,not_false_eq_true,Nat.reduceLT,Int.reduceToNat,Int.reduceEq,Int.reduceNe,Int.reduceLT,Int.reduceLE,false_and,false_implies,true_implies]
        exact ih (i + 1) (by omega) he
      refine w_M_judge_17 ?_
      simp (disch := omega) only [cm_,aq_,ay_,ag_,b8_,af_,bm_,ah_,ba_,bc_,bh_,bl_,c0_,bg_,am_,ae_,ac_,b2_,bq_,ed_,bs_,ao_,a2_,az_,a4_,aw_,dw_,d6_,ea_,d3_,b5_,b1_,fl_,fn_,fh_,fu_,fp_,fz_,fq_,fk_,fr_,ft_,fs_,f0_,c5_,bd_,c3_,ct_,cx_,cr_,cz_,cf_,ch_,ci_,an_,cl_,fv_,d1_,cq_,Int.toNat_natCast,f3_,di_,dm_,dn_,er_,gv_,g0_,g4_,gx_,ge_,gu_,ga_,f4_,Int.add_zero,Int.zero_add,Int.ediv_one,Nat.reduceAdd,Nat.reduceMul,Int.reduceNeg,Nat.reduceLeDiff,List.length_cons,List.length_nil,true_and,and_true,Nat.zero_add,eq_self,Nat.reduceEqDiff,Int.reduceAdd,Int.reduceSub,Int.reduceMul,not_true_eq_false,not_false_eq_true,Nat.reduceLT,Int.reduceToNat,Int.reduceEq,Int.reduceNe,Int.reduceLT,Int.reduceLE,false_and,false_implies,true_implies]
      refine ⟨fun q => by omega, fun _ => ⟨fun c => bad ?_, fun c => ⟨by omega, by omega, fun q => nxt ?_, fun q => bad ?_⟩⟩⟩
      · have : ¬ ((i : Int) < rMen R) := by omega
        simp only [jdP, this, decide_false, Bool.false_and, Bool.not_false]
      · have c0 : (i : Int) < rMen R := by omega
        simp only [jdP, c0, decide_true, Bool.true_and, Bool.not_eq_false', decide_eq_true_eq]
        omega
      · have c0 : (i : Int) < rMen R := by omega
        simp only [jdP, c0, decide_true, Bool.true_and, Bool.not_eq_true', decide_eq_false_iff_not]
        omega
  exact loop tsz.toNat 0 (by omega) rfl
end E5
end
/-! counselM -/
section
/-! ===== the reference's counsel ===== -/
theorem mcN_stop (s : SQ) (R : RR) (n j : Nat) : mcN s R n (hb_ R + j) = mcN s R n (hb_ R) := by
  induction j with
  | zero => rfl
  | succ j ih =>
    rw [← Nat.add_assoc]
    simp only [mcN]
    rw [if_neg (fun q => by have := q.1.1; omega), ih]
theorem kpN_stop (s : SQ) (R : RR) (n j : Nat) : kpN s R n (hb_ R + j) = kpN s R n (hb_ R) := by
  induction j with
  | zero => rfl
  | succ j ih =>
    rw [← Nat.add_assoc]
    simp only [kpN]
    rw [if_neg (fun q => by have := q.1.1; omega), ih]
section E6
variable {R I : RR} {im : Int} {P : Nat → RR} {pz : Int} {lt : Nat → Int} {lsz : Int} {tn : Nat → Int} {tsz : Int} {rf : Nat → Int} {bb h : AH} {Q : Option Value → AH → Prop}
theorem M_mercy {n : Int} (hn : inI n) (hI : GI R)  (W : (MW R I im P pz lt lsz tn tsz rf bb h))
    (r4 : n < 0 → ∀ h, (MW R I im P pz lt lsz tn tsz (rfU rf 4) bb h) → Q (some (.int (zI (-4)))) h)
    (r6 : ¬ n < 0 → 60 < n → ∀ h, (MW R I im P pz lt lsz tn tsz (rfU rf 6) bb h) → Q (some (.int (zI (-6)))) h)
    (ok : ¬ n < 0 → ¬ 60 < n → ∀ h, (MW R I im P pz lt lsz tn tsz rf bb h) → Q (some (.int (zI ((mcN g6_ R n.toNat 8).2)))) h) : Con M_M_mercy [.ref 90, .int (zI n)] h Q := by
  obtain ⟨a0, ib, sm, pl, lo, nu, kp, ig, p0, tk, ki, tu, tf, ga, sd, rfl, hIg, hTu, hPz⟩ := W
  have hG := hI.1
  have gm := hG.men
  have gn := hG.nM
  have gk : ∀ B, GI B → ∀ i, 0 ≤ hd_ (g6_ B i) ∧ hd_ (g6_ B i) ≤ 12 := fun B h i => (h.1.dsX i).king
  have k4 := fun q => r4 q _ ⟨a0, ib, sm, pl, lo, nu, kp, ig, p0, tk, ki, tu, tf, ga, sd, rfl, hIg, hTu, hPz⟩
  have k6 := fun q q2 => r6 q q2 _ ⟨a0, ib, sm, pl, lo, nu, kp, ig, p0, tk, ki, tu, tf, ga, sd, rfl, hIg, hTu, hPz⟩
  refine g8_ (L := [some (.ref 90), some (.int (zI n)), none, none, none, none, none]) ok_M_mercy (Nat.le_of_ble_eq_true rfl) rfl ?_
  refine w_M_mercy_0 ?_
  simp (disch := omega) only [cm_,aq_,ay_,ag_,b8_,af_,am_,ae_,ac_,b2_,bq_,ed_,bs_,ao_,a2_,az_,aw_,dw_,d6_,ea_,d3_,b5_,fl_,fn_,fh_,fu_,fp_,fz_,fq_,fk_,fr_,ft_,fs_,f0_,c5_,bt_,bd_,c3_,cx_,cr_,cj_,cf_,an_,cl_,cd_,a9_,a8_,a7_,ce_,fv_,Int.toNat_natCast,f3_,di_,dm_,dn_,gv_,g4_,gu_,gs_,f4_,Int.add_zero,Int.zero_add,Int.ediv_one,Nat.reduceAdd,Nat.reduceMul,Int.reduceNeg,Nat.reduceLeDiff,List.length_cons,List.length_nil,true_and,and_true,Nat.zero_add,eq_self,Nat.reduceEqDiff,Int.reduceAdd,Int.reduceSub,Int.reduceMul,not_true_eq_false,not_false_eq_true,Nat.reduceLT,Int.reduceToNat,Int.reduceEq,Int.reduceNe,Int.reduceLT,Int.reduceLE,false_implies,true_implies]
  refine con_MwrongNumber hn (by unfold inI; omega) (by unfold inI; omega) (fun c2 => ?_) (fun c2 c3 => ?_) (fun c2 c3 => ?_)
  · simp (disch := omega) only [cm_,aq_,ay_,ag_,b8_,af_,am_,ae_,ac_,b2_,bq_,ed_,bs_,ao_,a2_,az_,aw_,dw_,d6_,ea_,d3_,b5_,fl_,fn_,fh_,fu_,fp_,fz_,fq_,fk_,fr_,ft_,fs_,f0_,c5_,bt_,bd_,c3_,cx_,cr_,cj_,cf_,an_,cl_,cd_,a9_,a8_,a7_,ce_,fv_,Int.toNat_natCast,f3_,di_,dm_,dn_,gv_,g4_,gu_,gs_,f4_,Int.add_zero,Int.zero_add,Int.ediv_one,Nat.reduceAdd,Nat.reduceMul,Int.reduceNeg,Nat.reduceLeDiff,List.length_cons,List.length_nil,true_and,and_true,Nat.zero_add,eq_self,Nat.reduceEqDiff,Int.reduceAdd,Int.reduceSub,Int.reduceMul,not_true_eq_false,not_false_eq_true,Nat.reduceLT,Int.reduceToNat,Int.reduceEq,Int.reduceNe,Int.reduceLT,Int.reduceLE,false_implies,true_implies]
    refine con_Mrefuse (k := 4) (by omega) ?_
    simp (disch := omega) only [cm_,aq_,ay_,ag_,b8_,af_,am_,ae_,ac_,b2_,bq_,ed_,bs_,ao_,a2_,az_,aw_,dw_,d6_,ea_,d3_,b5_,fl_,fn_,fh_,fu_,fp_,fz_,fq_,fk_,fr_,ft_,fs_,f0_,c5_,bt_,bd_,c3_,cx_,cr_,cj_,cf_,an_,cl_,cd_,a9_,a8_,a7_,ce_,fv_,Int.toNat_natCast,f3_,di_,dm_,dn_,gv_,g4_,gu_,gs_,f4_,Int.add_zero,Int.zero_add,Int.ediv_one,Nat.reduceAdd,Nat.reduceMul,Int.reduceNeg,Nat.reduceLeDiff,List.length_cons,List.length_nil,true_and,and_true,Nat.zero_add,eq_self,Nat.reduceEqDiff,Int.reduceAdd,Int.reduceSub,Int.reduceMul,not_true_eq_false,not_false_eq_true,Nat.reduceLT,Int.reduceToNat,Int.reduceEq,Int.reduceNe,Int.reduceLT,Int.reduceLE,false_implies,true_implies]
    exact k4 c2
  · simp (disch := omega) only [cm_,aq_,ay_,ag_,b8_,af_,am_,ae_,ac_,b2_,bq_,ed_,bs_,ao_,a2_,az_,aw_,dw_,d6_,ea_,d3_,b5_,fl_,fn_,fh_,fu_,fp_,fz_,fq_,fk_,fr_,ft_,fs_,f0_,c5_,bt_,bd_,c3_,cx_,cr_,cj_,cf_,an_,cl_,cd_,a9_,a8_,a7_,ce_,fv_,Int.toNat_natCast,f3_,di_,dm_,dn_,gv_,g4_,gu_,gs_,f4_,Int.add_zero,Int.zero_add,Int.ediv_one,Nat.reduceAdd,Nat.reduceMul,Int.reduceNeg,Nat.reduceLeDiff,List.length_cons,List.length_nil,true_and,and_true,Nat.zero_add,eq_self,Nat.reduceEqDiff,Int.reduceAdd,Int.reduceSub,Int.reduceMul,not_true_eq_false,not_false_eq_true,Nat.reduceLT,Int.reduceToNat,Int.reduceEq,Int.reduceNe,Int.reduceLT,Int.reduceLE,false_implies,true_implies]
    refine con_Mrefuse (k := 6) (by omega) ?_
    simp (disch := omega) only [cm_,aq_,ay_,ag_,b8_,af_,am_,ae_,ac_,b2_,bq_,ed_,bs_,ao_,a2_,az_,aw_,dw_,d6_,ea_,d3_,b5_,fl_,fn_,fh_,fu_,fp_,fz_,fq_,fk_,fr_,ft_,fs_,f0_,c5_,bt_,bd_,c3_,cx_,cr_,cj_,cf_,an_,cl_,cd_,a9_,a8_,a7_,ce_,fv_,Int.toNat_natCast,f3_,di_,dm_,dn_,gv_,g4_,gu_,gs_,f4_,Int.add_zero,Int.zero_add,Int.ediv_one,Nat.reduceAdd,Nat.reduceMul,Int.reduceNeg,Nat.reduceLeDiff,List.length_cons,List.length_nil,true_and,and_true,Nat.zero_add,eq_self,Nat.reduceEqDiff,Int.reduceAdd,Int.reduceSub,Int.reduceMul,not_true_eq_false,not_false_eq_true,Nat.reduceLT,Int.reduceToNat,Int.reduceEq,Int.reduceNe,Int.reduceLT,Int.reduceLE,false_implies,true_implies]
    exact k6 c2 c3
  · have hnn : n = (n.toNat : Int) := by omega
    have kk := ok c2 c3
    have st := mcN_stop g6_ R n.toNat (8 - hb_ R)
    rw [show hb_ R + (8 - hb_ R) = 8 by omega] at st
    rw [st] at kk
    have m0 := gk R hI n.toNat
    simp (disch := omega) only [cm_,aq_,ay_,ag_,b8_,af_,am_,ae_,ac_,b2_,bq_,ed_,bs_,ao_,a2_,az_,aw_,dw_,d6_,ea_,d3_,b5_,fl_,fn_,fh_,fu_,fp_,fz_,fq_,fk_,fr_,ft_,fs_,f0_,c5_,bt_,bd_,c3_,cx_,cr_,cj_,cf_,an_,cl_,cd_,a9_,a8_,a7_,ce_,fv_,Int.toNat_natCast,f3_,di_,dm_,dn_,gv_,g4_,gu_,gs_,f4_,Int.add_zero,Int.zero_add,Int.ediv_one,Nat.reduceAdd,Nat.reduceMul,Int.reduceNeg,Nat.reduceLeDiff,List.length_cons,List.length_nil,true_and,and_true,Nat.zero_add,eq_self,Nat.reduceEqDiff,Int.reduceAdd,Int.reduceSub,Int.reduceMul,not_true_eq_false,not_false_eq_true,Nat.reduceLT,Int.reduceToNat,Int.reduceEq,Int.reduceNe,Int.reduceLT,Int.reduceLE,false_implies,true_implies]
    refine w_M_mercy_23 ?_
    simp (disch := omega) only [cm_,aq_,ay_,ag_,b8_,af_,am_,ae_,ac_,b2_,bq_,ed_,bs_,ao_,a2_,az_,aw_,dw_,d6_,ea_,d3_,b5_,fl_,fn_,fh_,fu_,fp_,fz_,fq_,fk_,fr_,ft_,fs_,f0_,c5_,bt_,bd_,c3_,cx_,cr_,cj_,cf_,an_,cl_,cd_,a9_,a8_,a7_,ce_,fv_,Int.toNat_natCast,f3_,di_,dm_,dn_,gv_,g4_,gu_,gs_,f4_,Int.add_zero,Int.zero_add,Int.ediv_one,Nat.reduceAdd,Nat.reduceMul,Int.reduceNeg,Nat.reduceLeDiff,List.length_cons,List.length_nil,true_and,and_true,Nat.zero_add,eq_self,Nat.reduceEqDiff,Int.reduceAdd,Int.reduceSub,Int.reduceMul,not_true_eq_false,not_false_eq_true,Nat.reduceLT,Int.reduceToNat,Int.reduceEq,Int.reduceNe,Int.reduceLT,Int.reduceLE,false_implies,true_implies]
    refine con_Mthink (fun x hx => ?_)
    simp (disch := omega) only [cm_,aq_,ay_,ag_,b8_,af_,am_,ae_,ac_,b2_,bq_,ed_,bs_,ao_,a2_,az_,aw_,dw_,d6_,ea_,d3_,b5_,fl_,fn_,fh_,fu_,fp_,fz_,fq_,fk_,fr_,ft_,fs_,f0_,c5_,bt_,bd_,c3_,cx_,cr_,cj_,cf_,an_,cl_,cd_,a9_,a8_,a7_,ce_,fv_,Int.toNat_natCast,f3_,di_,dm_,dn_,gv_,g4_,gu_,gs_,f4_,Int.add_zero,Int.zero_add,Int.ediv_one,Nat.reduceAdd,Nat.reduceMul,Int.reduceNeg,Nat.reduceLeDiff,List.length_cons,List.length_nil,true_and,and_true,Nat.zero_add,eq_self,Nat.reduceEqDiff,Int.reduceAdd,Int.reduceSub,Int.reduceMul,not_true_eq_false,not_false_eq_true,Nat.reduceLT,Int.reduceToNat,Int.reduceEq,Int.reduceNe,Int.reduceLT,Int.reduceLE,false_implies,true_implies]
    rw [hnn]
    refine con_MkingThen (S := R) (by omega) hI hx hI.2.2 ?_
    simp (disch := omega) only [cm_,aq_,ay_,ag_,b8_,af_,am_,ae_,ac_,b2_,bq_,ed_,bs_,ao_,a2_,az_,aw_,dw_,d6_,ea_,d3_,b5_,fl_,fn_,fh_,fu_,fp_,fz_,fq_,fk_,fr_,ft_,fs_,f0_,c5_,bt_,bd_,c3_,cx_,cr_,cj_,cf_,an_,cl_,cd_,a9_,a8_,a7_,ce_,fv_,Int.toNat_natCast,f3_,di_,dm_,dn_,gv_,g4_,gu_,gs_,f4_,Int.add_zero,Int.zero_add,Int.ediv_one,Nat.reduceAdd,Nat.reduceMul,Int.reduceNeg,Nat.reduceLeDiff,List.length_cons,List.length_nil,true_and,and_true,Nat.zero_add,eq_self,Nat.reduceEqDiff,Int.reduceAdd,Int.reduceSub,Int.reduceMul,not_true_eq_false,not_false_eq_true,Nat.reduceLT,Int.reduceToNat,Int.reduceEq,Int.reduceNe,Int.reduceLT,Int.reduceLE,false_implies,true_implies]
    have loop : ∀ k i : Nat, i + k = hb_ R → ∀ y, J M_M_mercy 40 [some (.ref 90), some (.int (zI (n.toNat : Int))), some (.int (zI 0)), some (.int (zI (mcN g6_ R n.toNat i).2)), some (.int (zI (mcN g6_ R n.toNat i).1)), some (.int (zI i)), y] [] (HM R rf lt lsz a0 ib sm pl lo nu x ig im 49 0 (.ref 101) tu pz tf tn tsz ga sd bb) Q := by
      intro k
      induction k with
      | zero =>
        intro i hi y
        have e : i = hb_ R := by omega
        subst e
        refine w_M_mercy_40 ?_
        simp (disch := omega) only [cm_,aq_,ay_,ag_,b8_,af_,am_,ae_,ac_,b2_,bq_,ed_,bs_,ao_,a2_,az_,aw_,dw_,d6_,ea_,d3_,b5_,fl_,fn_,fh_,fu_,fp_,fz_,fq_,fk_,fr_,ft_,fs_,f0_,c5_,bt_,bd_,c3_,cx_,cr_,cj_,cf_,an_,cl_,cd_,a9_,a8_,a7_,ce_,fv_,Int.toNat_natCast,f3_,di_,dm_,dn_,gv_,g4_,gu_,gs_,f4_,Int.add_zero,Int.zero_add,Int.ediv_one,Nat.reduceAdd,Nat.reduceMul,Int.reduceNeg,Nat.reduceLeDiff,List.length_cons,List.length_nil,true_and,and_true,Nat.zero_add,eq_self,Nat.reduceEqDiff,Int.reduceAdd,Int.reduceSub,Int.reduceMul,not_true_eq_false,not_false_eq_true,Nat.reduceLT,Int.reduceToNat,Int.reduceEq,Int.reduceNe,Int.reduceLT,Int.reduceLE,false_implies,true_implies]
        refine ⟨fun _ => ?_, fun q => by omega⟩
        refine w_M_mercy_110 ?_
        simp (disch := omega) only [cm_,aq_,ay_,ag_,b8_,af_,am_,ae_,ac_,b2_,bq_,ed_,bs_,ao_,a2_,az_,aw_,dw_,d6_,ea_,d3_,b5_,fl_,fn_,fh_,fu_,fp_,fz_,fq_,fk_,fr_,ft_,fs_,f0_,c5_,bt_,bd_,c3_,cx_,cr_,cj_,cf_,an_,cl_,cd_,a9_,a8_,a7_,ce_,fv_,Int.toNat_natCast,f3_,di_,dm_,dn_,gv_,g4_,gu_,gs_,f4_,Int.add_zero,Int.zero_add,Int.ediv_one,Nat.reduceAdd,Nat.reduceMul,Int.reduceNeg,Nat.reduceLeDiff,List.length_cons,List.length_nil,true_and,and_true,Nat.zero_add,eq_self,Nat.reduceEqDiff,Int.reduceAdd,Int.reduceSub,Int.reduceMul,not_true_eq_false,not_false_eq_true,Nat.reduceLT,Int.reduceToNat,Int.reduceEq,Int.reduceNe,Int.reduceLT,Int.reduceLE,false_implies,true_implies]
        exact kk _ ⟨_, _, _, _, _, _, _, _, _, _, _, _, _, _, _, rfl, hIg, hTu, hPz⟩
      | succ k ih =>
        intro i hi y
        have step := ih (i + 1) (by omega)
        have gf := hG.fa i
        have mr : 0 ≤ (mcN g6_ R n.toNat i).1 ∧ (mcN g6_ R n.toNat i).1 ≤ 12 := by
          clear step ih hi
          induction i with
          | zero => exact m0
          | succ j ij =>
            simp only [mcN]
            split
            · rename_i c
              exact (GR.dsX (hG.setFa j (by omega)) n.toNat).king
            · exact ij (hG.fa j)
        simp only [mcN] at step
        refine w_M_mercy_40 ?_
        simp (disch := omega) only [cm_,aq_,ay_,ag_,b8_,af_,am_,ae_,ac_,b2_,bq_,ed_,bs_,ao_,a2_,az_,aw_,dw_,d6_,ea_,d3_,b5_,fl_,fn_,fh_,fu_,fp_,fz_,fq_,fk_,fr_,ft_,fs_,f0_,c5_,bt_,bd_,c3_,cx_,cr_,cj_,cf_,an_,cl_,cd_,a9_,a8_,a7_,ce_,fv_,Int.toNat_natCast,f3_,di_,dm_,dn_,gv_,g4_,gu_,gs_,f4_,Int.add_zero,Int.zero_add,Int.ediv_one,Nat.reduceAdd,Nat.reduceMul,Int.reduceNeg,Nat.reduceLeDiff,List.length_cons,List.length_nil,true_and,and_true,Nat.zero_add,eq_self,Nat.reduceEqDiff,Int.reduceAdd,Int.reduceSub,Int.reduceMul,not_true_eq_false,not_false_eq_true,Nat.reduceLT,Int.reduceToNat,Int.reduceEq,Int.reduceNe,Int.reduceLT,Int.reduceLE,false_implies,true_implies]
        refine ⟨fun q => by omega, fun _ => ⟨by omega, fun c => ?_, fun c => ?_⟩⟩
        · rw [if_neg (fun q => c q.1.2)] at step
          refine w_M_mercy_104 ?_
          simp (disch := omega) only [cm_,aq_,ay_,ag_,b8_,af_,am_,ae_,ac_,b2_,bq_,ed_,bs_,ao_,a2_,az_,aw_,dw_,d6_,ea_,d3_,b5_,fl_,fn_,fh_,fu_,fp_,fz_,fq_,fk_,fr_,ft_,fs_,f0_,c5_,bt_,bd_,c3_,cx_,cr_,cj_,cf_,an_,cl_,cd_,a9_,a8_,a7_,ce_,fv_,Int.toNat_natCast,f3_,di_,dm_,dn_,gv_,g4_,gu_,gs_,f4_,Int.add_zero,Int.zero_add,Int.ediv_one,Nat.reduceAdd,Nat.reduceMul,Int.reduceNeg,Nat.reduceLeDiff,List.length_cons,List.length_nil,true_and,and_true,Nat.zero_add,eq_self,Nat.reduceEqDiff,Int.reduceAdd,Int.reduceSub,Int.reduceMul,not_true_eq_false,not_false_eq_true,Nat.reduceLT,Int.reduceToNat,Int.reduceEq,Int.reduceNe,Int.reduceLT,Int.reduceLE,false_implies,true_implies]
          exact step _
        · have c' : rFa R i = 0 := by omega
          have hI2 := hI.setFa (x := 1) i (by omega) (by omega) (by omega)
          have g2 := gk _ hI2 n.toNat
          refine ⟨by omega, ?_⟩
          refine con_MkingThen (R := sFa R (upI (rFa R) i 1)) (S := R) (by omega) hI2 hx hI.2.2 ?_
          simp (disch := omega) only [cm_,aq_,ay_,ag_,b8_,af_,am_,ae_,ac_,b2_,bq_,ed_,bs_,ao_,a2_,az_,aw_,dw_,d6_,ea_,d3_,b5_,fl_,fn_,fh_,fu_,fp_,fz_,fq_,fk_,fr_,ft_,fs_,f0_,c5_,bt_,bd_,c3_,cx_,cr_,cj_,cf_,an_,cl_,cd_,a9_,a8_,a7_,ce_,fv_,Int.toNat_natCast,f3_,di_,dm_,dn_,gv_,g4_,gu_,gs_,f4_,Int.add_zero,Int.zero_add,Int.ediv_one,Nat.reduceAdd,Nat.reduceMul,Int.reduceNeg,Nat.reduceLeDiff,List.length_cons,List.length_nil,true_and,and_true,Nat.zero_add,eq_self,Nat.reduceEqDiff,Int.reduceAdd,Int.reduceSub,Int.reduceMul,not_true_eq_false,not_false_eq_true,Nat.reduceLT,Int.reduceToNat,Int.reduceEq,Int.reduceNe,Int.reduceLT,Int.reduceLE,false_implies,true_implies]
          refine ⟨fun c5 => ?_, fun c5 => ?_⟩
          · rw [if_neg (fun q => by have := q.2; omega)] at step
            repeat' (first | with_reducible refine And.intro ?_ ?_ | with_reducible intro _ | ((first | with_reducible refine w_M_mercy_23 ?_ | with_reducible refine w_M_mercy_86 ?_ | with_reducible refine w_M_mercy_87 ?_ | with_reducible refine w_M_mercy_100 ?_ | with_reducible refine w_M_mercy_102 ?_ | with_reducible refine w_M_mercy_104 ?_ | with_reducible refine w_M_mercy_110 ?_); simp (disch := omega) only [cm_,aq_,ay_,ag_,b8_,af_,am_,ae_,ac_,b2_,bq_,ed_,bs_,ao_,a2_,az_,aw_,dw_,d6_,ea_,d3_,b5_,fl_,fn_,fh_,fu_,fp_,fz_,fq_,fk_,fr_,ft_,fs_,f0_,c5_,bt_,bd_,c3_,cx_,cr_,cj_,cf_,an_,cl_,cd_,a9_,a8_,a7_,ce_,fv_,Int.toNat_natCast,f3_,di_,dm_,dn_,gv_,g4_,gu_,gs_,f4_,Int.add_zero,Int.zero_add,Int.ediv_one,Nat.reduceAdd,Nat.reduceMul,Int.reduceNeg,Nat.reduceLeDiff,List.length_cons,List.length_nil,true_and,and_true,Nat.zero_add,eq_self,Nat.reduceEqDiff,Int.reduceAdd,Int.reduceSub,Int.reduceMul,not_true_eq_false,not_false_eq_true,Nat.reduceLT,Int.reduceToNat,Int.reduceEq,Int.reduceNe,Int.reduceLT,Int.reduceLE,false_implies,true_implies]))
            all_goals first | omega | exact step _
          · rw [if_pos ⟨⟨by omega, c'⟩, by omega⟩] at step
            repeat' (first | with_reducible refine And.intro ?_ ?_ | with_reducible intro _ | ((first | with_reducible refine w_M_mercy_23 ?_ | with_reducible refine w_M_mercy_86 ?_ | with_reducible refine w_M_mercy_87 ?_ | with_reducible refine w_M_mercy_100 ?_ | with_reducible refine w_M_mercy_102 ?_ | with_reducible refine w_M_mercy_104 ?_ | with_reducible refine w_M_mercy_110 ?_); simp (disch := omega) only [cm_,aq_,ay_,ag_,b8_,af_,am_,ae_,ac_,b2_,bq_,ed_,bs_,ao_,a2_,az_,aw_,dw_,d6_,ea_,d3_,b5_,fl_,fn_,fh_,fu_,fp_,fz_,fq_,fk_,fr_,ft_,fs_,f0_,c5_,bt_,bd_,c3_,cx_,cr_,cj_,cf_,an_,cl_,cd_,a9_,a8_,a7_,ce_,fv_,Int.toNat_natCast,f3_,di_,dm_,dn_,gv_,g4_,gu_,gs_,f4_,Int.add_zero,Int.zero_add,Int.ediv_one,Nat.reduceAdd,Nat.reduceMul,Int.reduceNeg,Nat.reduceLeDiff,List.length_cons,List.length_nil,true_and,and_true,Nat.zero_add,eq_self,Nat.reduceEqDiff,Int.reduceAdd,Int.reduceSub,Int.reduceMul,not_true_eq_false,not_false_eq_true,Nat.reduceLT,Int.reduceToNat,Int.reduceEq,Int.reduceNe,Int.reduceLT,Int.reduceLE,false_implies,true_implies]))
            all_goals first | omega | exact step _
    exact loop (hb_ R) 0 (Nat.zero_add _) none
end E6
end
/-! counselM -/
section
/-! ===== the reference's counsel: keep, dig, crown ===== -/
section E7
variable {R I : RR} {im : Int} {P : Nat → RR} {pz : Int} {lt : Nat → Int} {lsz : Int} {tn : Nat → Int} {tsz : Int} {rf : Nat → Int} {bb h : AH} {Q : Option Value → AH → Prop}
theorem M_keep {n w : Int} (hn : inI n) (hw : inI w) (hI : GI R)  (W : (MW R I im P pz lt lsz tn tsz rf bb h))
    (r4 : n < 0 → ∀ h, (MW R I im P pz lt lsz tn tsz (rfU rf 4) bb h) → Q (some (.int (zI (-4)))) h)
    (r6 : ¬ n < 0 → 60 < n → ∀ h, (MW R I im P pz lt lsz tn tsz (rfU rf 6) bb h) → Q (some (.int (zI (-6)))) h)
    (r2 : ¬ n < 0 → ¬ 60 < n → ¬ (w = 0 ∨ w = 1) → ∀ h, (MW R I im P pz lt lsz tn tsz (rfU rf 2) bb h) → Q (some (.int (zI (-2)))) h)
    (ok : ¬ n < 0 → ¬ 60 < n → (w = 0 ∨ w = 1) → ∀ h, (MW R I im P pz lt lsz tn tsz rf bb h) → Q (some (.int (zI (if w = 1 then (kpN g6_ R n.toNat 8).1 else (kpN g6_ R n.toNat 8).2)))) h) : Con M_M_keep [.ref 90, .int (zI n), .int (zI w)] h Q := by
  obtain ⟨a0, ib, sm, pl, lo, nu, kp, ig, p0, tk, ki, tu, tf, ga, sd, rfl, hIg, hTu, hPz⟩ := W
  have hG := hI.1
  have gm := hG.men
  have gn := hG.nM
  have gk : ∀ B, GI B → ∀ i, 0 ≤ hd_ (g6_ B i) ∧ hd_ (g6_ B i) ≤ 12 := fun B h i => (h.1.dsX i).king
  have k4 := fun q => r4 q _ ⟨a0, ib, sm, pl, lo, nu, kp, ig, p0, tk, ki, tu, tf, ga, sd, rfl, hIg, hTu, hPz⟩
  have k6 := fun q q2 => r6 q q2 _ ⟨a0, ib, sm, pl, lo, nu, kp, ig, p0, tk, ki, tu, tf, ga, sd, rfl, hIg, hTu, hPz⟩
  have k2 := fun q q2 q3 => r2 q q2 q3 _ ⟨a0, ib, sm, pl, lo, nu, kp, ig, p0, tk, ki, tu, tf, ga, sd, rfl, hIg, hTu, hPz⟩
  refine g8_ (L := [some (.ref 90), some (.int (zI n)), some (.int (zI w)), none, none, none, none, none]) ok_M_keep (Nat.le_of_ble_eq_true rfl) rfl ?_
  refine w_M_keep_0 ?_
  simp (disch := omega) only [cm_,aq_,ay_,ag_,b8_,af_,am_,ae_,ac_,b2_,bq_,ed_,bs_,ao_,a2_,az_,aw_,dw_,d6_,ea_,d3_,b5_,fl_,fn_,fh_,fu_,fp_,fz_,fq_,fk_,fr_,ft_,fs_,f0_,c5_,bt_,bd_,c3_,cx_,cr_,cj_,cf_,an_,cl_,cd_,a9_,a8_,a7_,ce_,fv_,d1_,Int.toNat_natCast,f3_,di_,dm_,dn_,gv_,g1_,g4_,gu_,gt_,gs_,f4_,Int.add_zero,Int.zero_add,Int.ediv_one,Nat.reduceAdd,Nat.reduceMul,Int.reduceNeg,Nat.reduceLeDiff,List.length_cons,List.length_nil,true_and,and_true,Nat.zero_add,eq_self,Nat.reduceEqDiff,Int.reduceAdd,Int.reduceSub,Int.reduceMul,not_true_eq_false,not_false_eq_true,Nat.reduceLT,Int.reduceToNat,Int.reduceEq,Int.reduceNe,Int.reduceLT,Int.reduceLE,and_self,and_false,false_and,false_implies,true_implies]
  refine con_MwrongNumber hn (by unfold inI; omega) (by unfold inI; omega) (fun c2 => ?_) (fun c2 c3 => ?_) (fun c2 c3 => ?_)
  · simp (disch := omega) only [cm_,aq_,ay_,ag_,b8_,af_,am_,ae_,ac_,b2_,bq_,ed_,bs_,ao_,a2_,az_,aw_,dw_,d6_,ea_,d3_,b5_,fl_,fn_,fh_,fu_,fp_,fz_,fq_,fk_,fr_,ft_,fs_,f0_,c5_,bt_,bd_,c3_,cx_,cr_,cj_,cf_,an_,cl_,cd_,a9_,a8_,a7_,ce_,fv_,d1_,Int.toNat_natCast,f3_,di_,dm_,dn_,gv_,g1_,g4_,gu_,gt_,gs_,f4_,Int.add_zero,Int.zero_add,Int.ediv_one,Nat.reduceAdd,Nat.reduceMul,Int.reduceNeg,Nat.reduceLeDiff,List.length_cons,List.length_nil,true_and,and_true,Nat.zero_add,eq_self,Nat.reduceEqDiff,Int.reduceAdd,Int.reduceSub,Int.reduceMul,not_true_eq_false,not_false_eq_true,Nat.reduceLT,Int.reduceToNat,Int.reduceEq,Int.reduceNe,Int.reduceLT,Int.reduceLE,and_self,and_false,false_and,false_implies,true_implies]
    refine con_MwrongBit (by unfold inI; omega) hw (by unfold inI; omega) (fun q => by omega) (fun _ => ?_)
    simp (disch := omega) only [cm_,aq_,ay_,ag_,b8_,af_,am_,ae_,ac_,b2_,bq_,ed_,bs_,ao_,a2_,az_,aw_,dw_,d6_,ea_,d3_,b5_,fl_,fn_,fh_,fu_,fp_,fz_,fq_,fk_,fr_,ft_,fs_,f0_,c5_,bt_,bd_,c3_,cx_,cr_,cj_,cf_,an_,cl_,cd_,a9_,a8_,a7_,ce_,fv_,d1_,Int.toNat_natCast,f3_,di_,dm_,dn_,gv_,g1_,g4_,gu_,gt_,gs_,f4_,Int.add_zero,Int.zero_add,Int.ediv_one,Nat.reduceAdd,Nat.reduceMul,Int.reduceNeg,Nat.reduceLeDiff,List.length_cons,List.length_nil,true_and,and_true,Nat.zero_add,eq_self,Nat.reduceEqDiff,Int.reduceAdd,Int.reduceSub,Int.reduceMul,not_true_eq_false,not_false_eq_true,Nat.reduceLT,Int.reduceToNat,Int.reduceEq,Int.reduceNe,Int.reduceLT,Int.reduceLE,and_self,and_false,false_and,false_implies,true_implies]
    refine con_Mrefuse (k := 4) (by omega) ?_
    simp (disch := omega) only [cm_,aq_,ay_,ag_,b8_,af_,am_,ae_,ac_,b2_,bq_,ed_,bs_,ao_,a2_,az_,aw_,dw_,d6_,ea_,d3_,b5_,fl_,fn_,fh_,fu_,fp_,fz_,fq_,fk_,fr_,ft_,fs_,f0_,c5_,bt_,bd_,c3_,cx_,cr_,cj_,cf_,an_,cl_,cd_,a9_,a8_,a7_,ce_,fv_,d1_,Int.toNat_natCast,f3_,di_,dm_,dn_,gv_,g1_,g4_,gu_,gt_,gs_,f4_,Int.add_zero,Int.zero_add,Int.ediv_one,Nat.reduceAdd,Nat.reduceMul,Int.reduceNeg,Nat.reduceLeDiff,List.length_cons,List.length_nil,true_and,and_true,Nat.zero_add,eq_self,Nat.reduceEqDiff,Int.reduceAdd,Int.reduceSub,Int.reduceMul,not_true_eq_false,not_false_eq_true,Nat.reduceLT,Int.reduceToNat,Int.reduceEq,Int.reduceNe,Int.reduceLT,Int.reduceLE,and_self,and_false,false_and,false_implies,true_implies]
    exact k4 c2
  · simp (disch := omega) only [cm_,aq_,ay_,ag_,b8_,af_,am_,ae_,ac_,b2_,bq_,ed_,bs_,ao_,a2_,az_,aw_,dw_,d6_,ea_,d3_,b5_,fl_,fn_,fh_,fu_,fp_,fz_,fq_,fk_,fr_,ft_,fs_,f0_,c5_,bt_,bd_,c3_,cx_,cr_,cj_,cf_,an_,cl_,cd_,a9_,a8_,a7_,ce_,fv_,d1_,Int.toNat_natCast,f3_,di_,dm_,dn_,gv_,g1_,g4_,gu_,gt_,gs_,f4_,Int.add_zero,Int.zero_add,Int.ediv_one,Nat.reduceAdd,Nat.reduceMul,Int.reduceNeg,Nat.reduceLeDiff,List.length_cons,List.length_nil,true_and,and_true,Nat.zero_add,eq_self,Nat.reduceEqDiff,Int.reduceAdd,Int.reduceSub,Int.reduceMul,not_true_eq_false,not_false_eq_true,Nat.reduceLT,Int.reduceToNat,Int.reduceEq,Int.reduceNe,Int.reduceLT,Int.reduceLE,and_self,and_false,false_and,false_implies,true_implies]
    refine con_MwrongBit (by unfold inI; omega) hw (by unfold inI; omega) (fun q => by omega) (fun _ => ?_)
    simp (disch := omega) only [cm_,aq_,ay_,ag_,b8_,af_,am_,ae_,ac_,b2_,bq_,ed_,bs_,ao_,a2_,az_,aw_,dw_,d6_,ea_,d3_,b5_,fl_,fn_,fh_,fu_,fp_,fz_,fq_,fk_,fr_,ft_,fs_,f0_,c5_,bt_,bd_,c3_,cx_,cr_,cj_,cf_,an_,cl_,cd_,a9_,a8_,a7_,ce_,fv_,d1_,Int.toNat_natCast,f3_,di_,dm_,dn_,gv_,g1_,g4_,gu_,gt_,gs_,f4_,Int.add_zero,Int.zero_add,Int.ediv_one,Nat.reduceAdd,Nat.reduceMul,Int.reduceNeg,Nat.reduceLeDiff,List.length_cons,List.length_nil,true_and,and_true,Nat.zero_add,eq_self,Nat.reduceEqDiff,Int.reduceAdd,Int.reduceSub,Int.reduceMul,not_true_eq_false,not_false_eq_true,Nat.reduceLT,Int.reduceToNat,Int.reduceEq,Int.reduceNe,Int.reduceLT,Int.reduceLE,and_self,and_false,false_and,false_implies,true_implies]
    refine con_Mrefuse (k := 6) (by omega) ?_
    simp (disch := omega) only [cm_,aq_,ay_,ag_,b8_,af_,am_,ae_,ac_,b2_,bq_,ed_,bs_,ao_,a2_,az_,aw_,dw_,d6_,ea_,d3_,b5_,fl_,fn_,fh_,fu_,fp_,fz_,fq_,fk_,fr_,ft_,fs_,f0_,c5_,bt_,bd_,c3_,cx_,cr_,cj_,cf_,an_,cl_,cd_,a9_,a8_,a7_,ce_,fv_,d1_,Int.toNat_natCast,f3_,di_,dm_,dn_,gv_,g1_,g4_,gu_,gt_,gs_,f4_,Int.add_zero,Int.zero_add,Int.ediv_one,Nat.reduceAdd,Nat.reduceMul,Int.reduceNeg,Nat.reduceLeDiff,List.length_cons,List.length_nil,true_and,and_true,Nat.zero_add,eq_self,Nat.reduceEqDiff,Int.reduceAdd,Int.reduceSub,Int.reduceMul,not_true_eq_false,not_false_eq_true,Nat.reduceLT,Int.reduceToNat,Int.reduceEq,Int.reduceNe,Int.reduceLT,Int.reduceLE,and_self,and_false,false_and,false_implies,true_implies]
    exact k6 c2 c3
  · simp (disch := omega) only [cm_,aq_,ay_,ag_,b8_,af_,am_,ae_,ac_,b2_,bq_,ed_,bs_,ao_,a2_,az_,aw_,dw_,d6_,ea_,d3_,b5_,fl_,fn_,fh_,fu_,fp_,fz_,fq_,fk_,fr_,ft_,fs_,f0_,c5_,bt_,bd_,c3_,cx_,cr_,cj_,cf_,an_,cl_,cd_,a9_,a8_,a7_,ce_,fv_,d1_,Int.toNat_natCast,f3_,di_,dm_,dn_,gv_,g1_,g4_,gu_,gt_,gs_,f4_,Int.add_zero,Int.zero_add,Int.ediv_one,Nat.reduceAdd,Nat.reduceMul,Int.reduceNeg,Nat.reduceLeDiff,List.length_cons,List.length_nil,true_and,and_true,Nat.zero_add,eq_self,Nat.reduceEqDiff,Int.reduceAdd,Int.reduceSub,Int.reduceMul,not_true_eq_false,not_false_eq_true,Nat.reduceLT,Int.reduceToNat,Int.reduceEq,Int.reduceNe,Int.reduceLT,Int.reduceLE,and_self,and_false,false_and,false_implies,true_implies]
    refine con_MwrongBit (by unfold inI; omega) hw (by unfold inI; omega) (fun _ c4 => ?_) (fun c4 => ?_)
    · simp (disch := omega) only [cm_,aq_,ay_,ag_,b8_,af_,am_,ae_,ac_,b2_,bq_,ed_,bs_,ao_,a2_,az_,aw_,dw_,d6_,ea_,d3_,b5_,fl_,fn_,fh_,fu_,fp_,fz_,fq_,fk_,fr_,ft_,fs_,f0_,c5_,bt_,bd_,c3_,cx_,cr_,cj_,cf_,an_,cl_,cd_,a9_,a8_,a7_,ce_,fv_,d1_,Int.toNat_natCast,f3_,di_,dm_,dn_,gv_,g1_,g4_,gu_,gt_,gs_,f4_,Int.add_zero,Int.zero_add,Int.ediv_one,Nat.reduceAdd,Nat.reduceMul,Int.reduceNeg,Nat.reduceLeDiff,List.length_cons,List.length_nil,true_and,and_true,Nat.zero_add,eq_self,Nat.reduceEqDiff,Int.reduceAdd,Int.reduceSub,Int.reduceMul,not_true_eq_false,not_false_eq_true,Nat.reduceLT,Int.reduceToNat,Int.reduceEq,Int.reduceNe,Int.reduceLT,Int.reduceLE,and_self,and_false,false_and,false_implies,true_implies]
      refine con_Mrefuse (k := 2) (by omega) ?_
      simp (disch := omega) only [cm_,aq_,ay_,ag_,b8_,af_,am_,ae_,ac_,b2_,bq_,ed_,bs_,ao_,a2_,az_,aw_,dw_,d6_,ea_,d3_,b5_,fl_,fn_,fh_,fu_,fp_,fz_,fq_,fk_,fr_,ft_,fs_,f0_,c5_,bt_,bd_,c3_,cx_,cr_,cj_,cf_,an_,cl_,cd_,a9_,a8_,a7_,ce_,fv_,d1_,Int.toNat_natCast,f3_,di_,dm_,dn_,gv_,g1_,g4_,gu_,gt_,gs_,f4_,Int.add_zero,Int.zero_add,Int.ediv_one,Nat.reduceAdd,Nat.reduceMul,Int.reduceNeg,Nat.reduceLeDiff,List.length_cons,List.length_nil,true_and,and_true,Nat.zero_add,eq_self,Nat.reduceEqDiff,Int.reduceAdd,Int.reduceSub,Int.reduceMul,not_true_eq_false,not_false_eq_true,Nat.reduceLT,Int.reduceToNat,Int.reduceEq,Int.reduceNe,Int.reduceLT,Int.reduceLE,and_self,and_false,false_and,false_implies,true_implies]
      exact k2 c2 c3 (by omega)
    · have c4 := c4 rfl
      obtain ⟨w1, w2⟩ := id hw
      have hnn : n = (n.toNat : Int) := by omega
      have kk := ok c2 c3 (by omega)
      have st := kpN_stop g6_ R n.toNat (8 - hb_ R)
      rw [show hb_ R + (8 - hb_ R) = 8 by omega] at st
      rw [st] at kk
      simp (disch := omega) only [cm_,aq_,ay_,ag_,b8_,af_,am_,ae_,ac_,b2_,bq_,ed_,bs_,ao_,a2_,az_,aw_,dw_,d6_,ea_,d3_,b5_,fl_,fn_,fh_,fu_,fp_,fz_,fq_,fk_,fr_,ft_,fs_,f0_,c5_,bt_,bd_,c3_,cx_,cr_,cj_,cf_,an_,cl_,cd_,a9_,a8_,a7_,ce_,fv_,d1_,Int.toNat_natCast,f3_,di_,dm_,dn_,gv_,g1_,g4_,gu_,gt_,gs_,f4_,Int.add_zero,Int.zero_add,Int.ediv_one,Nat.reduceAdd,Nat.reduceMul,Int.reduceNeg,Nat.reduceLeDiff,List.length_cons,List.length_nil,true_and,and_true,Nat.zero_add,eq_self,Nat.reduceEqDiff,Int.reduceAdd,Int.reduceSub,Int.reduceMul,not_true_eq_false,not_false_eq_true,Nat.reduceLT,Int.reduceToNat,Int.reduceEq,Int.reduceNe,Int.reduceLT,Int.reduceLE,and_self,and_false,false_and,false_implies,true_implies]
      refine w_M_keep_28 ?_
      simp (disch := omega) only [cm_,aq_,ay_,ag_,b8_,af_,am_,ae_,ac_,b2_,bq_,ed_,bs_,ao_,a2_,az_,aw_,dw_,d6_,ea_,d3_,b5_,fl_,fn_,fh_,fu_,fp_,fz_,fq_,fk_,fr_,ft_,fs_,f0_,c5_,bt_,bd_,c3_,cx_,cr_,cj_,cf_,an_,cl_,cd_,a9_,a8_,a7_,ce_,fv_,d1_,Int.toNat_natCast,f3_,di_,dm_,dn_,gv_,g1_,g4_,gu_,gt_,gs_,f4_,Int.add_zero,Int.zero_add,Int.ediv_one,Nat.reduceAdd,Nat.reduceMul,Int.reduceNeg,Nat.reduceLeDiff,List.length_cons,List.length_nil,true_and,and_true,Nat.zero_add,eq_self,Nat.reduceEqDiff,Int.reduceAdd,Int.reduceSub,Int.reduceMul,not_true_eq_false,not_false_eq_true,Nat.reduceLT,Int.reduceToNat,Int.reduceEq,Int.reduceNe,Int.reduceLT,Int.reduceLE,and_self,and_false,false_and,false_implies,true_implies]
      refine con_Mthink (fun x hx => ?_)
      simp (disch := omega) only [cm_,aq_,ay_,ag_,b8_,af_,am_,ae_,ac_,b2_,bq_,ed_,bs_,ao_,a2_,az_,aw_,dw_,d6_,ea_,d3_,b5_,fl_,fn_,fh_,fu_,fp_,fz_,fq_,fk_,fr_,ft_,fs_,f0_,c5_,bt_,bd_,c3_,cx_,cr_,cj_,cf_,an_,cl_,cd_,a9_,a8_,a7_,ce_,fv_,d1_,Int.toNat_natCast,f3_,di_,dm_,dn_,gv_,g1_,g4_,gu_,gt_,gs_,f4_,Int.add_zero,Int.zero_add,Int.ediv_one,Nat.reduceAdd,Nat.reduceMul,Int.reduceNeg,Nat.reduceLeDiff,List.length_cons,List.length_nil,true_and,and_true,Nat.zero_add,eq_self,Nat.reduceEqDiff,Int.reduceAdd,Int.reduceSub,Int.reduceMul,not_true_eq_false,not_false_eq_true,Nat.reduceLT,Int.reduceToNat,Int.reduceEq,Int.reduceNe,Int.reduceLT,Int.reduceLE,and_self,and_false,false_and,false_implies,true_implies]
      have loop : ∀ k i : Nat, i + k = hb_ R → ∀ y tk ki, J M_M_keep 43 [some (.ref 90), some (.int (zI n)), some (.int (zI w)), some (.int (zI 0)), some (.int (zI (kpN g6_ R n.toNat i).2)), some (.int (zI (kpN g6_ R n.toNat i).1)), some (.int (zI i)), y] [] (HM R rf lt lsz a0 ib sm pl lo nu x ig im 49 tk ki tu pz tf tn tsz ga sd bb) Q := by
        intro k
        induction k with
        | zero =>
          intro i hi y tk ki
          have e : i = hb_ R := by omega
          subst e
          refine w_M_keep_43 ?_
          simp (disch := omega) only [cm_,aq_,ay_,ag_,b8_,af_,am_,ae_,ac_,b2_,bq_,ed_,bs_,ao_,a2_,az_,aw_,dw_,d6_,ea_,d3_,b5_,fl_,fn_,fh_,fu_,fp_,fz_,fq_,fk_,fr_,ft_,fs_,f0_,c5_,bt_,bd_,c3_,cx_,cr_,cj_,cf_,an_,cl_,cd_,a9_,a8_,a7_,ce_,fv_,d1_,Int.toNat_natCast,f3_,di_,dm_,dn_,gv_,g1_,g4_,gu_,gt_,gs_,f4_,Int.add_zero,Int.zero_add,Int.ediv_one,Nat.reduceAdd,Nat.reduceMul,Int.reduceNeg,Nat.reduceLeDiff,List.length_cons,List.length_nil,true_and,and_true,Nat.zero_add,eq_self,Nat.reduceEqDiff,Int.reduceAdd,Int.reduceSub,Int.reduceMul,not_true_eq_false,not_false_eq_true,Nat.reduceLT,Int.reduceToNat,Int.reduceEq,Int.reduceNe,Int.reduceLT,Int.reduceLE,and_self,and_false,false_and,false_implies,true_implies]
          refine ⟨fun _ => ?_, fun q => by omega⟩
          refine w_M_keep_116 ?_
          simp (disch := omega) only [cm_,aq_,ay_,ag_,b8_,af_,am_,ae_,ac_,b2_,bq_,ed_,bs_,ao_,a2_,az_,aw_,dw_,d6_,ea_,d3_,b5_,fl_,fn_,fh_,fu_,fp_,fz_,fq_,fk_,fr_,ft_,fs_,f0_,c5_,bt_,bd_,c3_,cx_,cr_,cj_,cf_,an_,cl_,cd_,a9_,a8_,a7_,ce_,fv_,d1_,Int.toNat_natCast,f3_,di_,dm_,dn_,gv_,g1_,g4_,gu_,gt_,gs_,f4_,Int.add_zero,Int.zero_add,Int.ediv_one,Nat.reduceAdd,Nat.reduceMul,Int.reduceNeg,Nat.reduceLeDiff,List.length_cons,List.length_nil,true_and,and_true,Nat.zero_add,eq_self,Nat.reduceEqDiff,Int.reduceAdd,Int.reduceSub,Int.reduceMul,not_true_eq_false,not_false_eq_true,Nat.reduceLT,Int.reduceToNat,Int.reduceEq,Int.reduceNe,Int.reduceLT,Int.reduceLE,and_self,and_false,false_and,false_implies,true_implies]
          refine ⟨fun c5 => ?_, fun c5 => ?_⟩
          · rw [if_pos (by omega)] at kk
            refine w_M_keep_125 ?_
            simp (disch := omega) only [cm_,aq_,ay_,ag_,b8_,af_,am_,ae_,ac_,b2_,bq_,ed_,bs_,ao_,a2_,az_,aw_,dw_,d6_,ea_,d3_,b5_,fl_,fn_,fh_,fu_,fp_,fz_,fq_,fk_,fr_,ft_,fs_,f0_,c5_,bt_,bd_,c3_,cx_,cr_,cj_,cf_,an_,cl_,cd_,a9_,a8_,a7_,ce_,fv_,d1_,Int.toNat_natCast,f3_,di_,dm_,dn_,gv_,g1_,g4_,gu_,gt_,gs_,f4_,Int.add_zero,Int.zero_add,Int.ediv_one,Nat.reduceAdd,Nat.reduceMul,Int.reduceNeg,Nat.reduceLeDiff,List.length_cons,List.length_nil,true_and,and_true,Nat.zero_add,eq_self,Nat.reduceEqDiff,Int.reduceAdd,Int.reduceSub,Int.reduceMul,not_true_eq_false,not_false_eq_true,Nat.reduceLT,Int.reduceToNat,Int.reduceEq,Int.reduceNe,Int.reduceLT,Int.reduceLE,and_self,and_false,false_and,false_implies,true_implies]
            refine w_M_keep_127 ?_
            simp (disch := omega) only [cm_,aq_,ay_,ag_,b8_,af_,am_,ae_,ac_,b2_,bq_,ed_,bs_,ao_,a2_,az_,aw_,dw_,d6_,ea_,d3_,b5_,fl_,fn_,fh_,fu_,fp_,fz_,fq_,fk_,fr_,ft_,fs_,f0_,c5_,bt_,bd_,c3_,cx_,cr_,cj_,cf_,an_,cl_,cd_,a9_,a8_,a7_,ce_,fv_,d1_,Int.toNat_natCast,f3_,di_,dm_,dn_,gv_,g1_,g4_,gu_,gt_,gs_,f4_,Int.add_zero,Int.zero_add,Int.ediv_one,Nat.reduceAdd,Nat.reduceMul,Int.reduceNeg,Nat.reduceLeDiff,List.length_cons,List.length_nil,true_and,and_true,Nat.zero_add,eq_self,Nat.reduceEqDiff,Int.reduceAdd,Int.reduceSub,Int.reduceMul,not_true_eq_false,not_false_eq_true,Nat.reduceLT,Int.reduceToNat,Int.reduceEq,Int.reduceNe,Int.reduceLT,Int.reduceLE,and_self,and_false,false_and,false_implies,true_implies]
            exact kk _ ⟨_, _, _, _, _, _, _, _, _, _, _, _, _, _, _, rfl, hIg, hTu, hPz⟩
          · rw [if_neg (by omega)] at kk
            refine w_M_keep_127 ?_
            simp (disch := omega) only [cm_,aq_,ay_,ag_,b8_,af_,am_,ae_,ac_,b2_,bq_,ed_,bs_,ao_,a2_,az_,aw_,dw_,d6_,ea_,d3_,b5_,fl_,fn_,fh_,fu_,fp_,fz_,fq_,fk_,fr_,ft_,fs_,f0_,c5_,bt_,bd_,c3_,cx_,cr_,cj_,cf_,an_,cl_,cd_,a9_,a8_,a7_,ce_,fv_,d1_,Int.toNat_natCast,f3_,di_,dm_,dn_,gv_,g1_,g4_,gu_,gt_,gs_,f4_,Int.add_zero,Int.zero_add,Int.ediv_one,Nat.reduceAdd,Nat.reduceMul,Int.reduceNeg,Nat.reduceLeDiff,List.length_cons,List.length_nil,true_and,and_true,Nat.zero_add,eq_self,Nat.reduceEqDiff,Int.reduceAdd,Int.reduceSub,Int.reduceMul,not_true_eq_false,not_false_eq_true,Nat.reduceLT,Int.reduceToNat,Int.reduceEq,Int.reduceNe,Int.reduceLT,Int.reduceLE,and_self,and_false,false_and,false_implies,true_implies]
            exact kk _ ⟨_, _, _, _, _, _, _, _, _, _, _, _, _, _, _, rfl, hIg, hTu, hPz⟩
        | succ k ih =>
          intro i hi y tk ki
          have step := ih (i + 1) (by omega)
          have gf := hG.fa i
          have mr : -9 ≤ (kpN g6_ R n.toNat i).1 ∧ (kpN g6_ R n.toNat i).1 ≤ 12 := by
            clear step ih hi
            induction i with
            | zero => simp [kpN]
            | succ j ij =>
              simp only [kpN]
              split
              · rename_i c
                have := (GR.dsX (hG.setFa (x := 0) j (by omega)) n.toNat).king
                exact ⟨by omega, this.2⟩
              · exact ij (hG.fa j)
          simp only [kpN] at step
          refine w_M_keep_43 ?_
          simp (disch := omega) only [cm_,aq_,ay_,ag_,b8_,af_,am_,ae_,ac_,b2_,bq_,ed_,bs_,ao_,a2_,az_,aw_,dw_,d6_,ea_,d3_,b5_,fl_,fn_,fh_,fu_,fp_,fz_,fq_,fk_,fr_,ft_,fs_,f0_,c5_,bt_,bd_,c3_,cx_,cr_,cj_,cf_,an_,cl_,cd_,a9_,a8_,a7_,ce_,fv_,d1_,Int.toNat_natCast,f3_,di_,dm_,dn_,gv_,g1_,g4_,gu_,gt_,gs_,f4_,Int.add_zero,Int.zero_add,Int.ediv_one,Nat.reduceAdd,Nat.reduceMul,Int.reduceNeg,Nat.reduceLeDiff,List.length_cons,List.length_nil,true_and,and_true,Nat.zero_add,eq_self,Nat.reduceEqDiff,Int.reduceAdd,Int.reduceSub,Int.reduceMul,not_true_eq_false,not_false_eq_true,Nat.reduceLT,Int.reduceToNat,Int.reduceEq,Int.reduceNe,Int.reduceLT,Int.reduceLE,and_self,and_false,false_and,false_implies,true_implies]
          refine ⟨fun q => by omega, fun _ => ⟨by omega, fun c => ?_, fun c => ?_⟩⟩
          · rw [if_neg (fun q => c q.1.2)] at step
            refine w_M_keep_110 ?_
            simp (disch := omega) only [cm_,aq_,ay_,ag_,b8_,af_,am_,ae_,ac_,b2_,bq_,ed_,bs_,ao_,a2_,az_,aw_,dw_,d6_,ea_,d3_,b5_,fl_,fn_,fh_,fu_,fp_,fz_,fq_,fk_,fr_,ft_,fs_,f0_,c5_,bt_,bd_,c3_,cx_,cr_,cj_,cf_,an_,cl_,cd_,a9_,a8_,a7_,ce_,fv_,d1_,Int.toNat_natCast,f3_,di_,dm_,dn_,gv_,g1_,g4_,gu_,gt_,gs_,f4_,Int.add_zero,Int.zero_add,Int.ediv_one,Nat.reduceAdd,Nat.reduceMul,Int.reduceNeg,Nat.reduceLeDiff,List.length_cons,List.length_nil,true_and,and_true,Nat.zero_add,eq_self,Nat.reduceEqDiff,Int.reduceAdd,Int.reduceSub,Int.reduceMul,not_true_eq_false,not_false_eq_true,Nat.reduceLT,Int.reduceToNat,Int.reduceEq,Int.reduceNe,Int.reduceLT,Int.reduceLE,and_self,and_false,false_and,false_implies,true_implies]
            exact step _ _ _
          · have c' : rFa R i = 1 := by omega
            have hI2 := hI.setFa (x := 0) i (by omega) (by omega) (by omega)
            have g2 := gk _ hI2 n.toNat
            refine ⟨by omega, ?_⟩
            rw [hnn]
            refine con_MkingThen (R := sFa R (upI (rFa R) i 0)) (S := R) (by omega) hI2 hx hI.2.2 ?_
            rw [← hnn]
            simp (disch := omega) only [cm_,aq_,ay_,ag_,b8_,af_,am_,ae_,ac_,b2_,bq_,ed_,bs_,ao_,a2_,az_,aw_,dw_,d6_,ea_,d3_,b5_,fl_,fn_,fh_,fu_,fp_,fz_,fq_,fk_,fr_,ft_,fs_,f0_,c5_,bt_,bd_,c3_,cx_,cr_,cj_,cf_,an_,cl_,cd_,a9_,a8_,a7_,ce_,fv_,d1_,Int.toNat_natCast,f3_,di_,dm_,dn_,gv_,g1_,g4_,gu_,gt_,gs_,f4_,Int.add_zero,Int.zero_add,Int.ediv_one,Nat.reduceAdd,Nat.reduceMul,Int.reduceNeg,Nat.reduceLeDiff,List.length_cons,List.length_nil,true_and,and_true,Nat.zero_add,eq_self,Nat.reduceEqDiff,Int.reduceAdd,Int.reduceSub,Int.reduceMul,not_true_eq_false,not_false_eq_true,Nat.reduceLT,Int.reduceToNat,Int.reduceEq,Int.reduceNe,Int.reduceLT,Int.reduceLE,and_self,and_false,false_and,false_implies,true_implies]
            refine ⟨fun c5 => ?_, fun c5 => ?_⟩
            · rw [if_neg (fun q => by have := q.2; omega)] at step
              repeat' (first | with_reducible refine And.intro ?_ ?_ | with_reducible intro _ | ((first | with_reducible refine w_M_keep_28 ?_ | with_reducible refine w_M_keep_90 ?_ | with_reducible refine w_M_keep_92 ?_ | with_reducible refine w_M_keep_106 ?_ | with_reducible refine w_M_keep_108 ?_ | with_reducible refine w_M_keep_110 ?_ | with_reducible refine w_M_keep_116 ?_ | with_reducible refine w_M_keep_125 ?_ | with_reducible refine w_M_keep_127 ?_); simp (disch := omega) only [cm_,aq_,ay_,ag_,b8_,af_,am_,ae_,ac_,b2_,bq_,ed_,bs_,ao_,a2_,az_,aw_,dw_,d6_,ea_,d3_,b5_,fl_,fn_,fh_,fu_,fp_,fz_,fq_,fk_,fr_,ft_,fs_,f0_,c5_,bt_,bd_,c3_,cx_,cr_,cj_,cf_,an_,cl_,cd_,a9_,a8_,a7_,ce_,fv_,d1_,Int.toNat_natCast,f3_,di_,dm_,dn_,gv_,g1_,g4_,gu_,gt_,gs_,f4_,Int.add_zero,Int.zero_add,Int.ediv_one,Nat.reduceAdd,Nat.reduceMul,Int.reduceNeg,Nat.reduceLeDiff,List.length_cons,List.length_nil,true_and,and_true,Nat.zero_add,eq_self,Nat.reduceEqDiff,Int.reduceAdd,Int.reduceSub,Int.reduceMul,not_true_eq_false,not_false_eq_true,Nat.reduceLT,Int.reduceToNat,Int.reduceEq,Int.reduceNe,Int.reduceLT,Int.reduceLE,and_self,and_false,false_and,false_implies,true_implies]))
              all_goals first | omega | exact step _ _ _
            · rw [if_pos ⟨⟨by omega, c'⟩, by omega⟩] at step
              repeat' (first | with_reducible refine And.intro ?_ ?_ | with_reducible intro _ | ((first | with_reducible refine w_M_keep_28 ?_ | with_reducible refine w_M_keep_90 ?_ | with_reducible refine w_M_keep_92 ?_ | with_reducible refine w_M_keep_106 ?_ | with_reducible refine w_M_keep_108 ?_ | with_reducible refine w_M_keep_110 ?_ | with_reducible refine w_M_keep_116 ?_ | with_reducible refine w_M_keep_125 ?_ | with_reducible refine w_M_keep_127 ?_); simp (disch := omega) only [cm_,aq_,ay_,ag_,b8_,af_,am_,ae_,ac_,b2_,bq_,ed_,bs_,ao_,a2_,az_,aw_,dw_,d6_,ea_,d3_,b5_,fl_,fn_,fh_,fu_,fp_,fz_,fq_,fk_,fr_,ft_,fs_,f0_,c5_,bt_,bd_,c3_,cx_,cr_,cj_,cf_,an_,cl_,cd_,a9_,a8_,a7_,ce_,fv_,d1_,Int.toNat_natCast,f3_,di_,dm_,dn_,gv_,g1_,g4_,gu_,gt_,gs_,f4_,Int.add_zero,Int.zero_add,Int.ediv_one,Nat.reduceAdd,Nat.reduceMul,Int.reduceNeg,Nat.reduceLeDiff,List.length_cons,List.length_nil,true_and,and_true,Nat.zero_add,eq_self,Nat.reduceEqDiff,Int.reduceAdd,Int.reduceSub,Int.reduceMul,not_true_eq_false,not_false_eq_true,Nat.reduceLT,Int.reduceToNat,Int.reduceEq,Int.reduceNe,Int.reduceLT,Int.reduceLE,and_self,and_false,false_and,false_implies,true_implies]))
              all_goals first | omega | exact step _ _ _
      exact loop (hb_ R) 0 (Nat.zero_add _) none _ _
theorem M_dig {n : Int} (hn : inI n) (hI : GI R)  (W : (MW R I im P pz lt lsz tn tsz rf bb h))
    (r4 : n < 0 → ∀ h, (MW R I im P pz lt lsz tn tsz (rfU rf 4) bb h) → Q (some (.int (zI (-4)))) h)
    (r6 : ¬ n < 0 → 60 < n → ∀ h, (MW R I im P pz lt lsz tn tsz (rfU rf 6) bb h) → Q (some (.int (zI (-6)))) h)
    (ok : ¬ n < 0 → ¬ 60 < n → ∀ h, (MW R I im P pz lt lsz tn tsz rf bb h) → Q (some (.int (zI ((dgN g6_ R n.toNat 12).2)))) h) : Con M_M_dig [.ref 90, .int (zI n)] h Q := by
  obtain ⟨a0, ib, sm, pl, lo, nu, kp, ig, p0, tk, ki, tu, tf, ga, sd, rfl, hIg, hTu, hPz⟩ := W
  have hG := hI.1
  have gk : ∀ B, GI B → ∀ i, 0 ≤ hd_ (g6_ B i) ∧ hd_ (g6_ B i) ≤ 12 := fun B h i => (h.1.dsX i).king
  have k4 := fun q => r4 q _ ⟨a0, ib, sm, pl, lo, nu, kp, ig, p0, tk, ki, tu, tf, ga, sd, rfl, hIg, hTu, hPz⟩
  have k6 := fun q q2 => r6 q q2 _ ⟨a0, ib, sm, pl, lo, nu, kp, ig, p0, tk, ki, tu, tf, ga, sd, rfl, hIg, hTu, hPz⟩
  refine g8_ (L := [some (.ref 90), some (.int (zI n)), none, none, none, none, none]) ok_M_dig (Nat.le_of_ble_eq_true rfl) rfl ?_
  refine w_M_dig_0 ?_
  simp (disch := omega) only [cm_,aq_,ay_,ag_,b8_,af_,am_,ae_,ac_,b2_,bq_,ed_,bs_,ao_,a2_,az_,aw_,dw_,d6_,ea_,d3_,b5_,fl_,fn_,fh_,fu_,fp_,fz_,fq_,fk_,fr_,ft_,fs_,f0_,c5_,bt_,bd_,c3_,cx_,cr_,cj_,cf_,an_,cl_,cd_,a9_,a8_,a7_,ce_,fv_,d1_,Int.toNat_natCast,f3_,di_,dm_,dn_,gv_,g1_,g4_,gu_,gt_,gs_,f4_,Int.add_zero,Int.zero_add,Int.ediv_one,Nat.reduceAdd,Nat.reduceMul,Int.reduceNeg,Nat.reduceLeDiff,List.length_cons,List.length_nil,true_and,and_true,Nat.zero_add,eq_self,Nat.reduceEqDiff,Int.reduceAdd,Int.reduceSub,Int.reduceMul,not_true_eq_false,not_false_eq_true,Nat.reduceLT,Int.reduceToNat,Int.reduceEq,Int.reduceNe,Int.reduceLT,Int.reduceLE,and_self,and_false,false_and,false_implies,true_implies]
  refine con_MwrongNumber hn (by unfold inI; omega) (by unfold inI; omega) (fun c2 => ?_) (fun c2 c3 => ?_) (fun c2 c3 => ?_)
  · simp (disch := omega) only [cm_,aq_,ay_,ag_,b8_,af_,am_,ae_,ac_,b2_,bq_,ed_,bs_,ao_,a2_,az_,aw_,dw_,d6_,ea_,d3_,b5_,fl_,fn_,fh_,fu_,fp_,fz_,fq_,fk_,fr_,ft_,fs_,f0_,c5_,bt_,bd_,c3_,cx_,cr_,cj_,cf_,an_,cl_,cd_,a9_,a8_,a7_,ce_,fv_,d1_,Int.toNat_natCast,f3_,di_,dm_,dn_,gv_,g1_,g4_,gu_,gt_,gs_,f4_,Int.add_zero,Int.zero_add,Int.ediv_one,Nat.reduceAdd,Nat.reduceMul,Int.reduceNeg,Nat.reduceLeDiff,List.length_cons,List.length_nil,true_and,and_true,Nat.zero_add,eq_self,Nat.reduceEqDiff,Int.reduceAdd,Int.reduceSub,Int.reduceMul,not_true_eq_false,not_false_eq_true,Nat.reduceLT,Int.reduceToNat,Int.reduceEq,Int.reduceNe,Int.reduceLT,Int.reduceLE,and_self,and_false,false_and,false_implies,true_implies]
    refine con_Mrefuse (k := 4) (by omega) ?_
    simp (disch := omega) only [cm_,aq_,ay_,ag_,b8_,af_,am_,ae_,ac_,b2_,bq_,ed_,bs_,ao_,a2_,az_,aw_,dw_,d6_,ea_,d3_,b5_,fl_,fn_,fh_,fu_,fp_,fz_,fq_,fk_,fr_,ft_,fs_,f0_,c5_,bt_,bd_,c3_,cx_,cr_,cj_,cf_,an_,cl_,cd_,a9_,a8_,a7_,ce_,fv_,d1_,Int.toNat_natCast,f3_,di_,dm_,dn_,gv_,g1_,g4_,gu_,gt_,gs_,f4_,Int.add_zero,Int.zero_add,Int.ediv_one,Nat.reduceAdd,Nat.reduceMul,Int.reduceNeg,Nat.reduceLeDiff,List.length_cons,List.length_nil,true_and,and_true,Nat.zero_add,eq_self,Nat.reduceEqDiff,Int.reduceAdd,Int.reduceSub,Int.reduceMul,not_true_eq_false,not_false_eq_true,Nat.reduceLT,Int.reduceToNat,Int.reduceEq,Int.reduceNe,Int.reduceLT,Int.reduceLE,and_self,and_false,false_and,false_implies,true_implies]
    exact k4 c2
  · simp (disch := omega) only [cm_,aq_,ay_,ag_,b8_,af_,am_,ae_,ac_,b2_,bq_,ed_,bs_,ao_,a2_,az_,aw_,dw_,d6_,ea_,d3_,b5_,fl_,fn_,fh_,fu_,fp_,fz_,fq_,fk_,fr_,ft_,fs_,f0_,c5_,bt_,bd_,c3_,cx_,cr_,cj_,cf_,an_,cl_,cd_,a9_,a8_,a7_,ce_,fv_,d1_,Int.toNat_natCast,f3_,di_,dm_,dn_,gv_,g1_,g4_,gu_,gt_,gs_,f4_,Int.add_zero,Int.zero_add,Int.ediv_one,Nat.reduceAdd,Nat.reduceMul,Int.reduceNeg,Nat.reduceLeDiff,List.length_cons,List.length_nil,true_and,and_true,Nat.zero_add,eq_self,Nat.reduceEqDiff,Int.reduceAdd,Int.reduceSub,Int.reduceMul,not_true_eq_false,not_false_eq_true,Nat.reduceLT,Int.reduceToNat,Int.reduceEq,Int.reduceNe,Int.reduceLT,Int.reduceLE,and_self,and_false,false_and,false_implies,true_implies]
    refine con_Mrefuse (k := 6) (by omega) ?_
    simp (disch := omega) only [cm_,aq_,ay_,ag_,b8_,af_,am_,ae_,ac_,b2_,bq_,ed_,bs_,ao_,a2_,az_,aw_,dw_,d6_,ea_,d3_,b5_,fl_,fn_,fh_,fu_,fp_,fz_,fq_,fk_,fr_,ft_,fs_,f0_,c5_,bt_,bd_,c3_,cx_,cr_,cj_,cf_,an_,cl_,cd_,a9_,a8_,a7_,ce_,fv_,d1_,Int.toNat_natCast,f3_,di_,dm_,dn_,gv_,g1_,g4_,gu_,gt_,gs_,f4_,Int.add_zero,Int.zero_add,Int.ediv_one,Nat.reduceAdd,Nat.reduceMul,Int.reduceNeg,Nat.reduceLeDiff,List.length_cons,List.length_nil,true_and,and_true,Nat.zero_add,eq_self,Nat.reduceEqDiff,Int.reduceAdd,Int.reduceSub,Int.reduceMul,not_true_eq_false,not_false_eq_true,Nat.reduceLT,Int.reduceToNat,Int.reduceEq,Int.reduceNe,Int.reduceLT,Int.reduceLE,and_self,and_false,false_and,false_implies,true_implies]
    exact k6 c2 c3
  · have hnn : n = (n.toNat : Int) := by omega
    have kk := ok c2 c3
    have m0 := gk R hI n.toNat
    simp (disch := omega) only [cm_,aq_,ay_,ag_,b8_,af_,am_,ae_,ac_,b2_,bq_,ed_,bs_,ao_,a2_,az_,aw_,dw_,d6_,ea_,d3_,b5_,fl_,fn_,fh_,fu_,fp_,fz_,fq_,fk_,fr_,ft_,fs_,f0_,c5_,bt_,bd_,c3_,cx_,cr_,cj_,cf_,an_,cl_,cd_,a9_,a8_,a7_,ce_,fv_,d1_,Int.toNat_natCast,f3_,di_,dm_,dn_,gv_,g1_,g4_,gu_,gt_,gs_,f4_,Int.add_zero,Int.zero_add,Int.ediv_one,Nat.reduceAdd,Nat.reduceMul,Int.reduceNeg,Nat.reduceLeDiff,List.length_cons,List.length_nil,true_and,and_true,Nat.zero_add,eq_self,Nat.reduceEqDiff,Int.reduceAdd,Int.reduceSub,Int.reduceMul,not_true_eq_false,not_false_eq_true,Nat.reduceLT,Int.reduceToNat,Int.reduceEq,Int.reduceNe,Int.reduceLT,Int.reduceLE,and_self,and_false,false_and,false_implies,true_implies]
    refine w_M_dig_23 ?_
    simp (disch := omega) only [cm_,aq_,ay_,ag_,b8_,af_,am_,ae_,ac_,b2_,bq_,ed_,bs_,ao_,a2_,az_,aw_,dw_,d6_,ea_,d3_,b5_,fl_,fn_,fh_,fu_,fp_,fz_,fq_,fk_,fr_,ft_,fs_,f0_,c5_,bt_,bd_,c3_,cx_,cr_,cj_,cf_,an_,cl_,cd_,a9_,a8_,a7_,ce_,fv_,d1_,Int.toNat_natCast,f3_,di_,dm_,dn_,gv_,g1_,g4_,gu_,gt_,gs_,f4_,Int.add_zero,Int.zero_add,Int.ediv_one,Nat.reduceAdd,Nat.reduceMul,Int.reduceNeg,Nat.reduceLeDiff,List.length_cons,List.length_nil,true_and,and_true,Nat.zero_add,eq_self,Nat.reduceEqDiff,Int.reduceAdd,Int.reduceSub,Int.reduceMul,not_true_eq_false,not_false_eq_true,Nat.reduceLT,Int.reduceToNat,Int.reduceEq,Int.reduceNe,Int.reduceLT,Int.reduceLE,and_self,and_false,false_and,false_implies,true_implies]
    refine con_Mthink (fun x hx => ?_)
    simp (disch := omega) only [cm_,aq_,ay_,ag_,b8_,af_,am_,ae_,ac_,b2_,bq_,ed_,bs_,ao_,a2_,az_,aw_,dw_,d6_,ea_,d3_,b5_,fl_,fn_,fh_,fu_,fp_,fz_,fq_,fk_,fr_,ft_,fs_,f0_,c5_,bt_,bd_,c3_,cx_,cr_,cj_,cf_,an_,cl_,cd_,a9_,a8_,a7_,ce_,fv_,d1_,Int.toNat_natCast,f3_,di_,dm_,dn_,gv_,g1_,g4_,gu_,gt_,gs_,f4_,Int.add_zero,Int.zero_add,Int.ediv_one,Nat.reduceAdd,Nat.reduceMul,Int.reduceNeg,Nat.reduceLeDiff,List.length_cons,List.length_nil,true_and,and_true,Nat.zero_add,eq_self,Nat.reduceEqDiff,Int.reduceAdd,Int.reduceSub,Int.reduceMul,not_true_eq_false,not_false_eq_true,Nat.reduceLT,Int.reduceToNat,Int.reduceEq,Int.reduceNe,Int.reduceLT,Int.reduceLE,and_self,and_false,false_and,false_implies,true_implies]
    rw [hnn]
    refine con_MkingThen (S := R) (by omega) hI hx hI.2.2 ?_
    simp (disch := omega) only [cm_,aq_,ay_,ag_,b8_,af_,am_,ae_,ac_,b2_,bq_,ed_,bs_,ao_,a2_,az_,aw_,dw_,d6_,ea_,d3_,b5_,fl_,fn_,fh_,fu_,fp_,fz_,fq_,fk_,fr_,ft_,fs_,f0_,c5_,bt_,bd_,c3_,cx_,cr_,cj_,cf_,an_,cl_,cd_,a9_,a8_,a7_,ce_,fv_,d1_,Int.toNat_natCast,f3_,di_,dm_,dn_,gv_,g1_,g4_,gu_,gt_,gs_,f4_,Int.add_zero,Int.zero_add,Int.ediv_one,Nat.reduceAdd,Nat.reduceMul,Int.reduceNeg,Nat.reduceLeDiff,List.length_cons,List.length_nil,true_and,and_true,Nat.zero_add,eq_self,Nat.reduceEqDiff,Int.reduceAdd,Int.reduceSub,Int.reduceMul,not_true_eq_false,not_false_eq_true,Nat.reduceLT,Int.reduceToNat,Int.reduceEq,Int.reduceNe,Int.reduceLT,Int.reduceLE,and_self,and_false,false_and,false_implies,true_implies]
    have loop : ∀ k i : Nat, i + k = 12 → ∀ y, J M_M_dig 40 [some (.ref 90), some (.int (zI (n.toNat : Int))), some (.int (zI 0)), some (.int (zI (dgN g6_ R n.toNat i).2)), some (.int (zI (dgN g6_ R n.toNat i).1)), some (.int (zI i)), y] [] (HM R rf lt lsz a0 ib sm pl lo nu x ig im 49 0 (.ref 101) tu pz tf tn tsz ga sd bb) Q := by
      intro k
      induction k with
      | zero =>
        intro i hi y
        have e : i = 12 := by omega
        subst e
        refine w_M_dig_40 ?_
        simp (disch := omega) only [cm_,aq_,ay_,ag_,b8_,af_,am_,ae_,ac_,b2_,bq_,ed_,bs_,ao_,a2_,az_,aw_,dw_,d6_,ea_,d3_,b5_,fl_,fn_,fh_,fu_,fp_,fz_,fq_,fk_,fr_,ft_,fs_,f0_,c5_,bt_,bd_,c3_,cx_,cr_,cj_,cf_,an_,cl_,cd_,a9_,a8_,a7_,ce_,fv_,d1_,Int.toNat_natCast,f3_,di_,dm_,dn_,gv_,g1_,g4_,gu_,gt_,gs_,f4_,Int.add_zero,Int.zero_add,Int.ediv_one,Nat.reduceAdd,Nat.reduceMul,Int.reduceNeg,Nat.reduceLeDiff,List.length_cons,List.length_nil,true_and,and_true,Nat.zero_add,eq_self,Nat.reduceEqDiff,Int.reduceAdd,Int.reduceSub,Int.reduceMul,not_true_eq_false,not_false_eq_true,Nat.reduceLT,Int.reduceToNat,Int.reduceEq,Int.reduceNe,Int.reduceLT,Int.reduceLE,and_self,and_false,false_and,false_implies,true_implies]
        refine w_M_dig_98 ?_
        simp (disch := omega) only [cm_,aq_,ay_,ag_,b8_,af_,am_,ae_,ac_,b2_,bq_,ed_,bs_,ao_,a2_,az_,aw_,dw_,d6_,ea_,d3_,b5_,fl_,fn_,fh_,fu_,fp_,fz_,fq_,fk_,fr_,ft_,fs_,f0_,c5_,bt_,bd_,c3_,cx_,cr_,cj_,cf_,an_,cl_,cd_,a9_,a8_,a7_,ce_,fv_,d1_,Int.toNat_natCast,f3_,di_,dm_,dn_,gv_,g1_,g4_,gu_,gt_,gs_,f4_,Int.add_zero,Int.zero_add,Int.ediv_one,Nat.reduceAdd,Nat.reduceMul,Int.reduceNeg,Nat.reduceLeDiff,List.length_cons,List.length_nil,true_and,and_true,Nat.zero_add,eq_self,Nat.reduceEqDiff,Int.reduceAdd,Int.reduceSub,Int.reduceMul,not_true_eq_false,not_false_eq_true,Nat.reduceLT,Int.reduceToNat,Int.reduceEq,Int.reduceNe,Int.reduceLT,Int.reduceLE,and_self,and_false,false_and,false_implies,true_implies]
        exact kk _ ⟨_, _, _, _, _, _, _, _, _, _, _, _, _, _, _, rfl, hIg, hTu, hPz⟩
      | succ k ih =>
        intro i hi y
        have step := ih (i + 1) (by omega)
        have mr : 0 ≤ (dgN g6_ R n.toNat i).1 ∧ (dgN g6_ R n.toNat i).1 ≤ 12 := by
          clear step ih hi
          induction i with
          | zero => exact m0
          | succ j ij =>
            simp only [dgN]
            split
            · exact (GR.dsX (hG.setSl j (by omega)) n.toNat).king
            · exact ij
        simp only [dgN] at step
        have hI2 := hI.setSl (x := 0) i (by omega) (by omega)
        have g2 := gk _ hI2 n.toNat
        refine w_M_dig_40 ?_
        simp (disch := omega) only [cm_,aq_,ay_,ag_,b8_,af_,am_,ae_,ac_,b2_,bq_,ed_,bs_,ao_,a2_,az_,aw_,dw_,d6_,ea_,d3_,b5_,fl_,fn_,fh_,fu_,fp_,fz_,fq_,fk_,fr_,ft_,fs_,f0_,c5_,bt_,bd_,c3_,cx_,cr_,cj_,cf_,an_,cl_,cd_,a9_,a8_,a7_,ce_,fv_,d1_,Int.toNat_natCast,f3_,di_,dm_,dn_,gv_,g1_,g4_,gu_,gt_,gs_,f4_,Int.add_zero,Int.zero_add,Int.ediv_one,Nat.reduceAdd,Nat.reduceMul,Int.reduceNeg,Nat.reduceLeDiff,List.length_cons,List.length_nil,true_and,and_true,Nat.zero_add,eq_self,Nat.reduceEqDiff,Int.reduceAdd,Int.reduceSub,Int.reduceMul,not_true_eq_false,not_false_eq_true,Nat.reduceLT,Int.reduceToNat,Int.reduceEq,Int.reduceNe,Int.reduceLT,Int.reduceLE,and_self,and_false,false_and,false_implies,true_implies]
        refine ⟨fun q => by omega, fun _ => ⟨by omega, ?_⟩⟩
        refine con_MkingThen (R := sSl R (upI (rSl R) i 0)) (S := R) (by omega) hI2 hx hI.2.2 ?_
        simp (disch := omega) only [cm_,aq_,ay_,ag_,b8_,af_,am_,ae_,ac_,b2_,bq_,ed_,bs_,ao_,a2_,az_,aw_,dw_,d6_,ea_,d3_,b5_,fl_,fn_,fh_,fu_,fp_,fz_,fq_,fk_,fr_,ft_,fs_,f0_,c5_,bt_,bd_,c3_,cx_,cr_,cj_,cf_,an_,cl_,cd_,a9_,a8_,a7_,ce_,fv_,d1_,Int.toNat_natCast,f3_,di_,dm_,dn_,gv_,g1_,g4_,gu_,gt_,gs_,f4_,Int.add_zero,Int.zero_add,Int.ediv_one,Nat.reduceAdd,Nat.reduceMul,Int.reduceNeg,Nat.reduceLeDiff,List.length_cons,List.length_nil,true_and,and_true,Nat.zero_add,eq_self,Nat.reduceEqDiff,Int.reduceAdd,Int.reduceSub,Int.reduceMul,not_true_eq_false,not_false_eq_true,Nat.reduceLT,Int.reduceToNat,Int.reduceEq,Int.reduceNe,Int.reduceLT,Int.reduceLE,and_self,and_false,false_and,false_implies,true_implies]
        refine ⟨fun c5 => ?_, fun c5 => ?_⟩
        · rw [if_neg (fun q => by omega)] at step
          repeat' (first | with_reducible refine And.intro ?_ ?_ | with_reducible intro _ | ((first | with_reducible refine w_M_dig_23 ?_ | with_reducible refine w_M_dig_74 ?_ | with_reducible refine w_M_dig_75 ?_ | with_reducible refine w_M_dig_88 ?_ | with_reducible refine w_M_dig_90 ?_ | with_reducible refine w_M_dig_98 ?_); simp (disch := omega) only [cm_,aq_,ay_,ag_,b8_,af_,am_,ae_,ac_,b2_,bq_,ed_,bs_,ao_,a2_,az_,aw_,dw_,d6_,ea_,d3_,b5_,fl_,fn_,fh_,fu_,fp_,fz_,fq_,fk_,fr_,ft_,fs_,f0_,c5_,bt_,bd_,c3_,cx_,cr_,cj_,cf_,an_,cl_,cd_,a9_,a8_,a7_,ce_,fv_,d1_,Int.toNat_natCast,f3_,di_,dm_,dn_,gv_,g1_,g4_,gu_,gt_,gs_,f4_,Int.add_zero,Int.zero_add,Int.ediv_one,Nat.reduceAdd,Nat.reduceMul,Int.reduceNeg,Nat.reduceLeDiff,List.length_cons,List.length_nil,true_and,and_true,Nat.zero_add,eq_self,Nat.reduceEqDiff,Int.reduceAdd,Int.reduceSub,Int.reduceMul,not_true_eq_false,not_false_eq_true,Nat.reduceLT,Int.reduceToNat,Int.reduceEq,Int.reduceNe,Int.reduceLT,Int.reduceLE,and_self,and_false,false_and,false_implies,true_implies]))
          all_goals first | omega | exact step _
        · rw [if_pos (by omega)] at step
          repeat' (first | with_reducible refine And.intro ?_ ?_ | with_reducible intro _ | ((first | with_reducible refine w_M_dig_23 ?_ | with_reducible refine w_M_dig_74 ?_ | with_reducible refine w_M_dig_75 ?_ | with_reducible refine w_M_dig_88 ?_ | with_reducible refine w_M_dig_90 ?_ | with_reducible refine w_M_dig_98 ?_); simp (disch := omega) only [cm_,aq_,ay_,ag_,b8_,af_,am_,ae_,ac_,b2_,bq_,ed_,bs_,ao_,a2_,az_,aw_,dw_,d6_,ea_,d3_,b5_,fl_,fn_,fh_,fu_,fp_,fz_,fq_,fk_,fr_,ft_,fs_,f0_,c5_,bt_,bd_,c3_,cx_,cr_,cj_,cf_,an_,cl_,cd_,a9_,a8_,a7_,ce_,fv_,d1_,Int.toNat_natCast,f3_,di_,dm_,dn_,gv_,g1_,g4_,gu_,gt_,gs_,f4_,Int.add_zero,Int.zero_add,Int.ediv_one,Nat.reduceAdd,Nat.reduceMul,Int.reduceNeg,Nat.reduceLeDiff,List.length_cons,List.length_nil,true_and,and_true,Nat.zero_add,eq_self,Nat.reduceEqDiff,Int.reduceAdd,Int.reduceSub,Int.reduceMul,not_true_eq_false,not_false_eq_true,Nat.reduceLT,Int.reduceToNat,Int.reduceEq,Int.reduceNe,Int.reduceLT,Int.reduceLE,and_self,and_false,false_and,false_implies,true_implies]))
          all_goals first | omega | exact step _
    exact loop 12 0 (Nat.zero_add _) none
end E7
end
/-! searchM -/
section
/-! ===== the reference's searches: crown, home ===== -/
section E8
variable {R I : RR} {im : Int} {P : Nat → RR} {pz : Int} {lt : Nat → Int} {lsz : Int} {tn : Nat → Int} {tsz : Int} {rf : Nat → Int} {bb h : AH} {Q : Option Value → AH → Prop}
theorem M_crown {n : Int} (hn : inI n) (hI : GI R)  (W : (MW R I im P pz lt lsz tn tsz rf bb h))
    (r4 : n < 0 → ∀ h, (MW R I im P pz lt lsz tn tsz (rfU rf 4) bb h) → Q (some (.int (zI (-4)))) h)
    (r6 : ¬ n < 0 → 60 < n → ∀ h, (MW R I im P pz lt lsz tn tsz (rfU rf 6) bb h) → Q (some (.int (zI (-6)))) h)
    (ok : ¬ n < 0 → ¬ 60 < n → ∀ h, (MW R I im P pz lt lsz tn tsz rf bb h) → Q (some (.int (zI (crN g6_ R n.toNat 60)))) h) : Con M_M_crown [.ref 90, .int (zI n)] h Q := by
  obtain ⟨a0, ib, sm, pl, lo, nu, kp, ig, p0, tk, ki, tu, tf, ga, sd, rfl, hIg, hTu, hPz⟩ := W
  have k4 := fun q => r4 q _ ⟨a0, ib, sm, pl, lo, nu, kp, ig, p0, tk, ki, tu, tf, ga, sd, rfl, hIg, hTu, hPz⟩
  have k6 := fun q q2 => r6 q q2 _ ⟨a0, ib, sm, pl, lo, nu, kp, ig, p0, tk, ki, tu, tf, ga, sd, rfl, hIg, hTu, hPz⟩
  refine g8_ (L := [some (.ref 90), some (.int (zI n)), none, none, none]) ok_M_crown (Nat.le_of_ble_eq_true rfl) rfl ?_
  refine w_M_crown_0 ?_
  simp (disch := omega) only [cm_,aq_,ay_,ag_,b8_,af_,ac_,b2_,bq_,ed_,bs_,ao_,a2_,az_,aw_,dw_,d6_,ea_,d3_,b5_,b1_,fl_,fn_,fh_,fu_,fp_,fz_,fq_,fk_,fr_,f0_,c5_,bt_,bd_,c3_,cx_,co_,cr_,cz_,cf_,an_,cd_,a9_,a8_,a7_,ce_,Int.toNat_natCast,f3_,di_,dm_,dn_,gv_,gu_,f4_,Int.add_zero,Int.zero_add,Int.ediv_one,Nat.reduceAdd,Nat.reduceMul,Int.reduceNeg,Nat.reduceLeDiff,List.length_cons,List.length_nil,true_and,and_true,Nat.zero_add,eq_self,Nat.reduceEqDiff,Int.reduceAdd,Int.reduceSub,Int.reduceMul,not_true_eq_false,not_false_eq_true,Nat.reduceLT,Int.reduceToNat,Int.reduceEq,Int.reduceNe,Int.reduceLT,Int.reduceLE,false_implies,true_implies]
  refine con_MwrongNumber hn (by unfold inI; omega) (by unfold inI; omega) (fun c2 => ?_) (fun c2 c3 => ?_) (fun c2 c3 => ?_)
  · simp (disch := omega) only [cm_,aq_,ay_,ag_,b8_,af_,ac_,b2_,bq_,ed_,bs_,ao_,a2_,az_,aw_,dw_,d6_,ea_,d3_,b5_,b1_,fl_,fn_,fh_,fu_,fp_,fz_,fq_,fk_,fr_,f0_,c5_,bt_,bd_,c3_,cx_,co_,cr_,cz_,cf_,an_,cd_,a9_,a8_,a7_,ce_,Int.toNat_natCast,f3_,di_,dm_,dn_,gv_,gu_,f4_,Int.add_zero,Int.zero_add,Int.ediv_one,Nat.reduceAdd,Nat.reduceMul,Int.reduceNeg,Nat.reduceLeDiff,List.length_cons,List.length_nil,true_and,and_true,Nat.zero_add,eq_self,Nat.reduceEqDiff,Int.reduceAdd,Int.reduceSub,Int.reduceMul,not_true_eq_false,not_false_eq_true,Nat.reduceLT,Int.reduceToNat,Int.reduceEq,Int.reduceNe,Int.reduceLT,Int.reduceLE,false_implies,true_implies]
    refine con_Mrefuse (k := 4) (by omega) ?_
    simp (disch := omega) only [cm_,aq_,ay_,ag_,b8_,af_,ac_,b2_,bq_,ed_,bs_,ao_,a2_,az_,aw_,dw_,d6_,ea_,d3_,b5_,b1_,fl_,fn_,fh_,fu_,fp_,fz_,fq_,fk_,fr_,f0_,c5_,bt_,bd_,c3_,cx_,co_,cr_,cz_,cf_,an_,cd_,a9_,a8_,a7_,ce_,Int.toNat_natCast,f3_,di_,dm_,dn_,gv_,gu_,f4_,Int.add_zero,Int.zero_add,Int.ediv_one,Nat.reduceAdd,Nat.reduceMul,Int.reduceNeg,Nat.reduceLeDiff,List.length_cons,List.length_nil,true_and,and_true,Nat.zero_add,eq_self,Nat.reduceEqDiff,Int.reduceAdd,Int.reduceSub,Int.reduceMul,not_true_eq_false,not_false_eq_true,Nat.reduceLT,Int.reduceToNat,Int.reduceEq,Int.reduceNe,Int.reduceLT,Int.reduceLE,false_implies,true_implies]
    exact k4 c2
  · simp (disch := omega) only [cm_,aq_,ay_,ag_,b8_,af_,ac_,b2_,bq_,ed_,bs_,ao_,a2_,az_,aw_,dw_,d6_,ea_,d3_,b5_,b1_,fl_,fn_,fh_,fu_,fp_,fz_,fq_,fk_,fr_,f0_,c5_,bt_,bd_,c3_,cx_,co_,cr_,cz_,cf_,an_,cd_,a9_,a8_,a7_,ce_,Int.toNat_natCast,f3_,di_,dm_,dn_,gv_,gu_,f4_,Int.add_zero,Int.zero_add,Int.ediv_one,Nat.reduceAdd,Nat.reduceMul,Int.reduceNeg,Nat.reduceLeDiff,List.length_cons,List.length_nil,true_and,and_true,Nat.zero_add,eq_self,Nat.reduceEqDiff,Int.reduceAdd,Int.reduceSub,Int.reduceMul,not_true_eq_false,not_false_eq_true,Nat.reduceLT,Int.reduceToNat,Int.reduceEq,Int.reduceNe,Int.reduceLT,Int.reduceLE,false_implies,true_implies]
    refine con_Mrefuse (k := 6) (by omega) ?_
    simp (disch := omega) only [cm_,aq_,ay_,ag_,b8_,af_,ac_,b2_,bq_,ed_,bs_,ao_,a2_,az_,aw_,dw_,d6_,ea_,d3_,b5_,b1_,fl_,fn_,fh_,fu_,fp_,fz_,fq_,fk_,fr_,f0_,c5_,bt_,bd_,c3_,cx_,co_,cr_,cz_,cf_,an_,cd_,a9_,a8_,a7_,ce_,Int.toNat_natCast,f3_,di_,dm_,dn_,gv_,gu_,f4_,Int.add_zero,Int.zero_add,Int.ediv_one,Nat.reduceAdd,Nat.reduceMul,Int.reduceNeg,Nat.reduceLeDiff,List.length_cons,List.length_nil,true_and,and_true,Nat.zero_add,eq_self,Nat.reduceEqDiff,Int.reduceAdd,Int.reduceSub,Int.reduceMul,not_true_eq_false,not_false_eq_true,Nat.reduceLT,Int.reduceToNat,Int.reduceEq,Int.reduceNe,Int.reduceLT,Int.reduceLE,false_implies,true_implies]
    exact k6 c2 c3
  · have hnn : n = (n.toNat : Int) := by omega
    have kk := ok c2 c3
    simp (disch := omega) only [cm_,aq_,ay_,ag_,b8_,af_,ac_,b2_,bq_,ed_,bs_,ao_,a2_,az_,aw_,dw_,d6_,ea_,d3_,b5_,b1_,fl_,fn_,fh_,fu_,fp_,fz_,fq_,fk_,fr_,f0_,c5_,bt_,bd_,c3_,cx_,co_,cr_,cz_,cf_,an_,cd_,a9_,a8_,a7_,ce_,Int.toNat_natCast,f3_,di_,dm_,dn_,gv_,gu_,f4_,Int.add_zero,Int.zero_add,Int.ediv_one,Nat.reduceAdd,Nat.reduceMul,Int.reduceNeg,Nat.reduceLeDiff,List.length_cons,List.length_nil,true_and,and_true,Nat.zero_add,eq_self,Nat.reduceEqDiff,Int.reduceAdd,Int.reduceSub,Int.reduceMul,not_true_eq_false,not_false_eq_true,Nat.reduceLT,Int.reduceToNat,Int.reduceEq,Int.reduceNe,Int.reduceLT,Int.reduceLE,false_implies,true_implies]
    refine w_M_crown_23 ?_
    simp (disch := omega) only [cm_,aq_,ay_,ag_,b8_,af_,ac_,b2_,bq_,ed_,bs_,ao_,a2_,az_,aw_,dw_,d6_,ea_,d3_,b5_,b1_,fl_,fn_,fh_,fu_,fp_,fz_,fq_,fk_,fr_,f0_,c5_,bt_,bd_,c3_,cx_,co_,cr_,cz_,cf_,an_,cd_,a9_,a8_,a7_,ce_,Int.toNat_natCast,f3_,di_,dm_,dn_,gv_,gu_,f4_,Int.add_zero,Int.zero_add,Int.ediv_one,Nat.reduceAdd,Nat.reduceMul,Int.reduceNeg,Nat.reduceLeDiff,List.length_cons,List.length_nil,true_and,and_true,Nat.zero_add,eq_self,Nat.reduceEqDiff,Int.reduceAdd,Int.reduceSub,Int.reduceMul,not_true_eq_false,not_false_eq_true,Nat.reduceLT,Int.reduceToNat,Int.reduceEq,Int.reduceNe,Int.reduceLT,Int.reduceLE,false_implies,true_implies]
    refine con_Mthink (fun x hx => ?_)
    simp (disch := omega) only [cm_,aq_,ay_,ag_,b8_,af_,ac_,b2_,bq_,ed_,bs_,ao_,a2_,az_,aw_,dw_,d6_,ea_,d3_,b5_,b1_,fl_,fn_,fh_,fu_,fp_,fz_,fq_,fk_,fr_,f0_,c5_,bt_,bd_,c3_,cx_,co_,cr_,cz_,cf_,an_,cd_,a9_,a8_,a7_,ce_,Int.toNat_natCast,f3_,di_,dm_,dn_,gv_,gu_,f4_,Int.add_zero,Int.zero_add,Int.ediv_one,Nat.reduceAdd,Nat.reduceMul,Int.reduceNeg,Nat.reduceLeDiff,List.length_cons,List.length_nil,true_and,and_true,Nat.zero_add,eq_self,Nat.reduceEqDiff,Int.reduceAdd,Int.reduceSub,Int.reduceMul,not_true_eq_false,not_false_eq_true,Nat.reduceLT,Int.reduceToNat,Int.reduceEq,Int.reduceNe,Int.reduceLT,Int.reduceLE,false_implies,true_implies]
    have fin : ∀ b y tk ki, b = crN g6_ R n.toNat 60 → J M_M_crown 74 [some (.ref 90), some (.int (zI n)), some (.int (zI 0)), some (.int (zI b)), y] [] (HM R rf lt lsz a0 ib sm pl lo nu x ig im 49 tk ki tu pz tf tn tsz ga sd bb) Q := by
      intro b y tk ki hb
      refine w_M_crown_74 ?_
      simp (disch := omega) only [cm_,aq_,ay_,ag_,b8_,af_,ac_,b2_,bq_,ed_,bs_,ao_,a2_,az_,aw_,dw_,d6_,ea_,d3_,b5_,b1_,fl_,fn_,fh_,fu_,fp_,fz_,fq_,fk_,fr_,f0_,c5_,bt_,bd_,c3_,cx_,co_,cr_,cz_,cf_,an_,cd_,a9_,a8_,a7_,ce_,Int.toNat_natCast,f3_,di_,dm_,dn_,gv_,gu_,f4_,Int.add_zero,Int.zero_add,Int.ediv_one,Nat.reduceAdd,Nat.reduceMul,Int.reduceNeg,Nat.reduceLeDiff,List.length_cons,List.length_nil,true_and,and_true,Nat.zero_add,eq_self,Nat.reduceEqDiff,Int.reduceAdd,Int.reduceSub,Int.reduceMul,not_true_eq_false,not_false_eq_true,Nat.reduceLT,Int.reduceToNat,Int.reduceEq,Int.reduceNe,Int.reduceLT,Int.reduceLE,false_implies,true_implies]
      rw [hb]
      exact kk _ ⟨_, _, _, _, _, _, _, _, _, _, _, _, _, _, _, rfl, hIg, hTu, hPz⟩
    have loop : ∀ v : Nat, v ≤ 60 → crN g6_ R n.toNat v = crN g6_ R n.toNat 60 → ∀ tk ki, J M_M_crown 34 [some (.ref 90), some (.int (zI n)), some (.int (zI 0)), some (.int (zI (-9))), some (.int (zI v))] [] (HM R rf lt lsz a0 ib sm pl lo nu x ig im 49 tk ki tu pz tf tn tsz ga sd bb) Q := by
      intro v
      induction v with
      | zero =>
        intro hv he tk ki
        refine w_M_crown_34 ?_
        simp (disch := omega) only [cm_,aq_,ay_,ag_,b8_,af_,ac_,b2_,bq_,ed_,bs_,ao_,a2_,az_,aw_,dw_,d6_,ea_,d3_,b5_,b1_,fl_,fn_,fh_,fu_,fp_,fz_,fq_,fk_,fr_,f0_,c5_,bt_,bd_,c3_,cx_,co_,cr_,cz_,cf_,an_,cd_,a9_,a8_,a7_,ce_,Int.toNat_natCast,f3_,di_,dm_,dn_,gv_,gu_,f4_,Int.add_zero,Int.zero_add,Int.ediv_one,Nat.reduceAdd,Nat.reduceMul,Int.reduceNeg,Nat.reduceLeDiff,List.length_cons,List.length_nil,true_and,and_true,Nat.zero_add,eq_self,Nat.reduceEqDiff,Int.reduceAdd,Int.reduceSub,Int.reduceMul,not_true_eq_false,not_false_eq_true,Nat.reduceLT,Int.reduceToNat,Int.reduceEq,Int.reduceNe,Int.reduceLT,Int.reduceLE,false_implies,true_implies]
        first | exact fin _ _ _ _ he | exact ⟨fun _ => fin _ _ _ _ he, fun q => by omega⟩
      | succ v ih =>
        intro hv he tk ki
        have hI2 := hI.setLoad (x := ((v + 1 : Nat) : Int)) (by omega)
        have g2 := (hI2.1.dsX n.toNat).king
        have e : ((v + 1 : Nat) : Int) + -1 = (v : Int) := by omega
        simp only [crN] at he
        refine w_M_crown_34 ?_
        simp (disch := omega) only [cm_,aq_,ay_,ag_,b8_,af_,ac_,b2_,bq_,ed_,bs_,ao_,a2_,az_,aw_,dw_,d6_,ea_,d3_,b5_,b1_,fl_,fn_,fh_,fu_,fp_,fz_,fq_,fk_,fr_,f0_,c5_,bt_,bd_,c3_,cx_,co_,cr_,cz_,cf_,an_,cd_,a9_,a8_,a7_,ce_,Int.toNat_natCast,f3_,di_,dm_,dn_,gv_,gu_,f4_,Int.add_zero,Int.zero_add,Int.ediv_one,Nat.reduceAdd,Nat.reduceMul,Int.reduceNeg,Nat.reduceLeDiff,List.length_cons,List.length_nil,true_and,and_true,Nat.zero_add,eq_self,Nat.reduceEqDiff,Int.reduceAdd,Int.reduceSub,Int.reduceMul,not_true_eq_false,not_false_eq_true,Nat.reduceLT,Int.reduceToNat,Int.reduceEq,Int.reduceNe,Int.reduceLT,Int.reduceLE,false_implies,true_implies]
        refine ⟨fun q => by omega, fun _ => ?_⟩
        rw [hnn]
        refine con_MkingThen (R := sLoad R ((v + 1 : Nat) : Int)) (S := R) (by omega) hI2 hx hI.2.2 ?_
        rw [← hnn]
        simp (disch := omega) only [cm_,aq_,ay_,ag_,b8_,af_,ac_,b2_,bq_,ed_,bs_,ao_,a2_,az_,aw_,dw_,d6_,ea_,d3_,b5_,b1_,fl_,fn_,fh_,fu_,fp_,fz_,fq_,fk_,fr_,f0_,c5_,bt_,bd_,c3_,cx_,co_,cr_,cz_,cf_,an_,cd_,a9_,a8_,a7_,ce_,Int.toNat_natCast,f3_,di_,dm_,dn_,gv_,gu_,f4_,Int.add_zero,Int.zero_add,Int.ediv_one,Nat.reduceAdd,Nat.reduceMul,Int.reduceNeg,Nat.reduceLeDiff,List.length_cons,List.length_nil,true_and,and_true,Nat.zero_add,eq_self,Nat.reduceEqDiff,Int.reduceAdd,Int.reduceSub,Int.reduceMul,not_true_eq_false,not_false_eq_true,Nat.reduceLT,Int.reduceToNat,Int.reduceEq,Int.reduceNe,Int.reduceLT,Int.reduceLE,false_implies,true_implies]
        refine ⟨fun c5 => ?_, fun c5 => ?_⟩
        · rw [if_neg c5] at he
          refine w_M_crown_65 ?_
          simp (disch := omega) only [cm_,aq_,ay_,ag_,b8_,af_,ac_,b2_,bq_,ed_,bs_,ao_,a2_,az_,aw_,dw_,d6_,ea_,d3_,b5_,b1_,fl_,fn_,fh_,fu_,fp_,fz_,fq_,fk_,fr_,f0_,c5_,bt_,bd_,c3_,cx_,co_,cr_,cz_,cf_,an_,cd_,a9_,a8_,a7_,ce_,Int.toNat_natCast,f3_,di_,dm_,dn_,gv_,gu_,f4_,Int.add_zero,Int.zero_add,Int.ediv_one,Nat.reduceAdd,Nat.reduceMul,Int.reduceNeg,Nat.reduceLeDiff,List.length_cons,List.length_nil,true_and,and_true,Nat.zero_add,eq_self,Nat.reduceEqDiff,Int.reduceAdd,Int.reduceSub,Int.reduceMul,not_true_eq_false,not_false_eq_true,Nat.reduceLT,Int.reduceToNat,Int.reduceEq,Int.reduceNe,Int.reduceLT,Int.reduceLE,false_implies,true_implies]
          refine w_M_crown_67 ?_
          simp (disch := omega) only [cm_,aq_,ay_,ag_,b8_,af_,ac_,b2_,bq_,ed_,bs_,ao_,a2_,az_,aw_,dw_,d6_,ea_,d3_,b5_,b1_,fl_,fn_,fh_,fu_,fp_,fz_,fq_,fk_,fr_,f0_,c5_,bt_,bd_,c3_,cx_,co_,cr_,cz_,cf_,an_,cd_,a9_,a8_,a7_,ce_,Int.toNat_natCast,f3_,di_,dm_,dn_,gv_,gu_,f4_,Int.add_zero,Int.zero_add,Int.ediv_one,Nat.reduceAdd,Nat.reduceMul,Int.reduceNeg,Nat.reduceLeDiff,List.length_cons,List.length_nil,true_and,and_true,Nat.zero_add,eq_self,Nat.reduceEqDiff,Int.reduceAdd,Int.reduceSub,Int.reduceMul,not_true_eq_false,not_false_eq_true,Nat.reduceLT,Int.reduceToNat,Int.reduceEq,Int.reduceNe,Int.reduceLT,Int.reduceLE,false_implies,true_implies,e]
          exact ih (by omega) he _ _
        · rw [if_pos (by omega)] at he
          refine w_M_crown_67 ?_
          simp (disch := omega) only [cm_,aq_,ay_,ag_,b8_,af_,ac_,b2_,bq_,ed_,bs_,ao_,a2_,az_,aw_,dw_,d6_,ea_,d3_,b5_,b1_,fl_,fn_,fh_,fu_,fp_,fz_,fq_,fk_,fr_,f0_,c5_,bt_,bd_,c3_,cx_,co_,cr_,cz_,cf_,an_,cd_,a9_,a8_,a7_,ce_,Int.toNat_natCast,f3_,di_,dm_,dn_,gv_,gu_,f4_,Int.add_zero,Int.zero_add,Int.ediv_one,Nat.reduceAdd,Nat.reduceMul,Int.reduceNeg,Nat.reduceLeDiff,List.length_cons,List.length_nil,true_and,and_true,Nat.zero_add,eq_self,Nat.reduceEqDiff,Int.reduceAdd,Int.reduceSub,Int.reduceMul,not_true_eq_false,not_false_eq_true,Nat.reduceLT,Int.reduceToNat,Int.reduceEq,Int.reduceNe,Int.reduceLT,Int.reduceLE,false_implies,true_implies,e]
          refine w_M_crown_34 ?_
          simp (disch := omega) only [cm_,aq_,ay_,ag_,b8_,af_,ac_,b2_,bq_,ed_,bs_,ao_,a2_,az_,aw_,dw_,d6_,ea_,d3_,b5_,b1_,fl_,fn_,fh_,fu_,fp_,fz_,fq_,fk_,fr_,f0_,c5_,bt_,bd_,c3_,cx_,co_,cr_,cz_,cf_,an_,cd_,a9_,a8_,a7_,ce_,Int.toNat_natCast,f3_,di_,dm_,dn_,gv_,gu_,f4_,Int.add_zero,Int.zero_add,Int.ediv_one,Nat.reduceAdd,Nat.reduceMul,Int.reduceNeg,Nat.reduceLeDiff,List.length_cons,List.length_nil,true_and,and_true,Nat.zero_add,eq_self,Nat.reduceEqDiff,Int.reduceAdd,Int.reduceSub,Int.reduceMul,not_true_eq_false,not_false_eq_true,Nat.reduceLT,Int.reduceToNat,Int.reduceEq,Int.reduceNe,Int.reduceLT,Int.reduceLE,false_implies,true_implies]
          refine ⟨fun _ => fin _ _ _ _ he, fun _ => ⟨fun _ => fin _ _ _ _ he, fun q => by omega⟩⟩
    exact loop 60 (by omega) rfl _ _
end E8
section E9
variable {R : RR} {rf : Nat → Int} {lt : Nat → Int} {lsz : Int} {a0 : Int} {ib : Int} {sm : Int} {pl : Nat → Int} {lo : Nat → Int} {nu : Nat → Int} {kp : Nat → Int} {ig : Nat → Int} {hmg : Int} {p0 : Int} {tk : Int} {ki : Value} {tu : Nat → Int} {tz : Int} {tf : Nat → Int} {tn : Nat → Int} {tsz : Int} {ga : Nat → Int} {sd : Int} {bb : AH} {Q : Option Value → AH → Prop}
theorem con_MhomeIn (hI : GI R) (hQ : ∀ x tk ki, Q (some (.int (zI (homeF g6_ R)))) (HM R rf lt lsz a0 ib sm pl lo nu (x) ig hmg (49) (tk) (ki) tu tz tf tn tsz ga sd bb)) : Con M_M_homeIn [.ref 90] (HM R rf lt lsz a0 ib sm pl lo nu kp ig hmg p0 tk ki tu tz tf tn tsz ga sd bb) Q := by
  refine g8_ (L := [some (.ref 90), none, none]) ok_M_homeIn (Nat.le_of_ble_eq_true rfl) rfl ?_
  refine w_M_homeIn_0 ?_
  simp (disch := omega) only [cm_,aq_,ay_,ag_,b8_,af_,ac_,b2_,bq_,ed_,bs_,ao_,a2_,az_,aw_,dw_,d6_,ea_,d3_,b5_,b1_,fl_,fn_,fh_,fu_,fp_,fz_,fq_,fk_,fr_,f0_,c5_,bt_,bd_,c3_,cx_,co_,cr_,cz_,cf_,an_,cd_,a9_,a8_,a7_,ce_,Int.toNat_natCast,f3_,di_,dm_,dn_,gv_,gu_,f4_,Int.add_zero,Int.zero_add,Int.ediv_one,Nat.reduceAdd,Nat.reduceMul,Int.reduceNeg,Nat.reduceLeDiff,List.length_cons,List.length_nil,true_and,and_true,Nat.zero_add,eq_self,Nat.reduceEqDiff,Int.reduceAdd,Int.reduceSub,Int.reduceMul,not_true_eq_false,not_false_eq_true,Nat.reduceLT,Int.reduceToNat,Int.reduceEq,Int.reduceNe,Int.reduceLT,Int.reduceLE,false_implies,true_implies]
  refine con_Mthink (fun x hx => ?_)
  simp (disch := omega) only [cm_,aq_,ay_,ag_,b8_,af_,ac_,b2_,bq_,ed_,bs_,ao_,a2_,az_,aw_,dw_,d6_,ea_,d3_,b5_,b1_,fl_,fn_,fh_,fu_,fp_,fz_,fq_,fk_,fr_,f0_,c5_,bt_,bd_,c3_,cx_,co_,cr_,cz_,cf_,an_,cd_,a9_,a8_,a7_,ce_,Int.toNat_natCast,f3_,di_,dm_,dn_,gv_,gu_,f4_,Int.add_zero,Int.zero_add,Int.ediv_one,Nat.reduceAdd,Nat.reduceMul,Int.reduceNeg,Nat.reduceLeDiff,List.length_cons,List.length_nil,true_and,and_true,Nat.zero_add,eq_self,Nat.reduceEqDiff,Int.reduceAdd,Int.reduceSub,Int.reduceMul,not_true_eq_false,not_false_eq_true,Nat.reduceLT,Int.reduceToNat,Int.reduceEq,Int.reduceNe,Int.reduceLT,Int.reduceLE,false_implies,true_implies]
  have fin : ∀ d y f, f = homeF g6_ R → J M_M_homeIn 45 [some (.ref 90), some (.int (zI f)), y] [] (HM (g6_ R d) rf lt lsz a0 ib sm pl lo nu (x) ig hmg (49) (1) (.ref 101) tu tz tf tn tsz ga sd bb) Q := by
    intro d y f hf
    refine w_M_homeIn_45 ?_
    simp (disch := omega) only [cm_,aq_,ay_,ag_,b8_,af_,ac_,b2_,bq_,ed_,bs_,ao_,a2_,az_,aw_,dw_,d6_,ea_,d3_,b5_,b1_,fl_,fn_,fh_,fu_,fp_,fz_,fq_,fk_,fr_,f0_,c5_,bt_,bd_,c3_,cx_,co_,cr_,cz_,cf_,an_,cd_,a9_,a8_,a7_,ce_,Int.toNat_natCast,f3_,di_,dm_,dn_,gv_,gu_,f4_,Int.add_zero,Int.zero_add,Int.ediv_one,Nat.reduceAdd,Nat.reduceMul,Int.reduceNeg,Nat.reduceLeDiff,List.length_cons,List.length_nil,true_and,and_true,Nat.zero_add,eq_self,Nat.reduceEqDiff,Int.reduceAdd,Int.reduceSub,Int.reduceMul,not_true_eq_false,not_false_eq_true,Nat.reduceLT,Int.reduceToNat,Int.reduceEq,Int.reduceNe,Int.reduceLT,Int.reduceLE,false_implies,true_implies]
    refine con_Magain hx (hI.dsX d).2.2 hI.2.2 ?_
    simp (disch := omega) only [cm_,aq_,ay_,ag_,b8_,af_,ac_,b2_,bq_,ed_,bs_,ao_,a2_,az_,aw_,dw_,d6_,ea_,d3_,b5_,b1_,fl_,fn_,fh_,fu_,fp_,fz_,fq_,fk_,fr_,f0_,c5_,bt_,bd_,c3_,cx_,co_,cr_,cz_,cf_,an_,cd_,a9_,a8_,a7_,ce_,Int.toNat_natCast,f3_,di_,dm_,dn_,gv_,gu_,f4_,Int.add_zero,Int.zero_add,Int.ediv_one,Nat.reduceAdd,Nat.reduceMul,Int.reduceNeg,Nat.reduceLeDiff,List.length_cons,List.length_nil,true_and,and_true,Nat.zero_add,eq_self,Nat.reduceEqDiff,Int.reduceAdd,Int.reduceSub,Int.reduceMul,not_true_eq_false,not_false_eq_true,Nat.reduceLT,Int.reduceToNat,Int.reduceEq,Int.reduceNe,Int.reduceLT,Int.reduceLE,false_implies,true_implies]
    rw [hf]
    exact hQ _ _ _
  have loop : ∀ k i : Nat, i + k = 61 → firstN (fun d => decide (hd_ (g6_ R d) = 12)) i k = homeF g6_ R → J M_M_homeIn 9 [some (.ref 90), some (.int (zI (-9))), some (.int (zI i))] [] (HM (g6_ R i) rf lt lsz a0 ib sm pl lo nu (x) ig hmg (49) (1) (.ref 101) tu tz tf tn tsz ga sd bb) Q := by
    intro k
    induction k with
    | zero =>
      intro i hi he
      refine w_M_homeIn_9 ?_
      simp (disch := omega) only [cm_,aq_,ay_,ag_,b8_,af_,ac_,b2_,bq_,ed_,bs_,ao_,a2_,az_,aw_,dw_,d6_,ea_,d3_,b5_,b1_,fl_,fn_,fh_,fu_,fp_,fz_,fq_,fk_,fr_,f0_,c5_,bt_,bd_,c3_,cx_,co_,cr_,cz_,cf_,an_,cd_,a9_,a8_,a7_,ce_,Int.toNat_natCast,f3_,di_,dm_,dn_,gv_,gu_,f4_,Int.add_zero,Int.zero_add,Int.ediv_one,Nat.reduceAdd,Nat.reduceMul,Int.reduceNeg,Nat.reduceLeDiff,List.length_cons,List.length_nil,true_and,and_true,Nat.zero_add,eq_self,Nat.reduceEqDiff,Int.reduceAdd,Int.reduceSub,Int.reduceMul,not_true_eq_false,not_false_eq_true,Nat.reduceLT,Int.reduceToNat,Int.reduceEq,Int.reduceNe,Int.reduceLT,Int.reduceLE,false_implies,true_implies]
      refine ⟨fun _ => fin i _ _ he, fun q => by omega⟩
    | succ k ih =>
      intro i hi he
      have gk := (hI.dsX i).1.king
      have ed : dayX (g6_ R i) = g6_ R (i + 1) := rfl
      simp only [firstN] at he
      refine w_M_homeIn_9 ?_
      simp (disch := omega) only [cm_,aq_,ay_,ag_,b8_,af_,ac_,b2_,bq_,ed_,bs_,ao_,a2_,az_,aw_,dw_,d6_,ea_,d3_,b5_,b1_,fl_,fn_,fh_,fu_,fp_,fz_,fq_,fk_,fr_,f0_,c5_,bt_,bd_,c3_,cx_,co_,cr_,cz_,cf_,an_,cd_,a9_,a8_,a7_,ce_,Int.toNat_natCast,f3_,di_,dm_,dn_,gv_,gu_,f4_,Int.add_zero,Int.zero_add,Int.ediv_one,Nat.reduceAdd,Nat.reduceMul,Int.reduceNeg,Nat.reduceLeDiff,List.length_cons,List.length_nil,true_and,and_true,Nat.zero_add,eq_self,Nat.reduceEqDiff,Int.reduceAdd,Int.reduceSub,Int.reduceMul,not_true_eq_false,not_false_eq_true,Nat.reduceLT,Int.reduceToNat,Int.reduceEq,Int.reduceNe,Int.reduceLT,Int.reduceLE,false_implies,true_implies]
      refine ⟨fun q => by omega, fun _ => ⟨fun c => ?_, fun c => ?_⟩⟩
      · rw [if_neg (by rw [decide_eq_false c]; decide)] at he
        refine w_M_homeIn_32 ?_
        simp (disch := omega) only [cm_,aq_,ay_,ag_,b8_,af_,ac_,b2_,bq_,ed_,bs_,ao_,a2_,az_,aw_,dw_,d6_,ea_,d3_,b5_,b1_,fl_,fn_,fh_,fu_,fp_,fz_,fq_,fk_,fr_,f0_,c5_,bt_,bd_,c3_,cx_,co_,cr_,cz_,cf_,an_,cd_,a9_,a8_,a7_,ce_,Int.toNat_natCast,f3_,di_,dm_,dn_,gv_,gu_,f4_,Int.add_zero,Int.zero_add,Int.ediv_one,Nat.reduceAdd,Nat.reduceMul,Int.reduceNeg,Nat.reduceLeDiff,List.length_cons,List.length_nil,true_and,and_true,Nat.zero_add,eq_self,Nat.reduceEqDiff,Int.reduceAdd,Int.reduceSub,Int.reduceMul,not_true_eq_false,not_false_eq_true,Nat.reduceLT,Int.reduceToNat,Int.reduceEq,Int.reduceNe,Int.reduceLT,Int.reduceLE,false_implies,true_implies]
        refine w_M_homeIn_34 ?_
        simp (disch := omega) only [cm_,aq_,ay_,ag_,b8_,af_,ac_,b2_,bq_,ed_,bs_,ao_,a2_,az_,aw_,dw_,d6_,ea_,d3_,b5_,b1_,fl_,fn_,fh_,fu_,fp_,fz_,fq_,fk_,fr_,f0_,c5_,bt_,bd_,c3_,cx_,co_,cr_,cz_,cf_,an_,cd_,a9_,a8_,a7_,ce_,Int.toNat_natCast,f3_,di_,dm_,dn_,gv_,gu_,f4_,Int.add_zero,Int.zero_add,Int.ediv_one,Nat.reduceAdd,Nat.reduceMul,Int.reduceNeg,Nat.reduceLeDiff,List.length_cons,List.length_nil,true_and,and_true,Nat.zero_add,eq_self,Nat.reduceEqDiff,Int.reduceAdd,Int.reduceSub,Int.reduceMul,not_true_eq_false,not_false_eq_true,Nat.reduceLT,Int.reduceToNat,Int.reduceEq,Int.reduceNe,Int.reduceLT,Int.reduceLE,false_implies,true_implies]
        refine con_MdayOn (hI.dsX i).1 (hI.dsX i).2.1 ?_
        rw [ed]
        simp (disch := omega) only [cm_,aq_,ay_,ag_,b8_,af_,ac_,b2_,bq_,ed_,bs_,ao_,a2_,az_,aw_,dw_,d6_,ea_,d3_,b5_,b1_,fl_,fn_,fh_,fu_,fp_,fz_,fq_,fk_,fr_,f0_,c5_,bt_,bd_,c3_,cx_,co_,cr_,cz_,cf_,an_,cd_,a9_,a8_,a7_,ce_,Int.toNat_natCast,f3_,di_,dm_,dn_,gv_,gu_,f4_,Int.add_zero,Int.zero_add,Int.ediv_one,Nat.reduceAdd,Nat.reduceMul,Int.reduceNeg,Nat.reduceLeDiff,List.length_cons,List.length_nil,true_and,and_true,Nat.zero_add,eq_self,Nat.reduceEqDiff,Int.reduceAdd,Int.reduceSub,Int.reduceMul,not_true_eq_false,not_false_eq_true,Nat.reduceLT,Int.reduceToNat,Int.reduceEq,Int.reduceNe,Int.reduceLT,Int.reduceLE,false_implies,true_implies]
        exact ih (i + 1) (by omega) he
      · rw [if_pos (decide_eq_true (by omega))] at he
        refine w_M_homeIn_34 ?_
        simp (disch := omega) only [cm_,aq_,ay_,ag_,b8_,af_,ac_,b2_,bq_,ed_,bs_,ao_,a2_,az_,aw_,dw_,d6_,ea_,d3_,b5_,b1_,fl_,fn_,fh_,fu_,fp_,fz_,fq_,fk_,fr_,f0_,c5_,bt_,bd_,c3_,cx_,co_,cr_,cz_,cf_,an_,cd_,a9_,a8_,a7_,ce_,Int.toNat_natCast,f3_,di_,dm_,dn_,gv_,gu_,f4_,Int.add_zero,Int.zero_add,Int.ediv_one,Nat.reduceAdd,Nat.reduceMul,Int.reduceNeg,Nat.reduceLeDiff,List.length_cons,List.length_nil,true_and,and_true,Nat.zero_add,eq_self,Nat.reduceEqDiff,Int.reduceAdd,Int.reduceSub,Int.reduceMul,not_true_eq_false,not_false_eq_true,Nat.reduceLT,Int.reduceToNat,Int.reduceEq,Int.reduceNe,Int.reduceLT,Int.reduceLE,false_implies,true_implies]
        refine con_MdayOn (hI.dsX i).1 (hI.dsX i).2.1 ?_
        rw [ed]
        simp (disch := omega) only [cm_,aq_,ay_,ag_,b8_,af_,ac_,b2_,bq_,ed_,bs_,ao_,a2_,az_,aw_,dw_,d6_,ea_,d3_,b5_,b1_,fl_,fn_,fh_,fu_,fp_,fz_,fq_,fk_,fr_,f0_,c5_,bt_,bd_,c3_,cx_,co_,cr_,cz_,cf_,an_,cd_,a9_,a8_,a7_,ce_,Int.toNat_natCast,f3_,di_,dm_,dn_,gv_,gu_,f4_,Int.add_zero,Int.zero_add,Int.ediv_one,Nat.reduceAdd,Nat.reduceMul,Int.reduceNeg,Nat.reduceLeDiff,List.length_cons,List.length_nil,true_and,and_true,Nat.zero_add,eq_self,Nat.reduceEqDiff,Int.reduceAdd,Int.reduceSub,Int.reduceMul,not_true_eq_false,not_false_eq_true,Nat.reduceLT,Int.reduceToNat,Int.reduceEq,Int.reduceNe,Int.reduceLT,Int.reduceLE,false_implies,true_implies]
        refine w_M_homeIn_9 ?_
        simp (disch := omega) only [cm_,aq_,ay_,ag_,b8_,af_,ac_,b2_,bq_,ed_,bs_,ao_,a2_,az_,aw_,dw_,d6_,ea_,d3_,b5_,b1_,fl_,fn_,fh_,fu_,fp_,fz_,fq_,fk_,fr_,f0_,c5_,bt_,bd_,c3_,cx_,co_,cr_,cz_,cf_,an_,cd_,a9_,a8_,a7_,ce_,Int.toNat_natCast,f3_,di_,dm_,dn_,gv_,gu_,f4_,Int.add_zero,Int.zero_add,Int.ediv_one,Nat.reduceAdd,Nat.reduceMul,Int.reduceNeg,Nat.reduceLeDiff,List.length_cons,List.length_nil,true_and,and_true,Nat.zero_add,eq_self,Nat.reduceEqDiff,Int.reduceAdd,Int.reduceSub,Int.reduceMul,not_true_eq_false,not_false_eq_true,Nat.reduceLT,Int.reduceToNat,Int.reduceEq,Int.reduceNe,Int.reduceLT,Int.reduceLE,false_implies,true_implies]
        refine ⟨fun _ => fin (i + 1) _ _ he, fun _ => ⟨fun _ => fin (i + 1) _ _ he, fun q => by omega⟩⟩
  exact loop 61 0 rfl rfl
end E9
end
/-! searchM -/
section
/-! ===== the reference: home, how long it waits, the steepest ===== -/
section E10
variable {R : RR} {rf : Nat → Int} {lt : Nat → Int} {lsz : Int} {a0 : Int} {ib : Int} {sm : Int} {pl : Nat → Int} {lo : Nat → Int} {nu : Nat → Int} {kp : Nat → Int} {ig : Nat → Int} {hmg : Int} {p0 : Int} {tk : Int} {ki : Value} {tu : Nat → Int} {tz : Int} {tf : Nat → Int} {tn : Nat → Int} {tsz : Int} {ga : Nat → Int} {sd : Int} {bb : AH} {Q : Option Value → AH → Prop}
theorem con_MlameDays (hI : GI R) (hQ : ∀ x tk ki, Q (some (.int (zI (lmN (fun d => waitX (g6_ R d)) 60).1))) (HM R rf lt lsz a0 ib sm pl lo nu (x) ig hmg (49) (tk) (ki) tu tz tf tn tsz ga sd bb)) : Con M_M_lameDays [.ref 90] (HM R rf lt lsz a0 ib sm pl lo nu kp ig hmg p0 tk ki tu tz tf tn tsz ga sd bb) Q := by
  refine g8_ (L := [some (.ref 90), none, none, none, none]) ok_M_lameDays (Nat.le_of_ble_eq_true rfl) rfl ?_
  refine w_M_lameDays_0 ?_
  simp (disch := omega) only [cm_,aq_,ay_,ag_,b8_,af_,ah_,ba_,c0_,am_,ac_,b2_,bq_,ed_,bs_,ao_,a2_,az_,aw_,dw_,d6_,ea_,d3_,b5_,b1_,fl_,fn_,fh_,fu_,fp_,fz_,fq_,fk_,fr_,ft_,f0_,c5_,bt_,bd_,c3_,cx_,cr_,cj_,cf_,an_,d1_,Int.toNat_natCast,f3_,di_,dm_,dn_,er_,gv_,g1_,gu_,f4_,Int.add_zero,Int.zero_add,Int.ediv_one,Nat.reduceAdd,Nat.reduceMul,Int.reduceNeg,Nat.reduceLeDiff,List.length_cons,List.length_nil,true_and,and_true,Nat.zero_add,eq_self,Nat.reduceEqDiff,Int.reduceAdd,Int.reduceSub,Int.reduceMul,not_true_eq_false,not_false_eq_true,Nat.reduceLT,Int.reduceToNat,Int.reduceEq,Int.reduceNe,Int.reduceLT,Int.reduceLE,and_false,false_and,false_implies,true_implies]
  refine con_Mthink (fun x hx => ?_)
  simp (disch := omega) only [cm_,aq_,ay_,ag_,b8_,af_,ah_,ba_,c0_,am_,ac_,b2_,bq_,ed_,bs_,ao_,a2_,az_,aw_,dw_,d6_,ea_,d3_,b5_,b1_,fl_,fn_,fh_,fu_,fp_,fz_,fq_,fk_,fr_,ft_,f0_,c5_,bt_,bd_,c3_,cx_,cr_,cj_,cf_,an_,d1_,Int.toNat_natCast,f3_,di_,dm_,dn_,er_,gv_,g1_,gu_,f4_,Int.add_zero,Int.zero_add,Int.ediv_one,Nat.reduceAdd,Nat.reduceMul,Int.reduceNeg,Nat.reduceLeDiff,List.length_cons,List.length_nil,true_and,and_true,Nat.zero_add,eq_self,Nat.reduceEqDiff,Int.reduceAdd,Int.reduceSub,Int.reduceMul,not_true_eq_false,not_false_eq_true,Nat.reduceLT,Int.reduceToNat,Int.reduceEq,Int.reduceNe,Int.reduceLT,Int.reduceLE,and_false,false_and,false_implies,true_implies]
  have loop : ∀ k i : Nat, i + k = 60 → ∀ y, J M_M_lameDays 10 [some (.ref 90), some (.int (zI (lmN (fun d => waitX (g6_ R d)) i).1)), some (.int (zI (lmN (fun d => waitX (g6_ R d)) i).2)), some (.int (zI i)), y] [] (HM (g6_ R i) rf lt lsz a0 ib sm pl lo nu (x) ig hmg (49) (1) (.ref 101) tu tz tf tn tsz ga sd bb) Q := by
    intro k
    induction k with
    | zero =>
      intro i hi y
      have e : i = 60 := by omega
      subst e
      refine w_M_lameDays_10 ?_
      simp (disch := omega) only [cm_,aq_,ay_,ag_,b8_,af_,ah_,ba_,c0_,am_,ac_,b2_,bq_,ed_,bs_,ao_,a2_,az_,aw_,dw_,d6_,ea_,d3_,b5_,b1_,fl_,fn_,fh_,fu_,fp_,fz_,fq_,fk_,fr_,ft_,f0_,c5_,bt_,bd_,c3_,cx_,cr_,cj_,cf_,an_,d1_,Int.toNat_natCast,f3_,di_,dm_,dn_,er_,gv_,g1_,gu_,f4_,Int.add_zero,Int.zero_add,Int.ediv_one,Nat.reduceAdd,Nat.reduceMul,Int.reduceNeg,Nat.reduceLeDiff,List.length_cons,List.length_nil,true_and,and_true,Nat.zero_add,eq_self,Nat.reduceEqDiff,Int.reduceAdd,Int.reduceSub,Int.reduceMul,not_true_eq_false,not_false_eq_true,Nat.reduceLT,Int.reduceToNat,Int.reduceEq,Int.reduceNe,Int.reduceLT,Int.reduceLE,and_false,false_and,false_implies,true_implies]
      refine ⟨fun _ => ?_, fun q => by omega⟩
      refine w_M_lameDays_67 ?_
      simp (disch := omega) only [cm_,aq_,ay_,ag_,b8_,af_,ah_,ba_,c0_,am_,ac_,b2_,bq_,ed_,bs_,ao_,a2_,az_,aw_,dw_,d6_,ea_,d3_,b5_,b1_,fl_,fn_,fh_,fu_,fp_,fz_,fq_,fk_,fr_,ft_,f0_,c5_,bt_,bd_,c3_,cx_,cr_,cj_,cf_,an_,d1_,Int.toNat_natCast,f3_,di_,dm_,dn_,er_,gv_,g1_,gu_,f4_,Int.add_zero,Int.zero_add,Int.ediv_one,Nat.reduceAdd,Nat.reduceMul,Int.reduceNeg,Nat.reduceLeDiff,List.length_cons,List.length_nil,true_and,and_true,Nat.zero_add,eq_self,Nat.reduceEqDiff,Int.reduceAdd,Int.reduceSub,Int.reduceMul,not_true_eq_false,not_false_eq_true,Nat.reduceLT,Int.reduceToNat,Int.reduceEq,Int.reduceNe,Int.reduceLT,Int.reduceLE,and_false,false_and,false_implies,true_implies]
      refine con_Magain hx (hI.dsX 60).2.2 hI.2.2 ?_
      simp (disch := omega) only [cm_,aq_,ay_,ag_,b8_,af_,ah_,ba_,c0_,am_,ac_,b2_,bq_,ed_,bs_,ao_,a2_,az_,aw_,dw_,d6_,ea_,d3_,b5_,b1_,fl_,fn_,fh_,fu_,fp_,fz_,fq_,fk_,fr_,ft_,f0_,c5_,bt_,bd_,c3_,cx_,cr_,cj_,cf_,an_,d1_,Int.toNat_natCast,f3_,di_,dm_,dn_,er_,gv_,g1_,gu_,f4_,Int.add_zero,Int.zero_add,Int.ediv_one,Nat.reduceAdd,Nat.reduceMul,Int.reduceNeg,Nat.reduceLeDiff,List.length_cons,List.length_nil,true_and,and_true,Nat.zero_add,eq_self,Nat.reduceEqDiff,Int.reduceAdd,Int.reduceSub,Int.reduceMul,not_true_eq_false,not_false_eq_true,Nat.reduceLT,Int.reduceToNat,Int.reduceEq,Int.reduceNe,Int.reduceLT,Int.reduceLE,and_false,false_and,false_implies,true_implies]
      exact hQ _ _ _
    | succ k ih =>
      intro i hi y
      have step := ih (i + 1) (by omega)
      have gk := (hI.dsX i).1.king
      have gk2 := (hI.dsX (i + 1)).1.king
      have hw := waitX_iff (hI.dsX i).1
      have ed : dayX (g6_ R i) = g6_ R (i + 1) := rfl
      have lr := lmN_rng (fun d => waitX (g6_ R d)) i
      rw [ed] at hw
      simp only [lmN] at step
      have tail : ∀ z y2, z = (if waitX (g6_ R i) = true then (lmN (fun d => waitX (g6_ R d)) i).2 + 1 else 0) → J M_M_lameDays 49 [some (.ref 90), some (.int (zI (lmN (fun d => waitX (g6_ R d)) i).1)), some (.int (zI (lmN (fun d => waitX (g6_ R d)) i).2)), some (.int (zI i)), y2] [.int (zI z)] (HM (g6_ R (i + 1)) rf lt lsz a0 ib sm pl lo nu (x) ig hmg (49) (1) (.ref 101) tu tz tf tn tsz ga sd bb) Q := by
        intro z y2 hz
        have hz2 : 0 ≤ z ∧ z ≤ 60 := by
          rw [hz]
          split <;> omega
        rw [← hz] at step
        refine w_M_lameDays_49 ?_
        simp (disch := omega) only [cm_,aq_,ay_,ag_,b8_,af_,ah_,ba_,c0_,am_,ac_,b2_,bq_,ed_,bs_,ao_,a2_,az_,aw_,dw_,d6_,ea_,d3_,b5_,b1_,fl_,fn_,fh_,fu_,fp_,fz_,fq_,fk_,fr_,ft_,f0_,c5_,bt_,bd_,c3_,cx_,cr_,cj_,cf_,an_,d1_,Int.toNat_natCast,f3_,di_,dm_,dn_,er_,gv_,g1_,gu_,f4_,Int.add_zero,Int.zero_add,Int.ediv_one,Nat.reduceAdd,Nat.reduceMul,Int.reduceNeg,Nat.reduceLeDiff,List.length_cons,List.length_nil,true_and,and_true,Nat.zero_add,eq_self,Nat.reduceEqDiff,Int.reduceAdd,Int.reduceSub,Int.reduceMul,not_true_eq_false,not_false_eq_true,Nat.reduceLT,Int.reduceToNat,Int.reduceEq,Int.reduceNe,Int.reduceLT,Int.reduceLE,and_false,false_and,false_implies,true_implies]
        refine ⟨fun c => ?_, fun c => ?_⟩
        · rw [show max (lmN (fun d => waitX (g6_ R d)) i).1 z = (lmN (fun d => waitX (g6_ R d)) i).1 by omega] at step
          refine w_M_lameDays_59 ?_
          simp (disch := omega) only [cm_,aq_,ay_,ag_,b8_,af_,ah_,ba_,c0_,am_,ac_,b2_,bq_,ed_,bs_,ao_,a2_,az_,aw_,dw_,d6_,ea_,d3_,b5_,b1_,fl_,fn_,fh_,fu_,fp_,fz_,fq_,fk_,fr_,ft_,f0_,c5_,bt_,bd_,c3_,cx_,cr_,cj_,cf_,an_,d1_,Int.toNat_natCast,f3_,di_,dm_,dn_,er_,gv_,g1_,gu_,f4_,Int.add_zero,Int.zero_add,Int.ediv_one,Nat.reduceAdd,Nat.reduceMul,Int.reduceNeg,Nat.reduceLeDiff,List.length_cons,List.length_nil,true_and,and_true,Nat.zero_add,eq_self,Nat.reduceEqDiff,Int.reduceAdd,Int.reduceSub,Int.reduceMul,not_true_eq_false,not_false_eq_true,Nat.reduceLT,Int.reduceToNat,Int.reduceEq,Int.reduceNe,Int.reduceLT,Int.reduceLE,and_false,false_and,false_implies,true_implies]
          refine w_M_lameDays_60 ?_
          simp (disch := omega) only [cm_,aq_,ay_,ag_,b8_,af_,ah_,ba_,c0_,am_,ac_,b2_,bq_,ed_,bs_,ao_,a2_,az_,aw_,dw_,d6_,ea_,d3_,b5_,b1_,fl_,fn_,fh_,fu_,fp_,fz_,fq_,fk_,fr_,ft_,f0_,c5_,bt_,bd_,c3_,cx_,cr_,cj_,cf_,an_,d1_,Int.toNat_natCast,f3_,di_,dm_,dn_,er_,gv_,g1_,gu_,f4_,Int.add_zero,Int.zero_add,Int.ediv_one,Nat.reduceAdd,Nat.reduceMul,Int.reduceNeg,Nat.reduceLeDiff,List.length_cons,List.length_nil,true_and,and_true,Nat.zero_add,eq_self,Nat.reduceEqDiff,Int.reduceAdd,Int.reduceSub,Int.reduceMul,not_true_eq_false,not_false_eq_true,Nat.reduceLT,Int.reduceToNat,Int.reduceEq,Int.reduceNe,Int.reduceLT,Int.reduceLE,and_false,false_and,false_implies,true_implies]
          exact step _
        · rw [show max (lmN (fun d => waitX (g6_ R d)) i).1 z = z by omega] at step
          refine w_M_lameDays_60 ?_
          simp (disch := omega) only [cm_,aq_,ay_,ag_,b8_,af_,ah_,ba_,c0_,am_,ac_,b2_,bq_,ed_,bs_,ao_,a2_,az_,aw_,dw_,d6_,ea_,d3_,b5_,b1_,fl_,fn_,fh_,fu_,fp_,fz_,fq_,fk_,fr_,ft_,f0_,c5_,bt_,bd_,c3_,cx_,cr_,cj_,cf_,an_,d1_,Int.toNat_natCast,f3_,di_,dm_,dn_,er_,gv_,g1_,gu_,f4_,Int.add_zero,Int.zero_add,Int.ediv_one,Nat.reduceAdd,Nat.reduceMul,Int.reduceNeg,Nat.reduceLeDiff,List.length_cons,List.length_nil,true_and,and_true,Nat.zero_add,eq_self,Nat.reduceEqDiff,Int.reduceAdd,Int.reduceSub,Int.reduceMul,not_true_eq_false,not_false_eq_true,Nat.reduceLT,Int.reduceToNat,Int.reduceEq,Int.reduceNe,Int.reduceLT,Int.reduceLE,and_false,false_and,false_implies,true_implies]
          exact step _
      refine w_M_lameDays_10 ?_
      simp (disch := omega) only [cm_,aq_,ay_,ag_,b8_,af_,ah_,ba_,c0_,am_,ac_,b2_,bq_,ed_,bs_,ao_,a2_,az_,aw_,dw_,d6_,ea_,d3_,b5_,b1_,fl_,fn_,fh_,fu_,fp_,fz_,fq_,fk_,fr_,ft_,f0_,c5_,bt_,bd_,c3_,cx_,cr_,cj_,cf_,an_,d1_,Int.toNat_natCast,f3_,di_,dm_,dn_,er_,gv_,g1_,gu_,f4_,Int.add_zero,Int.zero_add,Int.ediv_one,Nat.reduceAdd,Nat.reduceMul,Int.reduceNeg,Nat.reduceLeDiff,List.length_cons,List.length_nil,true_and,and_true,Nat.zero_add,eq_self,Nat.reduceEqDiff,Int.reduceAdd,Int.reduceSub,Int.reduceMul,not_true_eq_false,not_false_eq_true,Nat.reduceLT,Int.reduceToNat,Int.reduceEq,Int.reduceNe,Int.reduceLT,Int.reduceLE,and_false,false_and,false_implies,true_implies]
      refine ⟨fun q => by omega, fun _ => ?_⟩
      refine con_MdayOn (hI.dsX i).1 (hI.dsX i).2.1 ?_
      rw [ed]
      simp (disch := omega) only [cm_,aq_,ay_,ag_,b8_,af_,ah_,ba_,c0_,am_,ac_,b2_,bq_,ed_,bs_,ao_,a2_,az_,aw_,dw_,d6_,ea_,d3_,b5_,b1_,fl_,fn_,fh_,fu_,fp_,fz_,fq_,fk_,fr_,ft_,f0_,c5_,bt_,bd_,c3_,cx_,cr_,cj_,cf_,an_,d1_,Int.toNat_natCast,f3_,di_,dm_,dn_,er_,gv_,g1_,gu_,f4_,Int.add_zero,Int.zero_add,Int.ediv_one,Nat.reduceAdd,Nat.reduceMul,Int.reduceNeg,Nat.reduceLeDiff,List.length_cons,List.length_nil,true_and,and_true,Nat.zero_add,eq_self,Nat.reduceEqDiff,Int.reduceAdd,Int.reduceSub,Int.reduceMul,not_true_eq_false,not_false_eq_true,Nat.reduceLT,Int.reduceToNat,Int.reduceEq,Int.reduceNe,Int.reduceLT,Int.reduceLE,and_false,false_and,false_implies,true_implies]
      refine ⟨fun c => ?_, fun c => ⟨fun c2 => ?_, fun c2 => ?_⟩⟩
      · refine w_M_lameDays_48 ?_
        simp (disch := omega) only [cm_,aq_,ay_,ag_,b8_,af_,ah_,ba_,c0_,am_,ac_,b2_,bq_,ed_,bs_,ao_,a2_,az_,aw_,dw_,d6_,ea_,d3_,b5_,b1_,fl_,fn_,fh_,fu_,fp_,fz_,fq_,fk_,fr_,ft_,f0_,c5_,bt_,bd_,c3_,cx_,cr_,cj_,cf_,an_,d1_,Int.toNat_natCast,f3_,di_,dm_,dn_,er_,gv_,g1_,gu_,f4_,Int.add_zero,Int.zero_add,Int.ediv_one,Nat.reduceAdd,Nat.reduceMul,Int.reduceNeg,Nat.reduceLeDiff,List.length_cons,List.length_nil,true_and,and_true,Nat.zero_add,eq_self,Nat.reduceEqDiff,Int.reduceAdd,Int.reduceSub,Int.reduceMul,not_true_eq_false,not_false_eq_true,Nat.reduceLT,Int.reduceToNat,Int.reduceEq,Int.reduceNe,Int.reduceLT,Int.reduceLE,and_false,false_and,false_implies,true_implies]
        refine tail 0 _ ?_
        rw [if_neg (fun q => by have := hw.mp q; omega)]
      · refine w_M_lameDays_48 ?_
        simp (disch := omega) only [cm_,aq_,ay_,ag_,b8_,af_,ah_,ba_,c0_,am_,ac_,b2_,bq_,ed_,bs_,ao_,a2_,az_,aw_,dw_,d6_,ea_,d3_,b5_,b1_,fl_,fn_,fh_,fu_,fp_,fz_,fq_,fk_,fr_,ft_,f0_,c5_,bt_,bd_,c3_,cx_,cr_,cj_,cf_,an_,d1_,Int.toNat_natCast,f3_,di_,dm_,dn_,er_,gv_,g1_,gu_,f4_,Int.add_zero,Int.zero_add,Int.ediv_one,Nat.reduceAdd,Nat.reduceMul,Int.reduceNeg,Nat.reduceLeDiff,List.length_cons,List.length_nil,true_and,and_true,Nat.zero_add,eq_self,Nat.reduceEqDiff,Int.reduceAdd,Int.reduceSub,Int.reduceMul,not_true_eq_false,not_false_eq_true,Nat.reduceLT,Int.reduceToNat,Int.reduceEq,Int.reduceNe,Int.reduceLT,Int.reduceLE,and_false,false_and,false_implies,true_implies]
        refine tail 0 _ ?_
        rw [if_neg (fun q => by have := hw.mp q; omega)]
      · refine tail _ _ ?_
        rw [if_pos (hw.mpr ⟨by omega, by omega⟩)]
  exact loop 60 0 rfl none
theorem con_MsteepestStage (hG : GR R) (hQ : Q (some (.int (zI ((stp R 12 : Nat) : Int)))) (HM R rf lt lsz a0 ib sm pl lo nu kp ig hmg p0 tk ki tu tz tf tn tsz ga sd bb)) : Con M_M_steepestStage [.ref 90] (HM R rf lt lsz a0 ib sm pl lo nu kp ig hmg p0 tk ki tu tz tf tn tsz ga sd bb) Q := by
  have gs := hG.sl
  have sr : ∀ n, 0 < n → stp R n < n := by
    intro n
    induction n with
    | zero => intro q; omega
    | succ n ih =>
      intro _
      simp only [stp]
      split
      · omega
      · rcases Nat.eq_zero_or_pos n with e | e
        · subst e; simp [stp]
        · have := ih e; omega
  have s1 : stp R 1 = 0 := by
    simp only [stp]
    exact if_neg (by omega)
  refine g8_ (L := [some (.ref 90), none, none]) ok_M_steepestStage (Nat.le_of_ble_eq_true rfl) rfl ?_
  refine w_M_steepestStage_0 ?_
  simp (disch := omega) only [cm_,aq_,ay_,ag_,b8_,af_,ah_,ba_,c0_,am_,ac_,b2_,bq_,ed_,bs_,ao_,a2_,az_,aw_,dw_,d6_,ea_,d3_,b5_,b1_,fl_,fn_,fh_,fu_,fp_,fz_,fq_,fk_,fr_,ft_,f0_,c5_,bt_,bd_,c3_,cx_,cr_,cj_,cf_,an_,d1_,Int.toNat_natCast,f3_,di_,dm_,dn_,er_,gv_,g1_,gu_,f4_,Int.add_zero,Int.zero_add,Int.ediv_one,Nat.reduceAdd,Nat.reduceMul,Int.reduceNeg,Nat.reduceLeDiff,List.length_cons,List.length_nil,true_and,and_true,Nat.zero_add,eq_self,Nat.reduceEqDiff,Int.reduceAdd,Int.reduceSub,Int.reduceMul,not_true_eq_false,not_false_eq_true,Nat.reduceLT,Int.reduceToNat,Int.reduceEq,Int.reduceNe,Int.reduceLT,Int.reduceLE,and_false,false_and,false_implies,true_implies]
  have loop : ∀ k i : Nat, i + k = 12 → 1 ≤ i → J M_M_steepestStage 4 [some (.ref 90), some (.int (zI ((stp R i : Nat) : Int))), some (.int (zI i))] [] (HM R rf lt lsz a0 ib sm pl lo nu kp ig hmg p0 tk ki tu tz tf tn tsz ga sd bb) Q := by
    intro k
    induction k with
    | zero =>
      intro i hi _
      have e : i = 12 := by omega
      subst e
      refine w_M_steepestStage_4 ?_
      simp (disch := omega) only [cm_,aq_,ay_,ag_,b8_,af_,ah_,ba_,c0_,am_,ac_,b2_,bq_,ed_,bs_,ao_,a2_,az_,aw_,dw_,d6_,ea_,d3_,b5_,b1_,fl_,fn_,fh_,fu_,fp_,fz_,fq_,fk_,fr_,ft_,f0_,c5_,bt_,bd_,c3_,cx_,cr_,cj_,cf_,an_,d1_,Int.toNat_natCast,f3_,di_,dm_,dn_,er_,gv_,g1_,gu_,f4_,Int.add_zero,Int.zero_add,Int.ediv_one,Nat.reduceAdd,Nat.reduceMul,Int.reduceNeg,Nat.reduceLeDiff,List.length_cons,List.length_nil,true_and,and_true,Nat.zero_add,eq_self,Nat.reduceEqDiff,Int.reduceAdd,Int.reduceSub,Int.reduceMul,not_true_eq_false,not_false_eq_true,Nat.reduceLT,Int.reduceToNat,Int.reduceEq,Int.reduceNe,Int.reduceLT,Int.reduceLE,and_false,false_and,false_implies,true_implies]
      refine w_M_steepestStage_37 ?_
      simp (disch := omega) only [cm_,aq_,ay_,ag_,b8_,af_,ah_,ba_,c0_,am_,ac_,b2_,bq_,ed_,bs_,ao_,a2_,az_,aw_,dw_,d6_,ea_,d3_,b5_,b1_,fl_,fn_,fh_,fu_,fp_,fz_,fq_,fk_,fr_,ft_,f0_,c5_,bt_,bd_,c3_,cx_,cr_,cj_,cf_,an_,d1_,Int.toNat_natCast,f3_,di_,dm_,dn_,er_,gv_,g1_,gu_,f4_,Int.add_zero,Int.zero_add,Int.ediv_one,Nat.reduceAdd,Nat.reduceMul,Int.reduceNeg,Nat.reduceLeDiff,List.length_cons,List.length_nil,true_and,and_true,Nat.zero_add,eq_self,Nat.reduceEqDiff,Int.reduceAdd,Int.reduceSub,Int.reduceMul,not_true_eq_false,not_false_eq_true,Nat.reduceLT,Int.reduceToNat,Int.reduceEq,Int.reduceNe,Int.reduceLT,Int.reduceLE,and_false,false_and,false_implies,true_implies]
      exact hQ
    | succ k ih =>
      intro i hi h1
      have step := ih (i + 1) (by omega) (by omega)
      have a1 := sr i (by omega)
      have b1 := gs i
      have b2 := gs (stp R i)
      simp only [stp] at step
      refine w_M_steepestStage_4 ?_
      simp (disch := omega) only [cm_,aq_,ay_,ag_,b8_,af_,ah_,ba_,c0_,am_,ac_,b2_,bq_,ed_,bs_,ao_,a2_,az_,aw_,dw_,d6_,ea_,d3_,b5_,b1_,fl_,fn_,fh_,fu_,fp_,fz_,fq_,fk_,fr_,ft_,f0_,c5_,bt_,bd_,c3_,cx_,cr_,cj_,cf_,an_,d1_,Int.toNat_natCast,f3_,di_,dm_,dn_,er_,gv_,g1_,gu_,f4_,Int.add_zero,Int.zero_add,Int.ediv_one,Nat.reduceAdd,Nat.reduceMul,Int.reduceNeg,Nat.reduceLeDiff,List.length_cons,List.length_nil,true_and,and_true,Nat.zero_add,eq_self,Nat.reduceEqDiff,Int.reduceAdd,Int.reduceSub,Int.reduceMul,not_true_eq_false,not_false_eq_true,Nat.reduceLT,Int.reduceToNat,Int.reduceEq,Int.reduceNe,Int.reduceLT,Int.reduceLE,and_false,false_and,false_implies,true_implies]
      refine ⟨fun q => by omega, fun _ => ⟨by omega, by omega, fun c => ?_, fun c => ?_⟩⟩
      · rw [if_neg (by omega)] at step
        repeat' (first | with_reducible refine And.intro ?_ ?_ | with_reducible intro _ | ((first | with_reducible refine w_M_steepestStage_29 ?_ | with_reducible refine w_M_steepestStage_30 ?_ | with_reducible refine w_M_steepestStage_37 ?_); simp (disch := omega) only [cm_,aq_,ay_,ag_,b8_,af_,ah_,ba_,c0_,am_,ac_,b2_,bq_,ed_,bs_,ao_,a2_,az_,aw_,dw_,d6_,ea_,d3_,b5_,b1_,fl_,fn_,fh_,fu_,fp_,fz_,fq_,fk_,fr_,ft_,f0_,c5_,bt_,bd_,c3_,cx_,cr_,cj_,cf_,an_,d1_,Int.toNat_natCast,f3_,di_,dm_,dn_,er_,gv_,g1_,gu_,f4_,Int.add_zero,Int.zero_add,Int.ediv_one,Nat.reduceAdd,Nat.reduceMul,Int.reduceNeg,Nat.reduceLeDiff,List.length_cons,List.length_nil,true_and,and_true,Nat.zero_add,eq_self,Nat.reduceEqDiff,Int.reduceAdd,Int.reduceSub,Int.reduceMul,not_true_eq_false,not_false_eq_true,Nat.reduceLT,Int.reduceToNat,Int.reduceEq,Int.reduceNe,Int.reduceLT,Int.reduceLE,and_false,false_and,false_implies,true_implies]))
        all_goals first | omega | exact step
      · rw [if_pos (by omega)] at step
        repeat' (first | with_reducible refine And.intro ?_ ?_ | with_reducible intro _ | ((first | with_reducible refine w_M_steepestStage_29 ?_ | with_reducible refine w_M_steepestStage_30 ?_ | with_reducible refine w_M_steepestStage_37 ?_); simp (disch := omega) only [cm_,aq_,ay_,ag_,b8_,af_,ah_,ba_,c0_,am_,ac_,b2_,bq_,ed_,bs_,ao_,a2_,az_,aw_,dw_,d6_,ea_,d3_,b5_,b1_,fl_,fn_,fh_,fu_,fp_,fz_,fq_,fk_,fr_,ft_,f0_,c5_,bt_,bd_,c3_,cx_,cr_,cj_,cf_,an_,d1_,Int.toNat_natCast,f3_,di_,dm_,dn_,er_,gv_,g1_,gu_,f4_,Int.add_zero,Int.zero_add,Int.ediv_one,Nat.reduceAdd,Nat.reduceMul,Int.reduceNeg,Nat.reduceLeDiff,List.length_cons,List.length_nil,true_and,and_true,Nat.zero_add,eq_self,Nat.reduceEqDiff,Int.reduceAdd,Int.reduceSub,Int.reduceMul,not_true_eq_false,not_false_eq_true,Nat.reduceLT,Int.reduceToNat,Int.reduceEq,Int.reduceNe,Int.reduceLT,Int.reduceLE,and_false,false_and,false_implies,true_implies]))
        all_goals first | omega | exact step
  have l0 := loop 11 1 rfl (by omega)
  rw [s1] at l0
  exact l0
end E10
section E11
variable {R I : RR} {im : Int} {P : Nat → RR} {pz : Int} {lt : Nat → Int} {lsz : Int} {tn : Nat → Int} {tsz : Int} {rf : Nat → Int} {bb h : AH} {Q : Option Value → AH → Prop}
theorem M_home {w : Int} (hw : inI w) (hI : GI R)  (W : (MW R I im P pz lt lsz tn tsz rf bb h))
    (r2 : ¬ (w = 0 ∨ w = 1) → ∀ h, (MW R I im P pz lt lsz tn tsz (rfU rf 2) bb h) → Q (some (.int (zI (-2)))) h)
    (ok : (w = 0 ∨ w = 1) → ∀ h, (MW R I im P pz lt lsz tn tsz rf bb h) → Q (some (.int (zI (if w = 0 then homeF g6_ R else if hd_ R = 12 then 0 else ((brF R : Nat) : Int))))) h) : Con M_M_home [.ref 90, .int (zI w)] h Q := by
  obtain ⟨a0, ib, sm, pl, lo, nu, kp, ig, p0, tk, ki, tu, tf, ga, sd, rfl, hIg, hTu, hPz⟩ := W
  have hG := hI.1
  obtain ⟨w1, w2⟩ := id hw
  have k2 := fun q => r2 q _ ⟨a0, ib, sm, pl, lo, nu, kp, ig, p0, tk, ki, tu, tf, ga, sd, rfl, hIg, hTu, hPz⟩
  refine g8_ (L := [some (.ref 90), some (.int (zI w))]) ok_M_home (Nat.le_of_ble_eq_true rfl) rfl ?_
  refine w_M_home_0 ?_
  simp (disch := omega) only [cm_,aq_,ay_,ag_,b8_,af_,ah_,ba_,c0_,am_,ac_,b2_,bq_,ed_,bs_,ao_,a2_,az_,aw_,dw_,d6_,ea_,d3_,b5_,b1_,fl_,fn_,fh_,fu_,fp_,fz_,fq_,fk_,fr_,ft_,f0_,c5_,bt_,bd_,c3_,cx_,cr_,cj_,cf_,an_,d1_,Int.toNat_natCast,f3_,di_,dm_,dn_,er_,gv_,g1_,gu_,f4_,Int.add_zero,Int.zero_add,Int.ediv_one,Nat.reduceAdd,Nat.reduceMul,Int.reduceNeg,Nat.reduceLeDiff,List.length_cons,List.length_nil,true_and,and_true,Nat.zero_add,eq_self,Nat.reduceEqDiff,Int.reduceAdd,Int.reduceSub,Int.reduceMul,not_true_eq_false,not_false_eq_true,Nat.reduceLT,Int.reduceToNat,Int.reduceEq,Int.reduceNe,Int.reduceLT,Int.reduceLE,and_false,false_and,false_implies,true_implies]
  refine con_Min hw (by unfold inI; omega) (by unfold inI; omega) (fun c => ?_) (fun c => ?_)
  · have kk := ok (by omega)
    simp (disch := omega) only [cm_,aq_,ay_,ag_,b8_,af_,ah_,ba_,c0_,am_,ac_,b2_,bq_,ed_,bs_,ao_,a2_,az_,aw_,dw_,d6_,ea_,d3_,b5_,b1_,fl_,fn_,fh_,fu_,fp_,fz_,fq_,fk_,fr_,ft_,f0_,c5_,bt_,bd_,c3_,cx_,cr_,cj_,cf_,an_,d1_,Int.toNat_natCast,f3_,di_,dm_,dn_,er_,gv_,g1_,gu_,f4_,Int.add_zero,Int.zero_add,Int.ediv_one,Nat.reduceAdd,Nat.reduceMul,Int.reduceNeg,Nat.reduceLeDiff,List.length_cons,List.length_nil,true_and,and_true,Nat.zero_add,eq_self,Nat.reduceEqDiff,Int.reduceAdd,Int.reduceSub,Int.reduceMul,not_true_eq_false,not_false_eq_true,Nat.reduceLT,Int.reduceToNat,Int.reduceEq,Int.reduceNe,Int.reduceLT,Int.reduceLE,and_false,false_and,false_implies,true_implies]
    refine w_M_home_22 ?_
    simp (disch := omega) only [cm_,aq_,ay_,ag_,b8_,af_,ah_,ba_,c0_,am_,ac_,b2_,bq_,ed_,bs_,ao_,a2_,az_,aw_,dw_,d6_,ea_,d3_,b5_,b1_,fl_,fn_,fh_,fu_,fp_,fz_,fq_,fk_,fr_,ft_,f0_,c5_,bt_,bd_,c3_,cx_,cr_,cj_,cf_,an_,d1_,Int.toNat_natCast,f3_,di_,dm_,dn_,er_,gv_,g1_,gu_,f4_,Int.add_zero,Int.zero_add,Int.ediv_one,Nat.reduceAdd,Nat.reduceMul,Int.reduceNeg,Nat.reduceLeDiff,List.length_cons,List.length_nil,true_and,and_true,Nat.zero_add,eq_self,Nat.reduceEqDiff,Int.reduceAdd,Int.reduceSub,Int.reduceMul,not_true_eq_false,not_false_eq_true,Nat.reduceLT,Int.reduceToNat,Int.reduceEq,Int.reduceNe,Int.reduceLT,Int.reduceLE,and_false,false_and,false_implies,true_implies]
    refine ⟨fun c2 => ?_, fun c2 => ?_⟩
    · rw [if_neg (by omega)] at kk
      refine w_M_home_33 ?_
      simp (disch := omega) only [cm_,aq_,ay_,ag_,b8_,af_,ah_,ba_,c0_,am_,ac_,b2_,bq_,ed_,bs_,ao_,a2_,az_,aw_,dw_,d6_,ea_,d3_,b5_,b1_,fl_,fn_,fh_,fu_,fp_,fz_,fq_,fk_,fr_,ft_,f0_,c5_,bt_,bd_,c3_,cx_,cr_,cj_,cf_,an_,d1_,Int.toNat_natCast,f3_,di_,dm_,dn_,er_,gv_,g1_,gu_,f4_,Int.add_zero,Int.zero_add,Int.ediv_one,Nat.reduceAdd,Nat.reduceMul,Int.reduceNeg,Nat.reduceLeDiff,List.length_cons,List.length_nil,true_and,and_true,Nat.zero_add,eq_self,Nat.reduceEqDiff,Int.reduceAdd,Int.reduceSub,Int.reduceMul,not_true_eq_false,not_false_eq_true,Nat.reduceLT,Int.reduceToNat,Int.reduceEq,Int.reduceNe,Int.reduceLT,Int.reduceLE,and_false,false_and,false_implies,true_implies]
      refine con_MbearersNow hG ?_
      simp (disch := omega) only [cm_,aq_,ay_,ag_,b8_,af_,ah_,ba_,c0_,am_,ac_,b2_,bq_,ed_,bs_,ao_,a2_,az_,aw_,dw_,d6_,ea_,d3_,b5_,b1_,fl_,fn_,fh_,fu_,fp_,fz_,fq_,fk_,fr_,ft_,f0_,c5_,bt_,bd_,c3_,cx_,cr_,cj_,cf_,an_,d1_,Int.toNat_natCast,f3_,di_,dm_,dn_,er_,gv_,g1_,gu_,f4_,Int.add_zero,Int.zero_add,Int.ediv_one,Nat.reduceAdd,Nat.reduceMul,Int.reduceNeg,Nat.reduceLeDiff,List.length_cons,List.length_nil,true_and,and_true,Nat.zero_add,eq_self,Nat.reduceEqDiff,Int.reduceAdd,Int.reduceSub,Int.reduceMul,not_true_eq_false,not_false_eq_true,Nat.reduceLT,Int.reduceToNat,Int.reduceEq,Int.reduceNe,Int.reduceLT,Int.reduceLE,and_false,false_and,false_implies,true_implies]
      refine w_M_home_37 ?_
      simp (disch := omega) only [cm_,aq_,ay_,ag_,b8_,af_,ah_,ba_,c0_,am_,ac_,b2_,bq_,ed_,bs_,ao_,a2_,az_,aw_,dw_,d6_,ea_,d3_,b5_,b1_,fl_,fn_,fh_,fu_,fp_,fz_,fq_,fk_,fr_,ft_,f0_,c5_,bt_,bd_,c3_,cx_,cr_,cj_,cf_,an_,d1_,Int.toNat_natCast,f3_,di_,dm_,dn_,er_,gv_,g1_,gu_,f4_,Int.add_zero,Int.zero_add,Int.ediv_one,Nat.reduceAdd,Nat.reduceMul,Int.reduceNeg,Nat.reduceLeDiff,List.length_cons,List.length_nil,true_and,and_true,Nat.zero_add,eq_self,Nat.reduceEqDiff,Int.reduceAdd,Int.reduceSub,Int.reduceMul,not_true_eq_false,not_false_eq_true,Nat.reduceLT,Int.reduceToNat,Int.reduceEq,Int.reduceNe,Int.reduceLT,Int.reduceLE,and_false,false_and,false_implies,true_implies]
      exact kk _ ⟨_, _, _, _, _, _, _, _, _, _, _, _, _, _, _, rfl, hIg, hTu, hPz⟩
    · rw [if_pos (by omega)] at kk
      refine con_MhomeIn hI (fun x tk ki => ?_)
      simp (disch := omega) only [cm_,aq_,ay_,ag_,b8_,af_,ah_,ba_,c0_,am_,ac_,b2_,bq_,ed_,bs_,ao_,a2_,az_,aw_,dw_,d6_,ea_,d3_,b5_,b1_,fl_,fn_,fh_,fu_,fp_,fz_,fq_,fk_,fr_,ft_,f0_,c5_,bt_,bd_,c3_,cx_,cr_,cj_,cf_,an_,d1_,Int.toNat_natCast,f3_,di_,dm_,dn_,er_,gv_,g1_,gu_,f4_,Int.add_zero,Int.zero_add,Int.ediv_one,Nat.reduceAdd,Nat.reduceMul,Int.reduceNeg,Nat.reduceLeDiff,List.length_cons,List.length_nil,true_and,and_true,Nat.zero_add,eq_self,Nat.reduceEqDiff,Int.reduceAdd,Int.reduceSub,Int.reduceMul,not_true_eq_false,not_false_eq_true,Nat.reduceLT,Int.reduceToNat,Int.reduceEq,Int.reduceNe,Int.reduceLT,Int.reduceLE,and_false,false_and,false_implies,true_implies]
      refine w_M_home_37 ?_
      simp (disch := omega) only [cm_,aq_,ay_,ag_,b8_,af_,ah_,ba_,c0_,am_,ac_,b2_,bq_,ed_,bs_,ao_,a2_,az_,aw_,dw_,d6_,ea_,d3_,b5_,b1_,fl_,fn_,fh_,fu_,fp_,fz_,fq_,fk_,fr_,ft_,f0_,c5_,bt_,bd_,c3_,cx_,cr_,cj_,cf_,an_,d1_,Int.toNat_natCast,f3_,di_,dm_,dn_,er_,gv_,g1_,gu_,f4_,Int.add_zero,Int.zero_add,Int.ediv_one,Nat.reduceAdd,Nat.reduceMul,Int.reduceNeg,Nat.reduceLeDiff,List.length_cons,List.length_nil,true_and,and_true,Nat.zero_add,eq_self,Nat.reduceEqDiff,Int.reduceAdd,Int.reduceSub,Int.reduceMul,not_true_eq_false,not_false_eq_true,Nat.reduceLT,Int.reduceToNat,Int.reduceEq,Int.reduceNe,Int.reduceLT,Int.reduceLE,and_false,false_and,false_implies,true_implies]
      exact kk _ ⟨_, _, _, _, _, _, _, _, _, _, _, _, _, _, _, rfl, hIg, hTu, hPz⟩
  · simp (disch := omega) only [cm_,aq_,ay_,ag_,b8_,af_,ah_,ba_,c0_,am_,ac_,b2_,bq_,ed_,bs_,ao_,a2_,az_,aw_,dw_,d6_,ea_,d3_,b5_,b1_,fl_,fn_,fh_,fu_,fp_,fz_,fq_,fk_,fr_,ft_,f0_,c5_,bt_,bd_,c3_,cx_,cr_,cj_,cf_,an_,d1_,Int.toNat_natCast,f3_,di_,dm_,dn_,er_,gv_,g1_,gu_,f4_,Int.add_zero,Int.zero_add,Int.ediv_one,Nat.reduceAdd,Nat.reduceMul,Int.reduceNeg,Nat.reduceLeDiff,List.length_cons,List.length_nil,true_and,and_true,Nat.zero_add,eq_self,Nat.reduceEqDiff,Int.reduceAdd,Int.reduceSub,Int.reduceMul,not_true_eq_false,not_false_eq_true,Nat.reduceLT,Int.reduceToNat,Int.reduceEq,Int.reduceNe,Int.reduceLT,Int.reduceLE,and_false,false_and,false_implies,true_implies]
    refine con_Mrefuse (k := 2) (by omega) ?_
    simp (disch := omega) only [cm_,aq_,ay_,ag_,b8_,af_,ah_,ba_,c0_,am_,ac_,b2_,bq_,ed_,bs_,ao_,a2_,az_,aw_,dw_,d6_,ea_,d3_,b5_,b1_,fl_,fn_,fh_,fu_,fp_,fz_,fq_,fk_,fr_,ft_,f0_,c5_,bt_,bd_,c3_,cx_,cr_,cj_,cf_,an_,d1_,Int.toNat_natCast,f3_,di_,dm_,dn_,er_,gv_,g1_,gu_,f4_,Int.add_zero,Int.zero_add,Int.ediv_one,Nat.reduceAdd,Nat.reduceMul,Int.reduceNeg,Nat.reduceLeDiff,List.length_cons,List.length_nil,true_and,and_true,Nat.zero_add,eq_self,Nat.reduceEqDiff,Int.reduceAdd,Int.reduceSub,Int.reduceMul,not_true_eq_false,not_false_eq_true,Nat.reduceLT,Int.reduceToNat,Int.reduceEq,Int.reduceNe,Int.reduceLT,Int.reduceLE,and_false,false_and,false_implies,true_implies]
    exact k2 (by omega)
end E11
end
/-! searchM -/
section
/-! ===== the reference: counts, the strongest, who dies ===== -/
section E12
variable {R : RR} {rf : Nat → Int} {lt : Nat → Int} {lsz : Int} {a0 : Int} {ib : Int} {sm : Int} {pl : Nat → Int} {lo : Nat → Int} {nu : Nat → Int} {kp : Nat → Int} {ig : Nat → Int} {hmg : Int} {p0 : Int} {tk : Int} {ki : Value} {tu : Nat → Int} {tz : Int} {tf : Nat → Int} {tn : Nat → Int} {tsz : Int} {ga : Nat → Int} {sd : Int} {bb : AH} {Q : Option Value → AH → Prop}
/-- never is 61 -/
theorem con_MdiesIn {m : Nat} (hm : m < hb_ R) (hI : GI R) (hQ : ∀ x tk ki, Q (some (.int (zI (if diesF g6_ R m = -9 then 61 else diesF g6_ R m)))) (HM R rf lt lsz a0 ib sm pl lo nu (x) ig hmg (49) (tk) (ki) tu tz tf tn tsz ga sd bb)) : Con M_M_diesIn [.ref 90, .int (zI m)] (HM R rf lt lsz a0 ib sm pl lo nu kp ig hmg p0 tk ki tu tz tf tn tsz ga sd bb) Q := by
  have gn := hI.1.nM
  refine g8_ (L := [some (.ref 90), some (.int (zI m)), none, none]) ok_M_diesIn (Nat.le_of_ble_eq_true rfl) rfl ?_
  refine w_M_diesIn_0 ?_
  simp (disch := omega) only [cm_,aq_,ay_,ag_,b8_,af_,bc_,am_,ac_,b2_,bq_,bs_,a0_,ao_,a2_,az_,av_,dw_,d6_,ea_,d3_,b5_,fl_,fn_,fh_,fu_,fp_,fz_,fq_,fk_,fr_,ft_,f0_,c5_,bt_,bd_,c3_,cx_,cz_,eb_,d5_,cf_,ch_,an_,fy_,fv_,Int.toNat_natCast,f3_,di_,dm_,dn_,gv_,g4_,gu_,f4_,Int.add_zero,Int.zero_add,Int.ediv_one,Nat.reduceAdd,Nat.reduceMul,Int.reduceNeg,Nat.reduceLeDiff,List.length_cons,List.length_nil,true_and,and_true,Nat.zero_add,eq_self,Nat.reduceEqDiff,Int.reduceAdd,Int.reduceSub,Int.reduceMul,not_true_eq_false,not_false_eq_true,Nat.reduceLT,Int.reduceToNat,Int.reduceEq,Int.reduceNe,Int.reduceLT,Int.reduceLE,and_self,or_self,false_implies,true_implies]
  refine con_Mthink (fun x hx => ?_)
  simp (disch := omega) only [cm_,aq_,ay_,ag_,b8_,af_,bc_,am_,ac_,b2_,bq_,bs_,a0_,ao_,a2_,az_,av_,dw_,d6_,ea_,d3_,b5_,fl_,fn_,fh_,fu_,fp_,fz_,fq_,fk_,fr_,ft_,f0_,c5_,bt_,bd_,c3_,cx_,cz_,eb_,d5_,cf_,ch_,an_,fy_,fv_,Int.toNat_natCast,f3_,di_,dm_,dn_,gv_,g4_,gu_,f4_,Int.add_zero,Int.zero_add,Int.ediv_one,Nat.reduceAdd,Nat.reduceMul,Int.reduceNeg,Nat.reduceLeDiff,List.length_cons,List.length_nil,true_and,and_true,Nat.zero_add,eq_self,Nat.reduceEqDiff,Int.reduceAdd,Int.reduceSub,Int.reduceMul,not_true_eq_false,not_false_eq_true,Nat.reduceLT,Int.reduceToNat,Int.reduceEq,Int.reduceNe,Int.reduceLT,Int.reduceLE,and_self,or_self,false_implies,true_implies]
  have fin : ∀ d y f, f = (if diesF g6_ R m = -9 then 61 else diesF g6_ R m) → J M_M_diesIn 48 [some (.ref 90), some (.int (zI m)), some (.int (zI f)), y] [] (HM (g6_ R d) rf lt lsz a0 ib sm pl lo nu (x) ig hmg (49) (1) (.ref 101) tu tz tf tn tsz ga sd bb) Q := by
    intro d y f hf
    refine w_M_diesIn_48 ?_
    simp (disch := omega) only [cm_,aq_,ay_,ag_,b8_,af_,bc_,am_,ac_,b2_,bq_,bs_,a0_,ao_,a2_,az_,av_,dw_,d6_,ea_,d3_,b5_,fl_,fn_,fh_,fu_,fp_,fz_,fq_,fk_,fr_,ft_,f0_,c5_,bt_,bd_,c3_,cx_,cz_,eb_,d5_,cf_,ch_,an_,fy_,fv_,Int.toNat_natCast,f3_,di_,dm_,dn_,gv_,g4_,gu_,f4_,Int.add_zero,Int.zero_add,Int.ediv_one,Nat.reduceAdd,Nat.reduceMul,Int.reduceNeg,Nat.reduceLeDiff,List.length_cons,List.length_nil,true_and,and_true,Nat.zero_add,eq_self,Nat.reduceEqDiff,Int.reduceAdd,Int.reduceSub,Int.reduceMul,not_true_eq_false,not_false_eq_true,Nat.reduceLT,Int.reduceToNat,Int.reduceEq,Int.reduceNe,Int.reduceLT,Int.reduceLE,and_self,or_self,false_implies,true_implies]
    refine con_Magain hx (hI.dsX d).2.2 hI.2.2 ?_
    simp (disch := omega) only [cm_,aq_,ay_,ag_,b8_,af_,bc_,am_,ac_,b2_,bq_,bs_,a0_,ao_,a2_,az_,av_,dw_,d6_,ea_,d3_,b5_,fl_,fn_,fh_,fu_,fp_,fz_,fq_,fk_,fr_,ft_,f0_,c5_,bt_,bd_,c3_,cx_,cz_,eb_,d5_,cf_,ch_,an_,fy_,fv_,Int.toNat_natCast,f3_,di_,dm_,dn_,gv_,g4_,gu_,f4_,Int.add_zero,Int.zero_add,Int.ediv_one,Nat.reduceAdd,Nat.reduceMul,Int.reduceNeg,Nat.reduceLeDiff,List.length_cons,List.length_nil,true_and,and_true,Nat.zero_add,eq_self,Nat.reduceEqDiff,Int.reduceAdd,Int.reduceSub,Int.reduceMul,not_true_eq_false,not_false_eq_true,Nat.reduceLT,Int.reduceToNat,Int.reduceEq,Int.reduceNe,Int.reduceLT,Int.reduceLE,and_self,or_self,false_implies,true_implies]
    rw [hf]
    exact hQ _ _ _
  have loop : ∀ k i : Nat, i + k = 61 → firstN (fun d => decide (rFa (g6_ R d) m = 2)) i k = diesF g6_ R m → J M_M_diesIn 9 [some (.ref 90), some (.int (zI m)), some (.int (zI 61)), some (.int (zI i))] [] (HM (g6_ R i) rf lt lsz a0 ib sm pl lo nu (x) ig hmg (49) (1) (.ref 101) tu tz tf tn tsz ga sd bb) Q := by
    intro k
    induction k with
    | zero =>
      intro i hi he
      have he : (-9 : Int) = diesF g6_ R m := he
      refine w_M_diesIn_9 ?_
      simp (disch := omega) only [cm_,aq_,ay_,ag_,b8_,af_,bc_,am_,ac_,b2_,bq_,bs_,a0_,ao_,a2_,az_,av_,dw_,d6_,ea_,d3_,b5_,fl_,fn_,fh_,fu_,fp_,fz_,fq_,fk_,fr_,ft_,f0_,c5_,bt_,bd_,c3_,cx_,cz_,eb_,d5_,cf_,ch_,an_,fy_,fv_,Int.toNat_natCast,f3_,di_,dm_,dn_,gv_,g4_,gu_,f4_,Int.add_zero,Int.zero_add,Int.ediv_one,Nat.reduceAdd,Nat.reduceMul,Int.reduceNeg,Nat.reduceLeDiff,List.length_cons,List.length_nil,true_and,and_true,Nat.zero_add,eq_self,Nat.reduceEqDiff,Int.reduceAdd,Int.reduceSub,Int.reduceMul,not_true_eq_false,not_false_eq_true,Nat.reduceLT,Int.reduceToNat,Int.reduceEq,Int.reduceNe,Int.reduceLT,Int.reduceLE,and_self,or_self,false_implies,true_implies]
      refine ⟨fun _ => fin i _ _ (by rw [← he]; rfl), fun q => by omega⟩
    | succ k ih =>
      intro i hi he
      have gf := (hI.dsX i).1.fa m
      have ed : dayX (g6_ R i) = g6_ R (i + 1) := rfl
      simp only [firstN] at he
      refine w_M_diesIn_9 ?_
      simp (disch := omega) only [cm_,aq_,ay_,ag_,b8_,af_,bc_,am_,ac_,b2_,bq_,bs_,a0_,ao_,a2_,az_,av_,dw_,d6_,ea_,d3_,b5_,fl_,fn_,fh_,fu_,fp_,fz_,fq_,fk_,fr_,ft_,f0_,c5_,bt_,bd_,c3_,cx_,cz_,eb_,d5_,cf_,ch_,an_,fy_,fv_,Int.toNat_natCast,f3_,di_,dm_,dn_,gv_,g4_,gu_,f4_,Int.add_zero,Int.zero_add,Int.ediv_one,Nat.reduceAdd,Nat.reduceMul,Int.reduceNeg,Nat.reduceLeDiff,List.length_cons,List.length_nil,true_and,and_true,Nat.zero_add,eq_self,Nat.reduceEqDiff,Int.reduceAdd,Int.reduceSub,Int.reduceMul,not_true_eq_false,not_false_eq_true,Nat.reduceLT,Int.reduceToNat,Int.reduceEq,Int.reduceNe,Int.reduceLT,Int.reduceLE,and_self,or_self,false_implies,true_implies]
      refine ⟨fun q => by omega, fun _ => ⟨by omega, fun c => ?_, fun c => ?_⟩⟩
      · rw [if_neg (by rw [decide_eq_false c]; decide)] at he
        refine w_M_diesIn_35 ?_
        simp (disch := omega) only [cm_,aq_,ay_,ag_,b8_,af_,bc_,am_,ac_,b2_,bq_,bs_,a0_,ao_,a2_,az_,av_,dw_,d6_,ea_,d3_,b5_,fl_,fn_,fh_,fu_,fp_,fz_,fq_,fk_,fr_,ft_,f0_,c5_,bt_,bd_,c3_,cx_,cz_,eb_,d5_,cf_,ch_,an_,fy_,fv_,Int.toNat_natCast,f3_,di_,dm_,dn_,gv_,g4_,gu_,f4_,Int.add_zero,Int.zero_add,Int.ediv_one,Nat.reduceAdd,Nat.reduceMul,Int.reduceNeg,Nat.reduceLeDiff,List.length_cons,List.length_nil,true_and,and_true,Nat.zero_add,eq_self,Nat.reduceEqDiff,Int.reduceAdd,Int.reduceSub,Int.reduceMul,not_true_eq_false,not_false_eq_true,Nat.reduceLT,Int.reduceToNat,Int.reduceEq,Int.reduceNe,Int.reduceLT,Int.reduceLE,and_self,or_self,false_implies,true_implies]
        refine w_M_diesIn_37 ?_
        simp (disch := omega) only [cm_,aq_,ay_,ag_,b8_,af_,bc_,am_,ac_,b2_,bq_,bs_,a0_,ao_,a2_,az_,av_,dw_,d6_,ea_,d3_,b5_,fl_,fn_,fh_,fu_,fp_,fz_,fq_,fk_,fr_,ft_,f0_,c5_,bt_,bd_,c3_,cx_,cz_,eb_,d5_,cf_,ch_,an_,fy_,fv_,Int.toNat_natCast,f3_,di_,dm_,dn_,gv_,g4_,gu_,f4_,Int.add_zero,Int.zero_add,Int.ediv_one,Nat.reduceAdd,Nat.reduceMul,Int.reduceNeg,Nat.reduceLeDiff,List.length_cons,List.length_nil,true_and,and_true,Nat.zero_add,eq_self,Nat.reduceEqDiff,Int.reduceAdd,Int.reduceSub,Int.reduceMul,not_true_eq_false,not_false_eq_true,Nat.reduceLT,Int.reduceToNat,Int.reduceEq,Int.reduceNe,Int.reduceLT,Int.reduceLE,and_self,or_self,false_implies,true_implies]
        refine con_MdayOn (hI.dsX i).1 (hI.dsX i).2.1 ?_
        rw [ed]
        simp (disch := omega) only [cm_,aq_,ay_,ag_,b8_,af_,bc_,am_,ac_,b2_,bq_,bs_,a0_,ao_,a2_,az_,av_,dw_,d6_,ea_,d3_,b5_,fl_,fn_,fh_,fu_,fp_,fz_,fq_,fk_,fr_,ft_,f0_,c5_,bt_,bd_,c3_,cx_,cz_,eb_,d5_,cf_,ch_,an_,fy_,fv_,Int.toNat_natCast,f3_,di_,dm_,dn_,gv_,g4_,gu_,f4_,Int.add_zero,Int.zero_add,Int.ediv_one,Nat.reduceAdd,Nat.reduceMul,Int.reduceNeg,Nat.reduceLeDiff,List.length_cons,List.length_nil,true_and,and_true,Nat.zero_add,eq_self,Nat.reduceEqDiff,Int.reduceAdd,Int.reduceSub,Int.reduceMul,not_true_eq_false,not_false_eq_true,Nat.reduceLT,Int.reduceToNat,Int.reduceEq,Int.reduceNe,Int.reduceLT,Int.reduceLE,and_self,or_self,false_implies,true_implies]
        exact ih (i + 1) (by omega) he
      · rw [if_pos (decide_eq_true (by omega))] at he
        have fe : (i : Int) = (if diesF g6_ R m = -9 then 61 else diesF g6_ R m) := by
          rw [← he, if_neg (by omega)]
        refine w_M_diesIn_37 ?_
        simp (disch := omega) only [cm_,aq_,ay_,ag_,b8_,af_,bc_,am_,ac_,b2_,bq_,bs_,a0_,ao_,a2_,az_,av_,dw_,d6_,ea_,d3_,b5_,fl_,fn_,fh_,fu_,fp_,fz_,fq_,fk_,fr_,ft_,f0_,c5_,bt_,bd_,c3_,cx_,cz_,eb_,d5_,cf_,ch_,an_,fy_,fv_,Int.toNat_natCast,f3_,di_,dm_,dn_,gv_,g4_,gu_,f4_,Int.add_zero,Int.zero_add,Int.ediv_one,Nat.reduceAdd,Nat.reduceMul,Int.reduceNeg,Nat.reduceLeDiff,List.length_cons,List.length_nil,true_and,and_true,Nat.zero_add,eq_self,Nat.reduceEqDiff,Int.reduceAdd,Int.reduceSub,Int.reduceMul,not_true_eq_false,not_false_eq_true,Nat.reduceLT,Int.reduceToNat,Int.reduceEq,Int.reduceNe,Int.reduceLT,Int.reduceLE,and_self,or_self,false_implies,true_implies]
        refine con_MdayOn (hI.dsX i).1 (hI.dsX i).2.1 ?_
        rw [ed]
        simp (disch := omega) only [cm_,aq_,ay_,ag_,b8_,af_,bc_,am_,ac_,b2_,bq_,bs_,a0_,ao_,a2_,az_,av_,dw_,d6_,ea_,d3_,b5_,fl_,fn_,fh_,fu_,fp_,fz_,fq_,fk_,fr_,ft_,f0_,c5_,bt_,bd_,c3_,cx_,cz_,eb_,d5_,cf_,ch_,an_,fy_,fv_,Int.toNat_natCast,f3_,di_,dm_,dn_,gv_,g4_,gu_,f4_,Int.add_zero,Int.zero_add,Int.ediv_one,Nat.reduceAdd,Nat.reduceMul,Int.reduceNeg,Nat.reduceLeDiff,List.length_cons,List.length_nil,true_and,and_true,Nat.zero_add,eq_self,Nat.reduceEqDiff,Int.reduceAdd,Int.reduceSub,Int.reduceMul,not_true_eq_false,not_false_eq_true,Nat.reduceLT,Int.reduceToNat,Int.reduceEq,Int.reduceNe,Int.reduceLT,Int.reduceLE,and_self,or_self,false_implies,true_implies]
        refine w_M_diesIn_9 ?_
        simp (disch := omega) only [cm_,aq_,ay_,ag_,b8_,af_,bc_,am_,ac_,b2_,bq_,bs_,a0_,ao_,a2_,az_,av_,dw_,d6_,ea_,d3_,b5_,fl_,fn_,fh_,fu_,fp_,fz_,fq_,fk_,fr_,ft_,f0_,c5_,bt_,bd_,c3_,cx_,cz_,eb_,d5_,cf_,ch_,an_,fy_,fv_,Int.toNat_natCast,f3_,di_,dm_,dn_,gv_,g4_,gu_,f4_,Int.add_zero,Int.zero_add,Int.ediv_one,Nat.reduceAdd,Nat.reduceMul,Int.reduceNeg,Nat.reduceLeDiff,List.length_cons,List.length_nil,true_and,and_true,Nat.zero_add,eq_self,Nat.reduceEqDiff,Int.reduceAdd,Int.reduceSub,Int.reduceMul,not_true_eq_false,not_false_eq_true,Nat.reduceLT,Int.reduceToNat,Int.reduceEq,Int.reduceNe,Int.reduceLT,Int.reduceLE,and_self,or_self,false_implies,true_implies]
        refine ⟨fun _ => fin (i + 1) _ _ fe, fun _ => ⟨fun _ => fin (i + 1) _ _ fe, fun q => by omega⟩⟩
  exact loop 61 0 rfl rfl
end E12
section E13
variable {R I : RR} {im : Int} {P : Nat → RR} {pz : Int} {lt : Nat → Int} {lsz : Int} {tn : Nat → Int} {tsz : Int} {rf : Nat → Int} {bb h : AH} {Q : Option Value → AH → Prop}
theorem M_strongest {w : Int} (hw : inI w) (hI : GI R)  (W : (MW R I im P pz lt lsz tn tsz rf bb h))
    (r2 : ¬ (0 ≤ w ∧ w ≤ 3) → ∀ h, (MW R I im P pz lt lsz tn tsz (rfU rf 2) bb h) → Q (some (.int (zI (-2)))) h)
    (ok : (0 ≤ w ∧ w ≤ 3) → ∀ h, (MW R I im P pz lt lsz tn tsz rf bb h) → Q (some (.int (zI (strongA R w)))) h) : Con M_M_strongest [.ref 90, .int (zI w)] h Q := by
  obtain ⟨a0, ib, sm, pl, lo, nu, kp, ig, p0, tk, ki, tu, tf, ga, sd, rfl, hIg, hTu, hPz⟩ := W
  obtain ⟨w1, w2⟩ := id hw
  have hG := hI.1
  have gk := hG.king
  have k2 := fun q => r2 q _ ⟨a0, ib, sm, pl, lo, nu, kp, ig, p0, tk, ki, tu, tf, ga, sd, rfl, hIg, hTu, hPz⟩
  have kk := fun q => ok q _ ⟨a0, ib, sm, pl, lo, nu, kp, ig, p0, tk, ki, tu, tf, ga, sd, rfl, hIg, hTu, hPz⟩
  refine g8_ (L := [some (.ref 90), some (.int (zI w))]) ok_M_strongest (Nat.le_of_ble_eq_true rfl) rfl ?_
  refine w_M_strongest_0 ?_
  by_cases cw : 0 ≤ w ∧ w ≤ 3
  · have kk := kk cw
    simp only [strongA] at kk
    have : w = 0 ∨ w = 1 ∨ w = 2 ∨ w = 3 := by omega
    rcases this with rfl | rfl | rfl | rfl
    all_goals simp only [Int.reduceEq, if_true, if_false] at kk
    all_goals simp (disch := omega) only [cm_,aq_,ay_,ag_,b8_,af_,bc_,am_,ac_,b2_,bq_,bs_,a0_,ao_,a2_,az_,av_,dw_,d6_,ea_,d3_,b5_,fl_,fn_,fh_,fu_,fp_,fz_,fq_,fk_,fr_,ft_,f0_,c5_,bt_,bd_,c3_,cx_,cz_,eb_,d5_,cf_,ch_,an_,fy_,fv_,Int.toNat_natCast,f3_,di_,dm_,dn_,gv_,g4_,gu_,f4_,Int.add_zero,Int.zero_add,Int.ediv_one,Nat.reduceAdd,Nat.reduceMul,Int.reduceNeg,Nat.reduceLeDiff,List.length_cons,List.length_nil,true_and,and_true,Nat.zero_add,eq_self,Nat.reduceEqDiff,Int.reduceAdd,Int.reduceSub,Int.reduceMul,not_true_eq_false,not_false_eq_true,Nat.reduceLT,Int.reduceToNat,Int.reduceEq,Int.reduceNe,Int.reduceLT,Int.reduceLE,and_self,or_self,false_implies,true_implies]
    all_goals first | refine ⟨?_, fun q => absurd q (by omega)⟩ | skip
    · refine w_M_strongest_36 ?_
      simp (disch := omega) only [cm_,aq_,ay_,ag_,b8_,af_,bc_,am_,ac_,b2_,bq_,bs_,a0_,ao_,a2_,az_,av_,dw_,d6_,ea_,d3_,b5_,fl_,fn_,fh_,fu_,fp_,fz_,fq_,fk_,fr_,ft_,f0_,c5_,bt_,bd_,c3_,cx_,cz_,eb_,d5_,cf_,ch_,an_,fy_,fv_,Int.toNat_natCast,f3_,di_,dm_,dn_,gv_,g4_,gu_,f4_,Int.add_zero,Int.zero_add,Int.ediv_one,Nat.reduceAdd,Nat.reduceMul,Int.reduceNeg,Nat.reduceLeDiff,List.length_cons,List.length_nil,true_and,and_true,Nat.zero_add,eq_self,Nat.reduceEqDiff,Int.reduceAdd,Int.reduceSub,Int.reduceMul,not_true_eq_false,not_false_eq_true,Nat.reduceLT,Int.reduceToNat,Int.reduceEq,Int.reduceNe,Int.reduceLT,Int.reduceLE,and_self,or_self,false_implies,true_implies]
      refine con_MstrongestBut (b := 0) (by omega) hG ?_
      simp (disch := omega) only [cm_,aq_,ay_,ag_,b8_,af_,bc_,am_,ac_,b2_,bq_,bs_,a0_,ao_,a2_,az_,av_,dw_,d6_,ea_,d3_,b5_,fl_,fn_,fh_,fu_,fp_,fz_,fq_,fk_,fr_,ft_,f0_,c5_,bt_,bd_,c3_,cx_,cz_,eb_,d5_,cf_,ch_,an_,fy_,fv_,Int.toNat_natCast,f3_,di_,dm_,dn_,gv_,g4_,gu_,f4_,Int.add_zero,Int.zero_add,Int.ediv_one,Nat.reduceAdd,Nat.reduceMul,Int.reduceNeg,Nat.reduceLeDiff,List.length_cons,List.length_nil,true_and,and_true,Nat.zero_add,eq_self,Nat.reduceEqDiff,Int.reduceAdd,Int.reduceSub,Int.reduceMul,not_true_eq_false,not_false_eq_true,Nat.reduceLT,Int.reduceToNat,Int.reduceEq,Int.reduceNe,Int.reduceLT,Int.reduceLE,and_self,or_self,false_implies,true_implies]
      exact kk
    · refine w_M_strongest_42 ?_
      simp (disch := omega) only [cm_,aq_,ay_,ag_,b8_,af_,bc_,am_,ac_,b2_,bq_,bs_,a0_,ao_,a2_,az_,av_,dw_,d6_,ea_,d3_,b5_,fl_,fn_,fh_,fu_,fp_,fz_,fq_,fk_,fr_,ft_,f0_,c5_,bt_,bd_,c3_,cx_,cz_,eb_,d5_,cf_,ch_,an_,fy_,fv_,Int.toNat_natCast,f3_,di_,dm_,dn_,gv_,g4_,gu_,f4_,Int.add_zero,Int.zero_add,Int.ediv_one,Nat.reduceAdd,Nat.reduceMul,Int.reduceNeg,Nat.reduceLeDiff,List.length_cons,List.length_nil,true_and,and_true,Nat.zero_add,eq_self,Nat.reduceEqDiff,Int.reduceAdd,Int.reduceSub,Int.reduceMul,not_true_eq_false,not_false_eq_true,Nat.reduceLT,Int.reduceToNat,Int.reduceEq,Int.reduceNe,Int.reduceLT,Int.reduceLE,and_self,or_self,false_implies,true_implies]
      refine con_MsteepestStage hG ?_
      simp (disch := omega) only [cm_,aq_,ay_,ag_,b8_,af_,bc_,am_,ac_,b2_,bq_,bs_,a0_,ao_,a2_,az_,av_,dw_,d6_,ea_,d3_,b5_,fl_,fn_,fh_,fu_,fp_,fz_,fq_,fk_,fr_,ft_,f0_,c5_,bt_,bd_,c3_,cx_,cz_,eb_,d5_,cf_,ch_,an_,fy_,fv_,Int.toNat_natCast,f3_,di_,dm_,dn_,gv_,g4_,gu_,f4_,Int.add_zero,Int.zero_add,Int.ediv_one,Nat.reduceAdd,Nat.reduceMul,Int.reduceNeg,Nat.reduceLeDiff,List.length_cons,List.length_nil,true_and,and_true,Nat.zero_add,eq_self,Nat.reduceEqDiff,Int.reduceAdd,Int.reduceSub,Int.reduceMul,not_true_eq_false,not_false_eq_true,Nat.reduceLT,Int.reduceToNat,Int.reduceEq,Int.reduceNe,Int.reduceLT,Int.reduceLE,and_self,or_self,false_implies,true_implies]
      exact kk
    · refine w_M_strongest_47 ?_
      simp (disch := omega) only [cm_,aq_,ay_,ag_,b8_,af_,bc_,am_,ac_,b2_,bq_,bs_,a0_,ao_,a2_,az_,av_,dw_,d6_,ea_,d3_,b5_,fl_,fn_,fh_,fu_,fp_,fz_,fq_,fk_,fr_,ft_,f0_,c5_,bt_,bd_,c3_,cx_,cz_,eb_,d5_,cf_,ch_,an_,fy_,fv_,Int.toNat_natCast,f3_,di_,dm_,dn_,gv_,g4_,gu_,f4_,Int.add_zero,Int.zero_add,Int.ediv_one,Nat.reduceAdd,Nat.reduceMul,Int.reduceNeg,Nat.reduceLeDiff,List.length_cons,List.length_nil,true_and,and_true,Nat.zero_add,eq_self,Nat.reduceEqDiff,Int.reduceAdd,Int.reduceSub,Int.reduceMul,not_true_eq_false,not_false_eq_true,Nat.reduceLT,Int.reduceToNat,Int.reduceEq,Int.reduceNe,Int.reduceLT,Int.reduceLE,and_self,or_self,false_implies,true_implies]
      exact kk
    · refine w_M_strongest_55 ?_
      have n1 := hG.nM
      simp (disch := omega) only [cm_,aq_,ay_,ag_,b8_,af_,bc_,am_,ac_,b2_,bq_,bs_,a0_,ao_,a2_,az_,av_,dw_,d6_,ea_,d3_,b5_,fl_,fn_,fh_,fu_,fp_,fz_,fq_,fk_,fr_,ft_,f0_,c5_,bt_,bd_,c3_,cx_,cz_,eb_,d5_,cf_,ch_,an_,fy_,fv_,Int.toNat_natCast,f3_,di_,dm_,dn_,gv_,g4_,gu_,f4_,Int.add_zero,Int.zero_add,Int.ediv_one,Nat.reduceAdd,Nat.reduceMul,Int.reduceNeg,Nat.reduceLeDiff,List.length_cons,List.length_nil,true_and,and_true,Nat.zero_add,eq_self,Nat.reduceEqDiff,Int.reduceAdd,Int.reduceSub,Int.reduceMul,not_true_eq_false,not_false_eq_true,Nat.reduceLT,Int.reduceToNat,Int.reduceEq,Int.reduceNe,Int.reduceLT,Int.reduceLE,and_self,or_self,false_implies,true_implies]
      refine con_MbitsOf (by unfold inI; omega) hG ?_
      simp (disch := omega) only [cm_,aq_,ay_,ag_,b8_,af_,bc_,am_,ac_,b2_,bq_,bs_,a0_,ao_,a2_,az_,av_,dw_,d6_,ea_,d3_,b5_,fl_,fn_,fh_,fu_,fp_,fz_,fq_,fk_,fr_,ft_,f0_,c5_,bt_,bd_,c3_,cx_,cz_,eb_,d5_,cf_,ch_,an_,fy_,fv_,Int.toNat_natCast,f3_,di_,dm_,dn_,gv_,g4_,gu_,f4_,Int.add_zero,Int.zero_add,Int.ediv_one,Nat.reduceAdd,Nat.reduceMul,Int.reduceNeg,Nat.reduceLeDiff,List.length_cons,List.length_nil,true_and,and_true,Nat.zero_add,eq_self,Nat.reduceEqDiff,Int.reduceAdd,Int.reduceSub,Int.reduceMul,not_true_eq_false,not_false_eq_true,Nat.reduceLT,Int.reduceToNat,Int.reduceEq,Int.reduceNe,Int.reduceLT,Int.reduceLE,and_self,or_self,false_implies,true_implies]
      refine con_MonesOf (mask_256 _ n1.2) ?_
      simp (disch := omega) only [cm_,aq_,ay_,ag_,b8_,af_,bc_,am_,ac_,b2_,bq_,bs_,a0_,ao_,a2_,az_,av_,dw_,d6_,ea_,d3_,b5_,fl_,fn_,fh_,fu_,fp_,fz_,fq_,fk_,fr_,ft_,f0_,c5_,bt_,bd_,c3_,cx_,cz_,eb_,d5_,cf_,ch_,an_,fy_,fv_,Int.toNat_natCast,f3_,di_,dm_,dn_,gv_,g4_,gu_,f4_,Int.add_zero,Int.zero_add,Int.ediv_one,Nat.reduceAdd,Nat.reduceMul,Int.reduceNeg,Nat.reduceLeDiff,List.length_cons,List.length_nil,true_and,and_true,Nat.zero_add,eq_self,Nat.reduceEqDiff,Int.reduceAdd,Int.reduceSub,Int.reduceMul,not_true_eq_false,not_false_eq_true,Nat.reduceLT,Int.reduceToNat,Int.reduceEq,Int.reduceNe,Int.reduceLT,Int.reduceLE,and_self,or_self,false_implies,true_implies]
      exact kk
  · simp (disch := omega) only [cm_,aq_,ay_,ag_,b8_,af_,bc_,am_,ac_,b2_,bq_,bs_,a0_,ao_,a2_,az_,av_,dw_,d6_,ea_,d3_,b5_,fl_,fn_,fh_,fu_,fp_,fz_,fq_,fk_,fr_,ft_,f0_,c5_,bt_,bd_,c3_,cx_,cz_,eb_,d5_,cf_,ch_,an_,fy_,fv_,Int.toNat_natCast,f3_,di_,dm_,dn_,gv_,g4_,gu_,f4_,Int.add_zero,Int.zero_add,Int.ediv_one,Nat.reduceAdd,Nat.reduceMul,Int.reduceNeg,Nat.reduceLeDiff,List.length_cons,List.length_nil,true_and,and_true,Nat.zero_add,eq_self,Nat.reduceEqDiff,Int.reduceAdd,Int.reduceSub,Int.reduceMul,not_true_eq_false,not_false_eq_true,Nat.reduceLT,Int.reduceToNat,Int.reduceEq,Int.reduceNe,Int.reduceLT,Int.reduceLE,and_self,or_self,false_implies,true_implies]
    repeat' (first | with_reducible refine And.intro ?_ ?_ | with_reducible intro _ | ((first | with_reducible refine w_M_strongest_36 ?_ | with_reducible refine w_M_strongest_42 ?_ | with_reducible refine w_M_strongest_47 ?_ | with_reducible refine w_M_strongest_55 ?_ | with_reducible refine w_M_strongest_64 ?_); simp (disch := omega) only [cm_,aq_,ay_,ag_,b8_,af_,bc_,am_,ac_,b2_,bq_,bs_,a0_,ao_,a2_,az_,av_,dw_,d6_,ea_,d3_,b5_,fl_,fn_,fh_,fu_,fp_,fz_,fq_,fk_,fr_,ft_,f0_,c5_,bt_,bd_,c3_,cx_,cz_,eb_,d5_,cf_,ch_,an_,fy_,fv_,Int.toNat_natCast,f3_,di_,dm_,dn_,gv_,g4_,gu_,f4_,Int.add_zero,Int.zero_add,Int.ediv_one,Nat.reduceAdd,Nat.reduceMul,Int.reduceNeg,Nat.reduceLeDiff,List.length_cons,List.length_nil,true_and,and_true,Nat.zero_add,eq_self,Nat.reduceEqDiff,Int.reduceAdd,Int.reduceSub,Int.reduceMul,not_true_eq_false,not_false_eq_true,Nat.reduceLT,Int.reduceToNat,Int.reduceEq,Int.reduceNe,Int.reduceLT,Int.reduceLE,and_self,or_self,false_implies,true_implies]))
    all_goals first | omega | skip
    all_goals refine con_Mrefuse (k := 2) (by omega) ?_
    all_goals simp (disch := omega) only [cm_,aq_,ay_,ag_,b8_,af_,bc_,am_,ac_,b2_,bq_,bs_,a0_,ao_,a2_,az_,av_,dw_,d6_,ea_,d3_,b5_,fl_,fn_,fh_,fu_,fp_,fz_,fq_,fk_,fr_,ft_,f0_,c5_,bt_,bd_,c3_,cx_,cz_,eb_,d5_,cf_,ch_,an_,fy_,fv_,Int.toNat_natCast,f3_,di_,dm_,dn_,gv_,g4_,gu_,f4_,Int.add_zero,Int.zero_add,Int.ediv_one,Nat.reduceAdd,Nat.reduceMul,Int.reduceNeg,Nat.reduceLeDiff,List.length_cons,List.length_nil,true_and,and_true,Nat.zero_add,eq_self,Nat.reduceEqDiff,Int.reduceAdd,Int.reduceSub,Int.reduceMul,not_true_eq_false,not_false_eq_true,Nat.reduceLT,Int.reduceToNat,Int.reduceEq,Int.reduceNe,Int.reduceLT,Int.reduceLE,and_self,or_self,false_implies,true_implies]
    all_goals exact k2 cw
end E13
end
