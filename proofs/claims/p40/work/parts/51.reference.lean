/-! countM -/
section
/-! ===== the reference: counts ===== -/
section E14
variable {R I : RR} {im : Int} {P : Nat → RR} {pz : Int} {lt : Nat → Int} {lsz : Int} {tn : Nat → Int} {tsz : Int} {rf : Nat → Int} {bb h : AH} {Q : Option Value → AH → Prop}
theorem M_count {w : Int} (hw : inI w) (hI : GI R)  (W : (MW R I im P pz lt lsz tn tsz rf bb h))
    (ok : ∀ h, (MW R I im P pz lt lsz tn tsz rf bb h) → Q (some (.int (zI (countA R lsz tsz pz rf w)))) h) : Con M_M_count [.ref 90, .int (zI w)] h Q := by
  obtain ⟨a0, ib, sm, pl, lo, nu, kp, ig, p0, tk, ki, tu, tf, ga, sd, rfl, hIg, hTu, hPz⟩ := W
  obtain ⟨w1, w2⟩ := id hw
  have hG := hI.1
  have kk := ok _ ⟨a0, ib, sm, pl, lo, nu, kp, ig, p0, tk, ki, tu, tf, ga, sd, rfl, hIg, hTu, hPz⟩
  simp only [countA] at kk
  refine g8_ (L := [some (.ref 90), some (.int (zI w))]) ok_M_count (Nat.le_of_ble_eq_true rfl) rfl ?_
  refine w_M_count_0 ?_
  by_cases cw : 0 ≤ w ∧ w ≤ 9
  · rw [if_neg (by omega)] at kk
    have : w = 0 ∨ w = 1 ∨ w = 2 ∨ w = 3 ∨ w = 4 ∨ w = 5 ∨ w = 6 ∨ w = 7 ∨ w = 8 ∨ w = 9 := by omega
    rcases this with rfl | rfl | rfl | rfl | rfl | rfl | rfl | rfl | rfl | rfl
    all_goals simp only [Int.reduceEq, if_true, if_false] at kk
    all_goals simp (disch := omega) only [cm_,aq_,ay_,af_,bm_,bc_,c0_,am_,ac_,b2_,bq_,ed_,a0_,ao_,az_,aw_,dw_,d6_,fl_,fn_,fh_,fu_,fz_,fq_,fk_,fr_,ft_,f0_,c5_,bd_,c3_,ct_,eb_,d5_,ch_,an_,fm_,Int.toNat_natCast,di_,dm_,dn_,er_,gv_,g3_,gu_,f4_,Int.add_zero,Int.zero_add,Int.ediv_one,Nat.reduceAdd,Nat.reduceMul,Int.reduceNeg,Nat.reduceLeDiff,List.length_cons,List.length_nil,true_and,and_true,Nat.zero_add,eq_self,Nat.reduceEqDiff,Int.reduceAdd,Int.reduceSub,Int.reduceMul,not_true_eq_false,not_false_eq_true,Nat.reduceLT,Int.reduceToNat,Int.reduceEq,Int.reduceNe,Int.reduceLT,Int.reduceLE,false_or,and_self,false_implies,true_implies]
    all_goals
      repeat' (first | with_reducible refine And.intro ?_ ?_ | with_reducible intro _ | ((first | with_reducible refine w_M_count_60 ?_ | with_reducible refine w_M_count_65 ?_ | with_reducible refine w_M_count_70 ?_ | with_reducible refine w_M_count_75 ?_ | with_reducible refine w_M_count_80 ?_ | with_reducible refine w_M_count_85 ?_ | with_reducible refine w_M_count_91 ?_ | with_reducible refine w_M_count_97 ?_ | with_reducible refine w_M_count_102 ?_ | with_reducible refine w_M_count_107 ?_ | with_reducible refine w_M_count_112 ?_ | with_reducible refine w_M_count_138 ?_ | with_reducible refine w_M_count_140 ?_); simp (disch := omega) only [cm_,aq_,ay_,af_,bm_,bc_,c0_,am_,ac_,b2_,bq_,ed_,a0_,ao_,az_,aw_,dw_,d6_,fl_,fn_,fh_,fu_,fz_,fq_,fk_,fr_,ft_,f0_,c5_,bd_,c3_,ct_,eb_,d5_,ch_,an_,fm_,Int.toNat_natCast,di_,dm_,dn_,er_,gv_,g3_,gu_,f4_,Int.add_zero,Int.zero_add,Int.ediv_one,Nat.reduceAdd,Nat.reduceMul,Int.reduceNeg,Nat.reduceLeDiff,List.length_cons,List.length_nil,true_and,and_true,Nat.zero_add,eq_self,Nat.reduceEqDiff,Int.reduceAdd,Int.reduceSub,Int.reduceMul,not_true_eq_false,not_false_eq_true,Nat.reduceLT,Int.reduceToNat,Int.reduceEq,Int.reduceNe,Int.reduceLT,Int.reduceLE,false_or,and_self,false_implies,true_implies]))
    all_goals first | omega | exact kk | skip
    all_goals refine con_MbitsOf (by unfold inI; omega) hG ?_
    all_goals simp (disch := omega) only [cm_,aq_,ay_,af_,bm_,bc_,c0_,am_,ac_,b2_,bq_,ed_,a0_,ao_,az_,aw_,dw_,d6_,fl_,fn_,fh_,fu_,fz_,fq_,fk_,fr_,ft_,f0_,c5_,bd_,c3_,ct_,eb_,d5_,ch_,an_,fm_,Int.toNat_natCast,di_,dm_,dn_,er_,gv_,g3_,gu_,f4_,Int.add_zero,Int.zero_add,Int.ediv_one,Nat.reduceAdd,Nat.reduceMul,Int.reduceNeg,Nat.reduceLeDiff,List.length_cons,List.length_nil,true_and,and_true,Nat.zero_add,eq_self,Nat.reduceEqDiff,Int.reduceAdd,Int.reduceSub,Int.reduceMul,not_true_eq_false,not_false_eq_true,Nat.reduceLT,Int.reduceToNat,Int.reduceEq,Int.reduceNe,Int.reduceLT,Int.reduceLE,false_or,and_self,false_implies,true_implies]
    all_goals exact kk
  · have go : J M_M_count 112 [some (.ref 90), some (.int (zI w))] [] (HM R rf lt lsz a0 ib sm pl lo nu kp ig im p0 tk ki tu pz tf tn tsz ga sd bb) Q := by
      refine w_M_count_112 ?_
      simp (disch := omega) only [cm_,aq_,ay_,af_,bm_,bc_,c0_,am_,ac_,b2_,bq_,ed_,a0_,ao_,az_,aw_,dw_,d6_,fl_,fn_,fh_,fu_,fz_,fq_,fk_,fr_,ft_,f0_,c5_,bd_,c3_,ct_,eb_,d5_,ch_,an_,fm_,Int.toNat_natCast,di_,dm_,dn_,er_,gv_,g3_,gu_,f4_,Int.add_zero,Int.zero_add,Int.ediv_one,Nat.reduceAdd,Nat.reduceMul,Int.reduceNeg,Nat.reduceLeDiff,List.length_cons,List.length_nil,true_and,and_true,Nat.zero_add,eq_self,Nat.reduceEqDiff,Int.reduceAdd,Int.reduceSub,Int.reduceMul,not_true_eq_false,not_false_eq_true,Nat.reduceLT,Int.reduceToNat,Int.reduceEq,Int.reduceNe,Int.reduceLT,Int.reduceLE,false_or,and_self,false_implies,true_implies]
      refine con_Min hw (by unfold inI; omega) (by unfold inI; omega) (fun c => ?_) (fun c => ?_)
      · rw [if_pos (by omega)] at kk
        simp (disch := omega) only [cm_,aq_,ay_,af_,bm_,bc_,c0_,am_,ac_,b2_,bq_,ed_,a0_,ao_,az_,aw_,dw_,d6_,fl_,fn_,fh_,fu_,fz_,fq_,fk_,fr_,ft_,f0_,c5_,bd_,c3_,ct_,eb_,d5_,ch_,an_,fm_,Int.toNat_natCast,di_,dm_,dn_,er_,gv_,g3_,gu_,f4_,Int.add_zero,Int.zero_add,Int.ediv_one,Nat.reduceAdd,Nat.reduceMul,Int.reduceNeg,Nat.reduceLeDiff,List.length_cons,List.length_nil,true_and,and_true,Nat.zero_add,eq_self,Nat.reduceEqDiff,Int.reduceAdd,Int.reduceSub,Int.reduceMul,not_true_eq_false,not_false_eq_true,Nat.reduceLT,Int.reduceToNat,Int.reduceEq,Int.reduceNe,Int.reduceLT,Int.reduceLE,false_or,and_self,false_implies,true_implies]
        refine ⟨by omega, ?_⟩
        refine w_M_count_140 ?_
        simp (disch := omega) only [cm_,aq_,ay_,af_,bm_,bc_,c0_,am_,ac_,b2_,bq_,ed_,a0_,ao_,az_,aw_,dw_,d6_,fl_,fn_,fh_,fu_,fz_,fq_,fk_,fr_,ft_,f0_,c5_,bd_,c3_,ct_,eb_,d5_,ch_,an_,fm_,Int.toNat_natCast,di_,dm_,dn_,er_,gv_,g3_,gu_,f4_,Int.add_zero,Int.zero_add,Int.ediv_one,Nat.reduceAdd,Nat.reduceMul,Int.reduceNeg,Nat.reduceLeDiff,List.length_cons,List.length_nil,true_and,and_true,Nat.zero_add,eq_self,Nat.reduceEqDiff,Int.reduceAdd,Int.reduceSub,Int.reduceMul,not_true_eq_false,not_false_eq_true,Nat.reduceLT,Int.reduceToNat,Int.reduceEq,Int.reduceNe,Int.reduceLT,Int.reduceLE,false_or,and_self,false_implies,true_implies]
        exact kk
      · rw [if_neg (by omega), if_neg (by omega), if_neg (by omega), if_neg (by omega), if_neg (by omega), if_neg (by omega), if_neg (by omega), if_neg (by omega), if_neg (by omega), if_neg (by omega), if_neg (by omega)] at kk
        simp (disch := omega) only [cm_,aq_,ay_,af_,bm_,bc_,c0_,am_,ac_,b2_,bq_,ed_,a0_,ao_,az_,aw_,dw_,d6_,fl_,fn_,fh_,fu_,fz_,fq_,fk_,fr_,ft_,f0_,c5_,bd_,c3_,ct_,eb_,d5_,ch_,an_,fm_,Int.toNat_natCast,di_,dm_,dn_,er_,gv_,g3_,gu_,f4_,Int.add_zero,Int.zero_add,Int.ediv_one,Nat.reduceAdd,Nat.reduceMul,Int.reduceNeg,Nat.reduceLeDiff,List.length_cons,List.length_nil,true_and,and_true,Nat.zero_add,eq_self,Nat.reduceEqDiff,Int.reduceAdd,Int.reduceSub,Int.reduceMul,not_true_eq_false,not_false_eq_true,Nat.reduceLT,Int.reduceToNat,Int.reduceEq,Int.reduceNe,Int.reduceLT,Int.reduceLE,false_or,and_self,false_implies,true_implies]
        refine w_M_count_138 ?_
        simp (disch := omega) only [cm_,aq_,ay_,af_,bm_,bc_,c0_,am_,ac_,b2_,bq_,ed_,a0_,ao_,az_,aw_,dw_,d6_,fl_,fn_,fh_,fu_,fz_,fq_,fk_,fr_,ft_,f0_,c5_,bd_,c3_,ct_,eb_,d5_,ch_,an_,fm_,Int.toNat_natCast,di_,dm_,dn_,er_,gv_,g3_,gu_,f4_,Int.add_zero,Int.zero_add,Int.ediv_one,Nat.reduceAdd,Nat.reduceMul,Int.reduceNeg,Nat.reduceLeDiff,List.length_cons,List.length_nil,true_and,and_true,Nat.zero_add,eq_self,Nat.reduceEqDiff,Int.reduceAdd,Int.reduceSub,Int.reduceMul,not_true_eq_false,not_false_eq_true,Nat.reduceLT,Int.reduceToNat,Int.reduceEq,Int.reduceNe,Int.reduceLT,Int.reduceLE,false_or,and_self,false_implies,true_implies]
        refine w_M_count_140 ?_
        simp (disch := omega) only [cm_,aq_,ay_,af_,bm_,bc_,c0_,am_,ac_,b2_,bq_,ed_,a0_,ao_,az_,aw_,dw_,d6_,fl_,fn_,fh_,fu_,fz_,fq_,fk_,fr_,ft_,f0_,c5_,bd_,c3_,ct_,eb_,d5_,ch_,an_,fm_,Int.toNat_natCast,di_,dm_,dn_,er_,gv_,g3_,gu_,f4_,Int.add_zero,Int.zero_add,Int.ediv_one,Nat.reduceAdd,Nat.reduceMul,Int.reduceNeg,Nat.reduceLeDiff,List.length_cons,List.length_nil,true_and,and_true,Nat.zero_add,eq_self,Nat.reduceEqDiff,Int.reduceAdd,Int.reduceSub,Int.reduceMul,not_true_eq_false,not_false_eq_true,Nat.reduceLT,Int.reduceToNat,Int.reduceEq,Int.reduceNe,Int.reduceLT,Int.reduceLE,false_or,and_self,false_implies,true_implies]
        exact kk
    simp (disch := omega) only [cm_,aq_,ay_,af_,bm_,bc_,c0_,am_,ac_,b2_,bq_,ed_,a0_,ao_,az_,aw_,dw_,d6_,fl_,fn_,fh_,fu_,fz_,fq_,fk_,fr_,ft_,f0_,c5_,bd_,c3_,ct_,eb_,d5_,ch_,an_,fm_,Int.toNat_natCast,di_,dm_,dn_,er_,gv_,g3_,gu_,f4_,Int.add_zero,Int.zero_add,Int.ediv_one,Nat.reduceAdd,Nat.reduceMul,Int.reduceNeg,Nat.reduceLeDiff,List.length_cons,List.length_nil,true_and,and_true,Nat.zero_add,eq_self,Nat.reduceEqDiff,Int.reduceAdd,Int.reduceSub,Int.reduceMul,not_true_eq_false,not_false_eq_true,Nat.reduceLT,Int.reduceToNat,Int.reduceEq,Int.reduceNe,Int.reduceLT,Int.reduceLE,false_or,and_self,false_implies,true_implies]
    repeat' (first | with_reducible refine And.intro ?_ ?_ | with_reducible intro _)
    all_goals first | omega | exact go
end E14
end
/-! heightM -/
section
/-! ===== the reference: heights ===== -/
section E15
variable {R : RR} {rf : Nat → Int} {lt : Nat → Int} {lsz : Int} {a0 : Int} {ib : Int} {sm : Int} {pl : Nat → Int} {lo : Nat → Int} {nu : Nat → Int} {kp : Nat → Int} {ig : Nat → Int} {hmg : Int} {p0 : Int} {tk : Int} {ki : Value} {tu : Nat → Int} {tz : Int} {tf : Nat → Int} {tn : Nat → Int} {tsz : Int} {ga : Nat → Int} {sd : Int} {bb : AH} {Q : Option Value → AH → Prop}
theorem con_MslopesLeft (hG : GR R) (hQ : Q (some (.int (zI (slAn (rSl R) (kgN R) (12 - kgN R))))) (HM R rf lt lsz a0 ib sm pl lo nu kp ig hmg p0 tk ki tu tz tf tn tsz ga sd bb)) : Con M_M_slopesLeft [.ref 90] (HM R rf lt lsz a0 ib sm pl lo nu kp ig hmg p0 tk ki tu tz tf tn tsz ga sd bb) Q := by
  have kg := hG.kg
  refine g8_ (L := [some (.ref 90), none, none]) ok_M_slopesLeft (Nat.le_of_ble_eq_true rfl) rfl ?_
  refine w_M_slopesLeft_0 ?_
  simp (disch := omega) only [cm_,aq_,ay_,ag_,b8_,af_,ba_,am_,ac_,bq_,bs_,ao_,az_,dw_,d6_,ea_,d3_,b5_,b1_,fh_,fu_,fp_,fz_,fq_,fk_,ft_,f0_,c5_,bd_,cx_,cr_,cf_,an_,fv_,d1_,Int.toNat_natCast,f3_,di_,dm_,dn_,gv_,g1_,g4_,f4_,Int.add_zero,Int.zero_add,Int.ediv_one,Nat.reduceAdd,Nat.reduceMul,Int.reduceNeg,Nat.reduceLeDiff,List.length_cons,List.length_nil,true_and,Nat.zero_add,eq_self,Nat.reduceEqDiff,Int.reduceAdd,Int.reduceSub,Int.reduceMul,not_false_eq_true,Nat.reduceLT,Int.reduceToNat,Int.reduceEq,Int.reduceNe,Int.reduceLT,Int.reduceLE,and_self,and_false,false_and]
  have loop : ∀ n i : Nat, i + n = 12 → ∀ z, z + slAn (rSl R) i n = slAn (rSl R) (kgN R) (12 - kgN R) → J M_M_slopesLeft 7 [some (.ref 90), some (.int (zI z)), some (.int (zI i))] [] (HM R rf lt lsz a0 ib sm pl lo nu kp ig hmg p0 tk ki tu tz tf tn tsz ga sd bb) Q := by
    intro n
    induction n with
    | zero =>
      intro i hi z hz
      simp only [slAn, Int.add_zero] at hz
      refine w_M_slopesLeft_7 ?_
      simp (disch := omega) only [cm_,aq_,ay_,ag_,b8_,af_,ba_,am_,ac_,bq_,bs_,ao_,az_,dw_,d6_,ea_,d3_,b5_,b1_,fh_,fu_,fp_,fz_,fq_,fk_,ft_,f0_,c5_,bd_,cx_,cr_,cf_,an_,fv_,d1_,Int.toNat_natCast,f3_,di_,dm_,dn_,gv_,g1_,g4_,f4_,Int.add_zero,Int.zero_add,Int.ediv_one,Nat.reduceAdd,Nat.reduceMul,Int.reduceNeg,Nat.reduceLeDiff,List.length_cons,List.length_nil,true_and,Nat.zero_add,eq_self,Nat.reduceEqDiff,Int.reduceAdd,Int.reduceSub,Int.reduceMul,not_false_eq_true,Nat.reduceLT,Int.reduceToNat,Int.reduceEq,Int.reduceNe,Int.reduceLT,Int.reduceLE,and_self,and_false,false_and]
      refine ⟨fun _ => ?_, fun q => by omega⟩
      refine w_M_slopesLeft_28 ?_
      simp (disch := omega) only [cm_,aq_,ay_,ag_,b8_,af_,ba_,am_,ac_,bq_,bs_,ao_,az_,dw_,d6_,ea_,d3_,b5_,b1_,fh_,fu_,fp_,fz_,fq_,fk_,ft_,f0_,c5_,bd_,cx_,cr_,cf_,an_,fv_,d1_,Int.toNat_natCast,f3_,di_,dm_,dn_,gv_,g1_,g4_,f4_,Int.add_zero,Int.zero_add,Int.ediv_one,Nat.reduceAdd,Nat.reduceMul,Int.reduceNeg,Nat.reduceLeDiff,List.length_cons,List.length_nil,true_and,Nat.zero_add,eq_self,Nat.reduceEqDiff,Int.reduceAdd,Int.reduceSub,Int.reduceMul,not_false_eq_true,Nat.reduceLT,Int.reduceToNat,Int.reduceEq,Int.reduceNe,Int.reduceLT,Int.reduceLE,and_self,and_false,false_and]
      rw [hz]
      exact hQ
    | succ n ih =>
      intro i hi z hz
      simp only [slAn] at hz
      have step := ih (i + 1) (by omega) (z + rSl R i) (by omega)
      refine w_M_slopesLeft_7 ?_
      simp (disch := omega) only [cm_,aq_,ay_,ag_,b8_,af_,ba_,am_,ac_,bq_,bs_,ao_,az_,dw_,d6_,ea_,d3_,b5_,b1_,fh_,fu_,fp_,fz_,fq_,fk_,ft_,f0_,c5_,bd_,cx_,cr_,cf_,an_,fv_,d1_,Int.toNat_natCast,f3_,di_,dm_,dn_,gv_,g1_,g4_,f4_,Int.add_zero,Int.zero_add,Int.ediv_one,Nat.reduceAdd,Nat.reduceMul,Int.reduceNeg,Nat.reduceLeDiff,List.length_cons,List.length_nil,true_and,Nat.zero_add,eq_self,Nat.reduceEqDiff,Int.reduceAdd,Int.reduceSub,Int.reduceMul,not_false_eq_true,Nat.reduceLT,Int.reduceToNat,Int.reduceEq,Int.reduceNe,Int.reduceLT,Int.reduceLE,and_self,and_false,false_and]
      refine ⟨fun q => by omega, fun _ => ?_⟩
      exact ⟨by omega, step⟩
  have l0 := loop (12 - kgN R) (kgN R) (by omega) 0 (by omega)
  rw [kg.1] at l0
  exact l0
theorem con_MallBear (hG : GR R) (hQ : Q (some (.int (zI (stN R (mask (isF R 1) (hb_ R)) 8)))) (HM R rf lt lsz a0 ib sm pl lo nu kp ig hmg p0 tk ki tu tz tf tn tsz ga sd bb)) : Con M_M_allBear [.ref 90] (HM R rf lt lsz a0 ib sm pl lo nu kp ig hmg p0 tk ki tu tz tf tn tsz ga sd bb) Q := by
  have gm := hG.men
  have gn := hG.nM
  have bt : ∀ i, (mask (isF R 1) (hb_ R)).testBit i = (decide (i < hb_ R) && isF R 1 i) := fun i => mask_bit _ _ _
  have stop : ∀ j, stN R (mask (isF R 1) (hb_ R)) (hb_ R + j) = stN R (mask (isF R 1) (hb_ R)) (hb_ R) := by
    intro j
    induction j with
    | zero => rfl
    | succ j ih =>
      rw [← Nat.add_assoc]
      simp only [stN]
      rw [if_neg (by rw [bt, decide_eq_false (by omega)]; simp), ih]
  have st := stop (8 - hb_ R)
  rw [show hb_ R + (8 - hb_ R) = 8 by omega] at st
  rw [st] at hQ
  refine g8_ (L := [some (.ref 90), none, none]) ok_M_allBear (Nat.le_of_ble_eq_true rfl) rfl ?_
  refine w_M_allBear_0 ?_
  simp (disch := omega) only [cm_,aq_,ay_,ag_,b8_,af_,ba_,am_,ac_,bq_,bs_,ao_,az_,dw_,d6_,ea_,d3_,b5_,b1_,fh_,fu_,fp_,fz_,fq_,fk_,ft_,f0_,c5_,bd_,cx_,cr_,cf_,an_,fv_,d1_,Int.toNat_natCast,f3_,di_,dm_,dn_,gv_,g1_,g4_,f4_,Int.add_zero,Int.zero_add,Int.ediv_one,Nat.reduceAdd,Nat.reduceMul,Int.reduceNeg,Nat.reduceLeDiff,List.length_cons,List.length_nil,true_and,Nat.zero_add,eq_self,Nat.reduceEqDiff,Int.reduceAdd,Int.reduceSub,Int.reduceMul,not_false_eq_true,Nat.reduceLT,Int.reduceToNat,Int.reduceEq,Int.reduceNe,Int.reduceLT,Int.reduceLE,and_self,and_false,false_and]
  have loop : ∀ n i : Nat, i + n = hb_ R → J M_M_allBear 4 [some (.ref 90), some (.int (zI (stN R (mask (isF R 1) (hb_ R)) i))), some (.int (zI i))] [] (HM R rf lt lsz a0 ib sm pl lo nu kp ig hmg p0 tk ki tu tz tf tn tsz ga sd bb) Q := by
    intro n
    induction n with
    | zero =>
      intro i hi
      have e : i = hb_ R := by omega
      subst e
      refine w_M_allBear_4 ?_
      simp (disch := omega) only [cm_,aq_,ay_,ag_,b8_,af_,ba_,am_,ac_,bq_,bs_,ao_,az_,dw_,d6_,ea_,d3_,b5_,b1_,fh_,fu_,fp_,fz_,fq_,fk_,ft_,f0_,c5_,bd_,cx_,cr_,cf_,an_,fv_,d1_,Int.toNat_natCast,f3_,di_,dm_,dn_,gv_,g1_,g4_,f4_,Int.add_zero,Int.zero_add,Int.ediv_one,Nat.reduceAdd,Nat.reduceMul,Int.reduceNeg,Nat.reduceLeDiff,List.length_cons,List.length_nil,true_and,Nat.zero_add,eq_self,Nat.reduceEqDiff,Int.reduceAdd,Int.reduceSub,Int.reduceMul,not_false_eq_true,Nat.reduceLT,Int.reduceToNat,Int.reduceEq,Int.reduceNe,Int.reduceLT,Int.reduceLE,and_self,and_false,false_and]
      refine ⟨fun _ => ?_, fun q => by omega⟩
      refine w_M_allBear_40 ?_
      simp (disch := omega) only [cm_,aq_,ay_,ag_,b8_,af_,ba_,am_,ac_,bq_,bs_,ao_,az_,dw_,d6_,ea_,d3_,b5_,b1_,fh_,fu_,fp_,fz_,fq_,fk_,ft_,f0_,c5_,bd_,cx_,cr_,cf_,an_,fv_,d1_,Int.toNat_natCast,f3_,di_,dm_,dn_,gv_,g1_,g4_,f4_,Int.add_zero,Int.zero_add,Int.ediv_one,Nat.reduceAdd,Nat.reduceMul,Int.reduceNeg,Nat.reduceLeDiff,List.length_cons,List.length_nil,true_and,Nat.zero_add,eq_self,Nat.reduceEqDiff,Int.reduceAdd,Int.reduceSub,Int.reduceMul,not_false_eq_true,Nat.reduceLT,Int.reduceToNat,Int.reduceEq,Int.reduceNe,Int.reduceLT,Int.reduceLE,and_self,and_false,false_and]
      exact hQ
    | succ n ih =>
      intro i hi
      have step := ih (i + 1) (by omega)
      have gf := hG.fa i
      simp only [stN] at step
      refine w_M_allBear_4 ?_
      simp (disch := omega) only [cm_,aq_,ay_,ag_,b8_,af_,ba_,am_,ac_,bq_,bs_,ao_,az_,dw_,d6_,ea_,d3_,b5_,b1_,fh_,fu_,fp_,fz_,fq_,fk_,ft_,f0_,c5_,bd_,cx_,cr_,cf_,an_,fv_,d1_,Int.toNat_natCast,f3_,di_,dm_,dn_,gv_,g1_,g4_,f4_,Int.add_zero,Int.zero_add,Int.ediv_one,Nat.reduceAdd,Nat.reduceMul,Int.reduceNeg,Nat.reduceLeDiff,List.length_cons,List.length_nil,true_and,Nat.zero_add,eq_self,Nat.reduceEqDiff,Int.reduceAdd,Int.reduceSub,Int.reduceMul,not_false_eq_true,Nat.reduceLT,Int.reduceToNat,Int.reduceEq,Int.reduceNe,Int.reduceLT,Int.reduceLE,and_self,and_false,false_and]
      refine ⟨fun q => by omega, fun _ => ⟨by omega, fun c => ?_, fun c => ?_⟩⟩
      · rw [if_neg (by rw [bt]; simp [isF, c])] at step
        refine w_M_allBear_31 ?_
        simp (disch := omega) only [cm_,aq_,ay_,ag_,b8_,af_,ba_,am_,ac_,bq_,bs_,ao_,az_,dw_,d6_,ea_,d3_,b5_,b1_,fh_,fu_,fp_,fz_,fq_,fk_,ft_,f0_,c5_,bd_,cx_,cr_,cf_,an_,fv_,d1_,Int.toNat_natCast,f3_,di_,dm_,dn_,gv_,g1_,g4_,f4_,Int.add_zero,Int.zero_add,Int.ediv_one,Nat.reduceAdd,Nat.reduceMul,Int.reduceNeg,Nat.reduceLeDiff,List.length_cons,List.length_nil,true_and,Nat.zero_add,eq_self,Nat.reduceEqDiff,Int.reduceAdd,Int.reduceSub,Int.reduceMul,not_false_eq_true,Nat.reduceLT,Int.reduceToNat,Int.reduceEq,Int.reduceNe,Int.reduceLT,Int.reduceLE,and_self,and_false,false_and]
        refine w_M_allBear_32 ?_
        simp (disch := omega) only [cm_,aq_,ay_,ag_,b8_,af_,ba_,am_,ac_,bq_,bs_,ao_,az_,dw_,d6_,ea_,d3_,b5_,b1_,fh_,fu_,fp_,fz_,fq_,fk_,ft_,f0_,c5_,bd_,cx_,cr_,cf_,an_,fv_,d1_,Int.toNat_natCast,f3_,di_,dm_,dn_,gv_,g1_,g4_,f4_,Int.add_zero,Int.zero_add,Int.ediv_one,Nat.reduceAdd,Nat.reduceMul,Int.reduceNeg,Nat.reduceLeDiff,List.length_cons,List.length_nil,true_and,Nat.zero_add,eq_self,Nat.reduceEqDiff,Int.reduceAdd,Int.reduceSub,Int.reduceMul,not_false_eq_true,Nat.reduceLT,Int.reduceToNat,Int.reduceEq,Int.reduceNe,Int.reduceLT,Int.reduceLE,and_self,and_false,false_and]
        exact step
      · have c' : rFa R i = 1 := by omega
        rw [if_pos (by rw [bt, decide_eq_true (show i < hb_ R by omega)]; simp [isF, c'])] at step
        refine con_MbearsOf (by omega) hG ?_
        simp (disch := omega) only [cm_,aq_,ay_,ag_,b8_,af_,ba_,am_,ac_,bq_,bs_,ao_,az_,dw_,d6_,ea_,d3_,b5_,b1_,fh_,fu_,fp_,fz_,fq_,fk_,ft_,f0_,c5_,bd_,cx_,cr_,cf_,an_,fv_,d1_,Int.toNat_natCast,f3_,di_,dm_,dn_,gv_,g1_,g4_,f4_,Int.add_zero,Int.zero_add,Int.ediv_one,Nat.reduceAdd,Nat.reduceMul,Int.reduceNeg,Nat.reduceLeDiff,List.length_cons,List.length_nil,true_and,Nat.zero_add,eq_self,Nat.reduceEqDiff,Int.reduceAdd,Int.reduceSub,Int.reduceMul,not_false_eq_true,Nat.reduceLT,Int.reduceToNat,Int.reduceEq,Int.reduceNe,Int.reduceLT,Int.reduceLE,and_self,and_false,false_and]
        refine w_M_allBear_32 ?_
        simp (disch := omega) only [cm_,aq_,ay_,ag_,b8_,af_,ba_,am_,ac_,bq_,bs_,ao_,az_,dw_,d6_,ea_,d3_,b5_,b1_,fh_,fu_,fp_,fz_,fq_,fk_,ft_,f0_,c5_,bd_,cx_,cr_,cf_,an_,fv_,d1_,Int.toNat_natCast,f3_,di_,dm_,dn_,gv_,g1_,g4_,f4_,Int.add_zero,Int.zero_add,Int.ediv_one,Nat.reduceAdd,Nat.reduceMul,Int.reduceNeg,Nat.reduceLeDiff,List.length_cons,List.length_nil,true_and,Nat.zero_add,eq_self,Nat.reduceEqDiff,Int.reduceAdd,Int.reduceSub,Int.reduceMul,not_false_eq_true,Nat.reduceLT,Int.reduceToNat,Int.reduceEq,Int.reduceNe,Int.reduceLT,Int.reduceLE,and_self,and_false,false_and]
        exact step
  exact loop _ 0 (Nat.zero_add _)
end E15
end
/-! heightM -/
section
/-! ===== the reference: heights, told ===== -/
section E16
variable {R : RR} {rf : Nat → Int} {lt : Nat → Int} {lsz : Int} {a0 : Int} {ib : Int} {sm : Int} {pl : Nat → Int} {lo : Nat → Int} {nu : Nat → Int} {kp : Nat → Int} {ig : Nat → Int} {hmg : Int} {p0 : Int} {tk : Int} {ki : Value} {tu : Nat → Int} {tz : Int} {tf : Nat → Int} {tn : Nat → Int} {tsz : Int} {ga : Nat → Int} {sd : Int} {bb : AH} {Q : Option Value → AH → Prop}
theorem con_MstuckAt (hG : GR R) (hQ : Q (some (.int (zI (ftsN R (stN R (mask (isF R 1) (hb_ R)) 8) (kgN R) (12 - kgN R))))) (HM R rf lt lsz a0 ib sm pl lo nu kp ig hmg p0 tk ki tu tz tf tn tsz ga sd bb)) : Con M_M_stuckAt [.ref 90] (HM R rf lt lsz a0 ib sm pl lo nu kp ig hmg p0 tk ki tu tz tf tn tsz ga sd bb) Q := by
  have kg := hG.kg
  have gl := hG.load
  have gb := stN_rng hG (mask (isF R 1) (hb_ R)) 8
  refine g8_ (L := [some (.ref 90), none, none]) ok_M_stuckAt (Nat.le_of_ble_eq_true rfl) rfl ?_
  refine w_M_stuckAt_0 ?_
  simp (disch := omega) only [cm_,aq_,ay_,ag_,b8_,af_,ba_,am_,ac_,bq_,bs_,ao_,a2_,dw_,d6_,ea_,d3_,b5_,b1_,fh_,fu_,fp_,fz_,fq_,fk_,ft_,f0_,c5_,bd_,co_,cr_,cf_,an_,d1_,Int.toNat_natCast,di_,dm_,dn_,gv_,g1_,f4_,Int.add_zero,Int.zero_add,Int.ediv_one,Nat.reduceAdd,Nat.reduceMul,Int.reduceNeg,Nat.reduceLeDiff,List.length_cons,List.length_nil,true_and,Nat.zero_add,eq_self,Nat.reduceEqDiff,Int.reduceAdd,Int.reduceSub,Int.reduceMul,Nat.reduceLT,Int.reduceToNat,Int.reduceEq,Int.reduceNe,Int.reduceLT,Int.reduceLE]
  have loop : ∀ n i : Nat, i + n = 12 → kgN R ≤ i → ∀ z : Int, z = ftsN R (stN R (mask (isF R 1) (hb_ R)) 8) i n → J M_M_stuckAt 6 [some (.ref 90), some (.int (zI z)), some (.int (zI ((i : Int) - 1)))] [] (HM R rf lt lsz a0 ib sm pl lo nu kp ig hmg p0 tk ki tu tz tf tn tsz ga sd bb) Q := by
    intro n i
    induction i generalizing n with
    | zero =>
      intro hi hk z hz
      have e : kgN R = 0 := by omega
      rw [e] at hQ
      rw [show n = 12 - 0 by omega] at hz
      refine w_M_stuckAt_6 ?_
      simp (disch := omega) only [cm_,aq_,ay_,ag_,b8_,af_,ba_,am_,ac_,bq_,bs_,ao_,a2_,dw_,d6_,ea_,d3_,b5_,b1_,fh_,fu_,fp_,fz_,fq_,fk_,ft_,f0_,c5_,bd_,co_,cr_,cf_,an_,d1_,Int.toNat_natCast,di_,dm_,dn_,gv_,g1_,f4_,Int.add_zero,Int.zero_add,Int.ediv_one,Nat.reduceAdd,Nat.reduceMul,Int.reduceNeg,Nat.reduceLeDiff,List.length_cons,List.length_nil,true_and,Nat.zero_add,eq_self,Nat.reduceEqDiff,Int.reduceAdd,Int.reduceSub,Int.reduceMul,Nat.reduceLT,Int.reduceToNat,Int.reduceEq,Int.reduceNe,Int.reduceLT,Int.reduceLE]
      refine ⟨fun _ => ?_, fun q => by omega⟩
      refine w_M_stuckAt_44 ?_
      simp (disch := omega) only [cm_,aq_,ay_,ag_,b8_,af_,ba_,am_,ac_,bq_,bs_,ao_,a2_,dw_,d6_,ea_,d3_,b5_,b1_,fh_,fu_,fp_,fz_,fq_,fk_,ft_,f0_,c5_,bd_,co_,cr_,cf_,an_,d1_,Int.toNat_natCast,di_,dm_,dn_,gv_,g1_,f4_,Int.add_zero,Int.zero_add,Int.ediv_one,Nat.reduceAdd,Nat.reduceMul,Int.reduceNeg,Nat.reduceLeDiff,List.length_cons,List.length_nil,true_and,Nat.zero_add,eq_self,Nat.reduceEqDiff,Int.reduceAdd,Int.reduceSub,Int.reduceMul,Nat.reduceLT,Int.reduceToNat,Int.reduceEq,Int.reduceNe,Int.reduceLT,Int.reduceLE]
      rw [hz]
      exact hQ
    | succ i ih =>
      intro hi hk z hz
      have gs := hG.sl i
      have e : ((i + 1 : Nat) : Int) - 1 = (i : Int) := by omega
      have e2 : (i : Int) + -1 = (i : Int) - 1 := by omega
      rcases Nat.lt_or_ge i (kgN R) with q | q
      · have e3 : kgN R = i + 1 := by omega
        rw [e3, show 12 - (i + 1) = n by omega] at hQ
        refine w_M_stuckAt_6 ?_
        simp (disch := omega) only [cm_,aq_,ay_,ag_,b8_,af_,ba_,am_,ac_,bq_,bs_,ao_,a2_,dw_,d6_,ea_,d3_,b5_,b1_,fh_,fu_,fp_,fz_,fq_,fk_,ft_,f0_,c5_,bd_,co_,cr_,cf_,an_,d1_,Int.toNat_natCast,di_,dm_,dn_,gv_,g1_,f4_,Int.add_zero,Int.zero_add,Int.ediv_one,Nat.reduceAdd,Nat.reduceMul,Int.reduceNeg,Nat.reduceLeDiff,List.length_cons,List.length_nil,true_and,Nat.zero_add,eq_self,Nat.reduceEqDiff,Int.reduceAdd,Int.reduceSub,Int.reduceMul,Nat.reduceLT,Int.reduceToNat,Int.reduceEq,Int.reduceNe,Int.reduceLT,Int.reduceLE,e]
        refine ⟨fun _ => ?_, fun q => by omega⟩
        refine w_M_stuckAt_44 ?_
        simp (disch := omega) only [cm_,aq_,ay_,ag_,b8_,af_,ba_,am_,ac_,bq_,bs_,ao_,a2_,dw_,d6_,ea_,d3_,b5_,b1_,fh_,fu_,fp_,fz_,fq_,fk_,ft_,f0_,c5_,bd_,co_,cr_,cf_,an_,d1_,Int.toNat_natCast,di_,dm_,dn_,gv_,g1_,f4_,Int.add_zero,Int.zero_add,Int.ediv_one,Nat.reduceAdd,Nat.reduceMul,Int.reduceNeg,Nat.reduceLeDiff,List.length_cons,List.length_nil,true_and,Nat.zero_add,eq_self,Nat.reduceEqDiff,Int.reduceAdd,Int.reduceSub,Int.reduceMul,Nat.reduceLT,Int.reduceToNat,Int.reduceEq,Int.reduceNe,Int.reduceLT,Int.reduceLE]
        rw [hz]
        exact hQ
      · have step := ih (n + 1) (by omega) q
        simp only [ftsN] at step
        refine w_M_stuckAt_6 ?_
        simp (disch := omega) only [cm_,aq_,ay_,ag_,b8_,af_,ba_,am_,ac_,bq_,bs_,ao_,a2_,dw_,d6_,ea_,d3_,b5_,b1_,fh_,fu_,fp_,fz_,fq_,fk_,ft_,f0_,c5_,bd_,co_,cr_,cf_,an_,d1_,Int.toNat_natCast,di_,dm_,dn_,gv_,g1_,f4_,Int.add_zero,Int.zero_add,Int.ediv_one,Nat.reduceAdd,Nat.reduceMul,Int.reduceNeg,Nat.reduceLeDiff,List.length_cons,List.length_nil,true_and,Nat.zero_add,eq_self,Nat.reduceEqDiff,Int.reduceAdd,Int.reduceSub,Int.reduceMul,Nat.reduceLT,Int.reduceToNat,Int.reduceEq,Int.reduceNe,Int.reduceLT,Int.reduceLE,e]
        refine ⟨fun _ => by omega, fun _ => ?_⟩
        refine con_MallBear hG ?_
        simp (disch := omega) only [cm_,aq_,ay_,ag_,b8_,af_,ba_,am_,ac_,bq_,bs_,ao_,a2_,dw_,d6_,ea_,d3_,b5_,b1_,fh_,fu_,fp_,fz_,fq_,fk_,ft_,f0_,c5_,bd_,co_,cr_,cf_,an_,d1_,Int.toNat_natCast,di_,dm_,dn_,gv_,g1_,f4_,Int.add_zero,Int.zero_add,Int.ediv_one,Nat.reduceAdd,Nat.reduceMul,Int.reduceNeg,Nat.reduceLeDiff,List.length_cons,List.length_nil,true_and,Nat.zero_add,eq_self,Nat.reduceEqDiff,Int.reduceAdd,Int.reduceSub,Int.reduceMul,Nat.reduceLT,Int.reduceToNat,Int.reduceEq,Int.reduceNe,Int.reduceLT,Int.reduceLE]
        refine ⟨by omega, fun c => ?_, fun c => ?_⟩
        · refine w_M_stuckAt_36 ?_
          simp (disch := omega) only [cm_,aq_,ay_,ag_,b8_,af_,ba_,am_,ac_,bq_,bs_,ao_,a2_,dw_,d6_,ea_,d3_,b5_,b1_,fh_,fu_,fp_,fz_,fq_,fk_,ft_,f0_,c5_,bd_,co_,cr_,cf_,an_,d1_,Int.toNat_natCast,di_,dm_,dn_,gv_,g1_,f4_,Int.add_zero,Int.zero_add,Int.ediv_one,Nat.reduceAdd,Nat.reduceMul,Int.reduceNeg,Nat.reduceLeDiff,List.length_cons,List.length_nil,true_and,Nat.zero_add,eq_self,Nat.reduceEqDiff,Int.reduceAdd,Int.reduceSub,Int.reduceMul,Nat.reduceLT,Int.reduceToNat,Int.reduceEq,Int.reduceNe,Int.reduceLT,Int.reduceLE]
          refine w_M_stuckAt_37 ?_
          simp (disch := omega) only [cm_,aq_,ay_,ag_,b8_,af_,ba_,am_,ac_,bq_,bs_,ao_,a2_,dw_,d6_,ea_,d3_,b5_,b1_,fh_,fu_,fp_,fz_,fq_,fk_,ft_,f0_,c5_,bd_,co_,cr_,cf_,an_,d1_,Int.toNat_natCast,di_,dm_,dn_,gv_,g1_,f4_,Int.add_zero,Int.zero_add,Int.ediv_one,Nat.reduceAdd,Nat.reduceMul,Int.reduceNeg,Nat.reduceLeDiff,List.length_cons,List.length_nil,true_and,Nat.zero_add,eq_self,Nat.reduceEqDiff,Int.reduceAdd,Int.reduceSub,Int.reduceMul,Nat.reduceLT,Int.reduceToNat,Int.reduceEq,Int.reduceNe,Int.reduceLT,Int.reduceLE,e2]
          exact step z (by rw [if_neg (by omega)]; exact hz)
        · refine w_M_stuckAt_37 ?_
          simp (disch := omega) only [cm_,aq_,ay_,ag_,b8_,af_,ba_,am_,ac_,bq_,bs_,ao_,a2_,dw_,d6_,ea_,d3_,b5_,b1_,fh_,fu_,fp_,fz_,fq_,fk_,ft_,f0_,c5_,bd_,co_,cr_,cf_,an_,d1_,Int.toNat_natCast,di_,dm_,dn_,gv_,g1_,f4_,Int.add_zero,Int.zero_add,Int.ediv_one,Nat.reduceAdd,Nat.reduceMul,Int.reduceNeg,Nat.reduceLeDiff,List.length_cons,List.length_nil,true_and,Nat.zero_add,eq_self,Nat.reduceEqDiff,Int.reduceAdd,Int.reduceSub,Int.reduceMul,Nat.reduceLT,Int.reduceToNat,Int.reduceEq,Int.reduceNe,Int.reduceLT,Int.reduceLE,e2]
          exact step _ (by rw [if_pos (by omega)])
  exact loop 0 12 rfl (by omega) (-9) rfl
end E16
end
/-! heightM -/
section
/-! ===== the reference: heights told ===== -/
section E17
variable {R I : RR} {im : Int} {P : Nat → RR} {pz : Int} {lt : Nat → Int} {lsz : Int} {tn : Nat → Int} {tsz : Int} {rf : Nat → Int} {bb h : AH} {Q : Option Value → AH → Prop}
theorem M_height {w : Int} (hw : inI w) (hI : GI R)  (W : (MW R I im P pz lt lsz tn tsz rf bb h))
    (r2 : ¬ (0 ≤ w ∧ w ≤ 2) → ∀ h, (MW R I im P pz lt lsz tn tsz (rfU rf 2) bb h) → Q (some (.int (zI (-2)))) h)
    (ok : (0 ≤ w ∧ w ≤ 2) → ∀ h, (MW R I im P pz lt lsz tn tsz rf bb h) → Q (some (.int (zI (heightA R w)))) h) : Con M_M_height [.ref 90, .int (zI w)] h Q := by
  obtain ⟨a0, ib, sm, pl, lo, nu, kp, ig, p0, tk, ki, tu, tf, ga, sd, rfl, hIg, hTu, hPz⟩ := W
  obtain ⟨w1, w2⟩ := id hw
  have hG := hI.1
  have k2 := fun q => r2 q _ ⟨a0, ib, sm, pl, lo, nu, kp, ig, p0, tk, ki, tu, tf, ga, sd, rfl, hIg, hTu, hPz⟩
  refine g8_ (L := [some (.ref 90), some (.int (zI w))]) ok_M_height (Nat.le_of_ble_eq_true rfl) rfl ?_
  refine w_M_height_0 ?_
  by_cases cw : 0 ≤ w ∧ w ≤ 2
  · have ok := ok cw
    simp only [heightA] at ok
    have : w = 0 ∨ w = 1 ∨ w = 2 := by omega
    rcases this with rfl | rfl | rfl
    all_goals simp only [Int.reduceEq, if_true, if_false] at ok
    all_goals simp (disch := omega) only [aq_,ay_,af_,b2_,a0_,ao_,a2_,az_,dw_,d6_,fl_,fn_,fh_,fu_,fr_,f0_,c5_,bd_,c3_,eb_,d5_,an_,Int.toNat_natCast,di_,dm_,dn_,gv_,gu_,f4_,Int.add_zero,Int.zero_add,Int.ediv_one,Nat.reduceAdd,Nat.reduceMul,Int.reduceNeg,Nat.reduceLeDiff,List.length_cons,List.length_nil,true_and,and_true,Nat.zero_add,eq_self,Nat.reduceEqDiff,Int.reduceAdd,Int.reduceSub,Int.reduceMul,Nat.reduceLT,Int.reduceToNat,Int.reduceEq,Int.reduceNe,Int.reduceLT,Int.reduceLE,false_or,and_self,false_implies,true_implies]
    all_goals first | refine ⟨?_, fun q => absurd q (by omega)⟩ | skip
    · refine w_M_height_32 ?_
      simp (disch := omega) only [aq_,ay_,af_,b2_,a0_,ao_,a2_,az_,dw_,d6_,fl_,fn_,fh_,fu_,fr_,f0_,c5_,bd_,c3_,eb_,d5_,an_,Int.toNat_natCast,di_,dm_,dn_,gv_,gu_,f4_,Int.add_zero,Int.zero_add,Int.ediv_one,Nat.reduceAdd,Nat.reduceMul,Int.reduceNeg,Nat.reduceLeDiff,List.length_cons,List.length_nil,true_and,and_true,Nat.zero_add,eq_self,Nat.reduceEqDiff,Int.reduceAdd,Int.reduceSub,Int.reduceMul,Nat.reduceLT,Int.reduceToNat,Int.reduceEq,Int.reduceNe,Int.reduceLT,Int.reduceLE,false_or,and_self,false_implies,true_implies]
      refine con_MslopesLeft hG ?_
      simp (disch := omega) only [aq_,ay_,af_,b2_,a0_,ao_,a2_,az_,dw_,d6_,fl_,fn_,fh_,fu_,fr_,f0_,c5_,bd_,c3_,eb_,d5_,an_,Int.toNat_natCast,di_,dm_,dn_,gv_,gu_,f4_,Int.add_zero,Int.zero_add,Int.ediv_one,Nat.reduceAdd,Nat.reduceMul,Int.reduceNeg,Nat.reduceLeDiff,List.length_cons,List.length_nil,true_and,and_true,Nat.zero_add,eq_self,Nat.reduceEqDiff,Int.reduceAdd,Int.reduceSub,Int.reduceMul,Nat.reduceLT,Int.reduceToNat,Int.reduceEq,Int.reduceNe,Int.reduceLT,Int.reduceLE,false_or,and_self,false_implies,true_implies]
      exact ok _ ⟨_, _, _, _, _, _, _, _, _, _, _, _, _, _, _, rfl, hIg, hTu, hPz⟩
    · refine w_M_height_37 ?_
      simp (disch := omega) only [aq_,ay_,af_,b2_,a0_,ao_,a2_,az_,dw_,d6_,fl_,fn_,fh_,fu_,fr_,f0_,c5_,bd_,c3_,eb_,d5_,an_,Int.toNat_natCast,di_,dm_,dn_,gv_,gu_,f4_,Int.add_zero,Int.zero_add,Int.ediv_one,Nat.reduceAdd,Nat.reduceMul,Int.reduceNeg,Nat.reduceLeDiff,List.length_cons,List.length_nil,true_and,and_true,Nat.zero_add,eq_self,Nat.reduceEqDiff,Int.reduceAdd,Int.reduceSub,Int.reduceMul,Nat.reduceLT,Int.reduceToNat,Int.reduceEq,Int.reduceNe,Int.reduceLT,Int.reduceLE,false_or,and_self,false_implies,true_implies]
      refine con_MstuckAt hG ?_
      simp (disch := omega) only [aq_,ay_,af_,b2_,a0_,ao_,a2_,az_,dw_,d6_,fl_,fn_,fh_,fu_,fr_,f0_,c5_,bd_,c3_,eb_,d5_,an_,Int.toNat_natCast,di_,dm_,dn_,gv_,gu_,f4_,Int.add_zero,Int.zero_add,Int.ediv_one,Nat.reduceAdd,Nat.reduceMul,Int.reduceNeg,Nat.reduceLeDiff,List.length_cons,List.length_nil,true_and,and_true,Nat.zero_add,eq_self,Nat.reduceEqDiff,Int.reduceAdd,Int.reduceSub,Int.reduceMul,Nat.reduceLT,Int.reduceToNat,Int.reduceEq,Int.reduceNe,Int.reduceLT,Int.reduceLE,false_or,and_self,false_implies,true_implies]
      exact ok _ ⟨_, _, _, _, _, _, _, _, _, _, _, _, _, _, _, rfl, hIg, hTu, hPz⟩
    · refine w_M_height_42 ?_
      simp (disch := omega) only [aq_,ay_,af_,b2_,a0_,ao_,a2_,az_,dw_,d6_,fl_,fn_,fh_,fu_,fr_,f0_,c5_,bd_,c3_,eb_,d5_,an_,Int.toNat_natCast,di_,dm_,dn_,gv_,gu_,f4_,Int.add_zero,Int.zero_add,Int.ediv_one,Nat.reduceAdd,Nat.reduceMul,Int.reduceNeg,Nat.reduceLeDiff,List.length_cons,List.length_nil,true_and,and_true,Nat.zero_add,eq_self,Nat.reduceEqDiff,Int.reduceAdd,Int.reduceSub,Int.reduceMul,Nat.reduceLT,Int.reduceToNat,Int.reduceEq,Int.reduceNe,Int.reduceLT,Int.reduceLE,false_or,and_self,false_implies,true_implies]
      refine con_MlameDays hI (fun x tk ki => ?_)
      simp (disch := omega) only [aq_,ay_,af_,b2_,a0_,ao_,a2_,az_,dw_,d6_,fl_,fn_,fh_,fu_,fr_,f0_,c5_,bd_,c3_,eb_,d5_,an_,Int.toNat_natCast,di_,dm_,dn_,gv_,gu_,f4_,Int.add_zero,Int.zero_add,Int.ediv_one,Nat.reduceAdd,Nat.reduceMul,Int.reduceNeg,Nat.reduceLeDiff,List.length_cons,List.length_nil,true_and,and_true,Nat.zero_add,eq_self,Nat.reduceEqDiff,Int.reduceAdd,Int.reduceSub,Int.reduceMul,Nat.reduceLT,Int.reduceToNat,Int.reduceEq,Int.reduceNe,Int.reduceLT,Int.reduceLE,false_or,and_self,false_implies,true_implies]
      exact ok _ ⟨_, _, _, _, _, _, _, _, _, _, _, _, _, _, _, rfl, hIg, hTu, hPz⟩
  · simp (disch := omega) only [aq_,ay_,af_,b2_,a0_,ao_,a2_,az_,dw_,d6_,fl_,fn_,fh_,fu_,fr_,f0_,c5_,bd_,c3_,eb_,d5_,an_,Int.toNat_natCast,di_,dm_,dn_,gv_,gu_,f4_,Int.add_zero,Int.zero_add,Int.ediv_one,Nat.reduceAdd,Nat.reduceMul,Int.reduceNeg,Nat.reduceLeDiff,List.length_cons,List.length_nil,true_and,and_true,Nat.zero_add,eq_self,Nat.reduceEqDiff,Int.reduceAdd,Int.reduceSub,Int.reduceMul,Nat.reduceLT,Int.reduceToNat,Int.reduceEq,Int.reduceNe,Int.reduceLT,Int.reduceLE,false_or,and_self,false_implies,true_implies]
    repeat' (first | with_reducible refine And.intro ?_ ?_ | with_reducible intro _ | ((first | with_reducible refine w_M_height_32 ?_ | with_reducible refine w_M_height_37 ?_ | with_reducible refine w_M_height_42 ?_ | with_reducible refine w_M_height_47 ?_); simp (disch := omega) only [aq_,ay_,af_,b2_,a0_,ao_,a2_,az_,dw_,d6_,fl_,fn_,fh_,fu_,fr_,f0_,c5_,bd_,c3_,eb_,d5_,an_,Int.toNat_natCast,di_,dm_,dn_,gv_,gu_,f4_,Int.add_zero,Int.zero_add,Int.ediv_one,Nat.reduceAdd,Nat.reduceMul,Int.reduceNeg,Nat.reduceLeDiff,List.length_cons,List.length_nil,true_and,and_true,Nat.zero_add,eq_self,Nat.reduceEqDiff,Int.reduceAdd,Int.reduceSub,Int.reduceMul,Nat.reduceLT,Int.reduceToNat,Int.reduceEq,Int.reduceNe,Int.reduceLT,Int.reduceLE,false_or,and_self,false_implies,true_implies]))
    all_goals first | omega | skip
    all_goals refine con_Mrefuse (k := 2) (by omega) ?_
    all_goals simp (disch := omega) only [aq_,ay_,af_,b2_,a0_,ao_,a2_,az_,dw_,d6_,fl_,fn_,fh_,fu_,fr_,f0_,c5_,bd_,c3_,eb_,d5_,an_,Int.toNat_natCast,di_,dm_,dn_,gv_,gu_,f4_,Int.add_zero,Int.zero_add,Int.ediv_one,Nat.reduceAdd,Nat.reduceMul,Int.reduceNeg,Nat.reduceLeDiff,List.length_cons,List.length_nil,true_and,and_true,Nat.zero_add,eq_self,Nat.reduceEqDiff,Int.reduceAdd,Int.reduceSub,Int.reduceMul,Nat.reduceLT,Int.reduceToNat,Int.reduceEq,Int.reduceNe,Int.reduceLT,Int.reduceLE,false_or,and_self,false_implies,true_implies]
    all_goals exact k2 cw
end E17
end
/-! oweM -/
section
/-! ===== the reference: who owes, what the row tells ===== -/
section E18
variable {R : RR} {rf : Nat → Int} {lt : Nat → Int} {lsz : Int} {a0 : Int} {ib : Int} {sm : Int} {pl : Nat → Int} {lo : Nat → Int} {nu : Nat → Int} {kp : Nat → Int} {ig : Nat → Int} {hmg : Int} {p0 : Int} {tk : Int} {ki : Value} {tu : Nat → Int} {tz : Int} {tf : Nat → Int} {tn : Nat → Int} {tsz : Int} {ga : Nat → Int} {sd : Int} {bb : AH} {Q : Option Value → AH → Prop}
theorem con_Mowing (hG : GR R) (hQ : Q (some (.int (zI (cntN (fun k => decide (rFa R k = 1 ∧ 0 < rWo R k)) (hb_ R))))) (HM R rf lt lsz a0 ib sm pl lo nu kp ig hmg p0 tk ki tu tz tf tn tsz ga sd bb)) : Con M_M_owing [.ref 90] (HM R rf lt lsz a0 ib sm pl lo nu kp ig hmg p0 tk ki tu tz tf tn tsz ga sd bb) Q := by
  have gm := hG.men
  have gn := hG.nM
  refine g8_ (L := [some (.ref 90), none, none]) ok_M_owing (Nat.le_of_ble_eq_true rfl) rfl ?_
  refine w_M_owing_0 ?_
  simp (disch := omega) only [cm_,aq_,ay_,ag_,b8_,af_,ba_,am_,ac_,bq_,ed_,bs_,ao_,dw_,d6_,ea_,d3_,b5_,b1_,fh_,fu_,fp_,fz_,fq_,fk_,ft_,cx_,cr_,cj_,cf_,an_,fv_,Int.toNat_natCast,f3_,di_,dm_,dn_,gv_,g4_,gx_,f4_,Int.add_zero,Int.zero_add,Int.ediv_one,Nat.reduceAdd,Nat.reduceMul,Int.reduceNeg,Nat.reduceLeDiff,List.length_cons,List.length_nil,true_and,Nat.zero_add,eq_self,Nat.reduceEqDiff,Int.reduceAdd,Int.reduceSub,Int.reduceMul,Nat.reduceLT,Int.reduceToNat,Int.reduceEq,Int.reduceNe,Int.reduceLT,Int.reduceLE]
  have loop : ∀ n i : Nat, i + n = hb_ R → J M_M_owing 4 [some (.ref 90), some (.int (zI (cntN (fun k => decide (rFa R k = 1 ∧ 0 < rWo R k)) i))), some (.int (zI i))] [] (HM R rf lt lsz a0 ib sm pl lo nu kp ig hmg p0 tk ki tu tz tf tn tsz ga sd bb) Q := by
    intro n
    induction n with
    | zero =>
      intro i hi
      have e : i = hb_ R := by omega
      subst e
      refine w_M_owing_4 ?_
      simp (disch := omega) only [cm_,aq_,ay_,ag_,b8_,af_,ba_,am_,ac_,bq_,ed_,bs_,ao_,dw_,d6_,ea_,d3_,b5_,b1_,fh_,fu_,fp_,fz_,fq_,fk_,ft_,cx_,cr_,cj_,cf_,an_,fv_,Int.toNat_natCast,f3_,di_,dm_,dn_,gv_,g4_,gx_,f4_,Int.add_zero,Int.zero_add,Int.ediv_one,Nat.reduceAdd,Nat.reduceMul,Int.reduceNeg,Nat.reduceLeDiff,List.length_cons,List.length_nil,true_and,Nat.zero_add,eq_self,Nat.reduceEqDiff,Int.reduceAdd,Int.reduceSub,Int.reduceMul,Nat.reduceLT,Int.reduceToNat,Int.reduceEq,Int.reduceNe,Int.reduceLT,Int.reduceLE]
      repeat' (first | with_reducible refine And.intro ?_ ?_ | with_reducible intro _ | ((first | with_reducible refine w_M_owing_36 ?_ | with_reducible refine w_M_owing_37 ?_ | with_reducible refine w_M_owing_45 ?_); simp (disch := omega) only [cm_,aq_,ay_,ag_,b8_,af_,ba_,am_,ac_,bq_,ed_,bs_,ao_,dw_,d6_,ea_,d3_,b5_,b1_,fh_,fu_,fp_,fz_,fq_,fk_,ft_,cx_,cr_,cj_,cf_,an_,fv_,Int.toNat_natCast,f3_,di_,dm_,dn_,gv_,g4_,gx_,f4_,Int.add_zero,Int.zero_add,Int.ediv_one,Nat.reduceAdd,Nat.reduceMul,Int.reduceNeg,Nat.reduceLeDiff,List.length_cons,List.length_nil,true_and,Nat.zero_add,eq_self,Nat.reduceEqDiff,Int.reduceAdd,Int.reduceSub,Int.reduceMul,Nat.reduceLT,Int.reduceToNat,Int.reduceEq,Int.reduceNe,Int.reduceLT,Int.reduceLE]))
      all_goals first | omega | exact hQ
    | succ n ih =>
      intro i hi
      have gf := hG.fa i
      have gw := hG.wo i
      have step := ih (i + 1) (by omega)
      simp only [cntN] at step
      refine w_M_owing_4 ?_
      simp (disch := omega) only [cm_,aq_,ay_,ag_,b8_,af_,ba_,am_,ac_,bq_,ed_,bs_,ao_,dw_,d6_,ea_,d3_,b5_,b1_,fh_,fu_,fp_,fz_,fq_,fk_,ft_,cx_,cr_,cj_,cf_,an_,fv_,Int.toNat_natCast,f3_,di_,dm_,dn_,gv_,g4_,gx_,f4_,Int.add_zero,Int.zero_add,Int.ediv_one,Nat.reduceAdd,Nat.reduceMul,Int.reduceNeg,Nat.reduceLeDiff,List.length_cons,List.length_nil,true_and,Nat.zero_add,eq_self,Nat.reduceEqDiff,Int.reduceAdd,Int.reduceSub,Int.reduceMul,Nat.reduceLT,Int.reduceToNat,Int.reduceEq,Int.reduceNe,Int.reduceLT,Int.reduceLE]
      by_cases c5 : rFa R i = 1 ∧ 0 < rWo R i
      · rw [if_pos (decide_eq_true c5)] at step
        repeat' (first | with_reducible refine And.intro ?_ ?_ | with_reducible intro _ | ((first | with_reducible refine w_M_owing_36 ?_ | with_reducible refine w_M_owing_37 ?_ | with_reducible refine w_M_owing_45 ?_); simp (disch := omega) only [cm_,aq_,ay_,ag_,b8_,af_,ba_,am_,ac_,bq_,ed_,bs_,ao_,dw_,d6_,ea_,d3_,b5_,b1_,fh_,fu_,fp_,fz_,fq_,fk_,ft_,cx_,cr_,cj_,cf_,an_,fv_,Int.toNat_natCast,f3_,di_,dm_,dn_,gv_,g4_,gx_,f4_,Int.add_zero,Int.zero_add,Int.ediv_one,Nat.reduceAdd,Nat.reduceMul,Int.reduceNeg,Nat.reduceLeDiff,List.length_cons,List.length_nil,true_and,Nat.zero_add,eq_self,Nat.reduceEqDiff,Int.reduceAdd,Int.reduceSub,Int.reduceMul,Nat.reduceLT,Int.reduceToNat,Int.reduceEq,Int.reduceNe,Int.reduceLT,Int.reduceLE]))
        all_goals first | omega | exact step
      · rw [if_neg (by rw [decide_eq_false c5]; decide)] at step
        repeat' (first | with_reducible refine And.intro ?_ ?_ | with_reducible intro _ | ((first | with_reducible refine w_M_owing_36 ?_ | with_reducible refine w_M_owing_37 ?_ | with_reducible refine w_M_owing_45 ?_); simp (disch := omega) only [cm_,aq_,ay_,ag_,b8_,af_,ba_,am_,ac_,bq_,ed_,bs_,ao_,dw_,d6_,ea_,d3_,b5_,b1_,fh_,fu_,fp_,fz_,fq_,fk_,ft_,cx_,cr_,cj_,cf_,an_,fv_,Int.toNat_natCast,f3_,di_,dm_,dn_,gv_,g4_,gx_,f4_,Int.add_zero,Int.zero_add,Int.ediv_one,Nat.reduceAdd,Nat.reduceMul,Int.reduceNeg,Nat.reduceLeDiff,List.length_cons,List.length_nil,true_and,Nat.zero_add,eq_self,Nat.reduceEqDiff,Int.reduceAdd,Int.reduceSub,Int.reduceMul,Nat.reduceLT,Int.reduceToNat,Int.reduceEq,Int.reduceNe,Int.reduceLT,Int.reduceLE]))
        all_goals first | omega | exact step
  exact loop _ 0 (Nat.zero_add _)
end E18
end
/-! rowM -/
section
/-! ===== the reference: what the row tells of the king ===== -/
section E19
variable {R : RR} {rf : Nat → Int} {lt : Nat → Int} {lsz : Int} {a0 : Int} {ib : Int} {sm : Int} {pl : Nat → Int} {lo : Nat → Int} {nu : Nat → Int} {kp : Nat → Int} {ig : Nat → Int} {hmg : Int} {p0 : Int} {tk : Int} {ki : Value} {tu : Nat → Int} {tz : Int} {tf : Nat → Int} {tn : Nat → Int} {tsz : Int} {ga : Nat → Int} {sd : Int} {bb : AH} {Q : Option Value → AH → Prop}
theorem con_MisRowK {S : RR} (hI : GI R) (hk : KP kp S) (hS : NR S) (hT : GT tn tsz) (h1 : goesB g6_ R tn tsz.toNat = true → Q (some (.int (zI 1))) (HM (S) rf lt lsz a0 ib sm pl lo nu kp ig hmg (49) (0) (.ref 101) tu tz tf tn tsz ga sd bb)) (h0 : goesB g6_ R tn tsz.toNat = false → Q (some (.int (zI 0))) (HM (S) rf lt lsz a0 ib sm pl lo nu kp ig hmg (49) (0) (.ref 101) tu tz tf tn tsz ga sd bb)) : Con M_M_isRow [.ref 90, .int (zI (-1))] (HM R rf lt lsz a0 ib sm pl lo nu kp ig hmg p0 tk ki tu tz tf tn tsz ga sd bb) Q := by
  have gt := hT.1
  refine g8_ (L := [some (.ref 90), some (.int (zI (-1))), none, none]) ok_M_isRow (Nat.le_of_ble_eq_true rfl) rfl ?_
  refine w_M_isRow_0 ?_
  simp (disch := omega) only [cm_,aq_,ay_,ag_,b8_,af_,am_,ac_,bq_,ed_,bs_,as_,a2_,dw_,d6_,ea_,d3_,b5_,fh_,fu_,fp_,fz_,fq_,fk_,ft_,f0_,c5_,bt_,ct_,cx_,cr_,cf_,an_,d1_,Int.toNat_natCast,f3_,di_,dm_,dn_,gv_,ge_,f4_,Int.add_zero,Int.zero_add,Int.ediv_one,Nat.reduceAdd,Nat.reduceMul,Int.reduceNeg,Nat.reduceLeDiff,List.length_cons,List.length_nil,true_and,and_true,Nat.zero_add,eq_self,Nat.reduceEqDiff,Int.reduceAdd,Int.reduceSub,Int.reduceMul,not_true_eq_false,not_false_eq_true,Nat.reduceLT,Int.reduceToNat,Int.reduceEq,Int.reduceNe,Int.reduceLT,Int.reduceLE,false_implies,true_implies]
  have fin : ∀ d y (f : Int), (f = 0 ∨ f = 1) → Q (some (.int (zI f))) (HM (S) rf lt lsz a0 ib sm pl lo nu kp ig hmg (49) (0) (.ref 101) tu tz tf tn tsz ga sd bb) → J M_M_isRow 58 [some (.ref 90), some (.int (zI (-1))), some (.int (zI f)), y] [] (HM (g6_ R d) rf lt lsz a0 ib sm pl lo nu kp ig hmg p0 tk ki tu tz tf tn tsz ga sd bb) Q := by
    intro d y f hf hq
    refine w_M_isRow_58 ?_
    simp (disch := omega) only [cm_,aq_,ay_,ag_,b8_,af_,am_,ac_,bq_,ed_,bs_,as_,a2_,dw_,d6_,ea_,d3_,b5_,fh_,fu_,fp_,fz_,fq_,fk_,ft_,f0_,c5_,bt_,ct_,cx_,cr_,cf_,an_,d1_,Int.toNat_natCast,f3_,di_,dm_,dn_,gv_,ge_,f4_,Int.add_zero,Int.zero_add,Int.ediv_one,Nat.reduceAdd,Nat.reduceMul,Int.reduceNeg,Nat.reduceLeDiff,List.length_cons,List.length_nil,true_and,and_true,Nat.zero_add,eq_self,Nat.reduceEqDiff,Int.reduceAdd,Int.reduceSub,Int.reduceMul,not_true_eq_false,not_false_eq_true,Nat.reduceLT,Int.reduceToNat,Int.reduceEq,Int.reduceNe,Int.reduceLT,Int.reduceLE,false_implies,true_implies]
    refine con_Magain hk (hI.dsX d).2.2 hS ?_
    simp (disch := omega) only [cm_,aq_,ay_,ag_,b8_,af_,am_,ac_,bq_,ed_,bs_,as_,a2_,dw_,d6_,ea_,d3_,b5_,fh_,fu_,fp_,fz_,fq_,fk_,ft_,f0_,c5_,bt_,ct_,cx_,cr_,cf_,an_,d1_,Int.toNat_natCast,f3_,di_,dm_,dn_,gv_,ge_,f4_,Int.add_zero,Int.zero_add,Int.ediv_one,Nat.reduceAdd,Nat.reduceMul,Int.reduceNeg,Nat.reduceLeDiff,List.length_cons,List.length_nil,true_and,and_true,Nat.zero_add,eq_self,Nat.reduceEqDiff,Int.reduceAdd,Int.reduceSub,Int.reduceMul,not_true_eq_false,not_false_eq_true,Nat.reduceLT,Int.reduceToNat,Int.reduceEq,Int.reduceNe,Int.reduceLT,Int.reduceLE,false_implies,true_implies]
    first | exact hq | exact ⟨by omega, hq⟩
  have loop : ∀ k i : Nat, i + k = tsz.toNat → allN (fun d => decide (hd_ (g6_ R d) = tn d)) i = true → J M_M_isRow 4 [some (.ref 90), some (.int (zI (-1))), some (.int (zI 1)), some (.int (zI i))] [] (HM (g6_ R i) rf lt lsz a0 ib sm pl lo nu kp ig hmg p0 tk ki tu tz tf tn tsz ga sd bb) Q := by
    intro k
    induction k with
    | zero =>
      intro i hi he
      have e : i = tsz.toNat := by omega
      subst e
      refine w_M_isRow_4 ?_
      simp (disch := omega) only [cm_,aq_,ay_,ag_,b8_,af_,am_,ac_,bq_,ed_,bs_,as_,a2_,dw_,d6_,ea_,d3_,b5_,fh_,fu_,fp_,fz_,fq_,fk_,ft_,f0_,c5_,bt_,ct_,cx_,cr_,cf_,an_,d1_,Int.toNat_natCast,f3_,di_,dm_,dn_,gv_,ge_,f4_,Int.add_zero,Int.zero_add,Int.ediv_one,Nat.reduceAdd,Nat.reduceMul,Int.reduceNeg,Nat.reduceLeDiff,List.length_cons,List.length_nil,true_and,and_true,Nat.zero_add,eq_self,Nat.reduceEqDiff,Int.reduceAdd,Int.reduceSub,Int.reduceMul,not_true_eq_false,not_false_eq_true,Nat.reduceLT,Int.reduceToNat,Int.reduceEq,Int.reduceNe,Int.reduceLT,Int.reduceLE,false_implies,true_implies]
      refine ⟨fun _ => fin _ _ 1 (by omega) (h1 he), fun q => by omega⟩
    | succ k ih =>
      intro i hi he
      have gk := (hI.dsX i).1.king
      have ht := hT.2 i
      have ed : dayX (g6_ R i) = g6_ R (i + 1) := rfl
      refine w_M_isRow_4 ?_
      simp (disch := omega) only [cm_,aq_,ay_,ag_,b8_,af_,am_,ac_,bq_,ed_,bs_,as_,a2_,dw_,d6_,ea_,d3_,b5_,fh_,fu_,fp_,fz_,fq_,fk_,ft_,f0_,c5_,bt_,ct_,cx_,cr_,cf_,an_,d1_,Int.toNat_natCast,f3_,di_,dm_,dn_,gv_,ge_,f4_,Int.add_zero,Int.zero_add,Int.ediv_one,Nat.reduceAdd,Nat.reduceMul,Int.reduceNeg,Nat.reduceLeDiff,List.length_cons,List.length_nil,true_and,and_true,Nat.zero_add,eq_self,Nat.reduceEqDiff,Int.reduceAdd,Int.reduceSub,Int.reduceMul,not_true_eq_false,not_false_eq_true,Nat.reduceLT,Int.reduceToNat,Int.reduceEq,Int.reduceNe,Int.reduceLT,Int.reduceLE,false_implies,true_implies]
      refine ⟨fun q => by omega, fun _ => ⟨by omega, ?_⟩⟩
      refine w_M_isRow_39 ?_
      simp (disch := omega) only [cm_,aq_,ay_,ag_,b8_,af_,am_,ac_,bq_,ed_,bs_,as_,a2_,dw_,d6_,ea_,d3_,b5_,fh_,fu_,fp_,fz_,fq_,fk_,ft_,f0_,c5_,bt_,ct_,cx_,cr_,cf_,an_,d1_,Int.toNat_natCast,f3_,di_,dm_,dn_,gv_,ge_,f4_,Int.add_zero,Int.zero_add,Int.ediv_one,Nat.reduceAdd,Nat.reduceMul,Int.reduceNeg,Nat.reduceLeDiff,List.length_cons,List.length_nil,true_and,and_true,Nat.zero_add,eq_self,Nat.reduceEqDiff,Int.reduceAdd,Int.reduceSub,Int.reduceMul,not_true_eq_false,not_false_eq_true,Nat.reduceLT,Int.reduceToNat,Int.reduceEq,Int.reduceNe,Int.reduceLT,Int.reduceLE,false_implies,true_implies]
      refine ⟨fun c => ?_, fun c => ?_⟩
      · have hf : goesB g6_ R tn tsz.toNat = false := allN_f (i := i) (decide_eq_false (by omega)) (by omega)
        refine w_M_isRow_46 ?_
        simp (disch := omega) only [cm_,aq_,ay_,ag_,b8_,af_,am_,ac_,bq_,ed_,bs_,as_,a2_,dw_,d6_,ea_,d3_,b5_,fh_,fu_,fp_,fz_,fq_,fk_,ft_,f0_,c5_,bt_,ct_,cx_,cr_,cf_,an_,d1_,Int.toNat_natCast,f3_,di_,dm_,dn_,gv_,ge_,f4_,Int.add_zero,Int.zero_add,Int.ediv_one,Nat.reduceAdd,Nat.reduceMul,Int.reduceNeg,Nat.reduceLeDiff,List.length_cons,List.length_nil,true_and,and_true,Nat.zero_add,eq_self,Nat.reduceEqDiff,Int.reduceAdd,Int.reduceSub,Int.reduceMul,not_true_eq_false,not_false_eq_true,Nat.reduceLT,Int.reduceToNat,Int.reduceEq,Int.reduceNe,Int.reduceLT,Int.reduceLE,false_implies,true_implies]
        refine w_M_isRow_47 ?_
        simp (disch := omega) only [cm_,aq_,ay_,ag_,b8_,af_,am_,ac_,bq_,ed_,bs_,as_,a2_,dw_,d6_,ea_,d3_,b5_,fh_,fu_,fp_,fz_,fq_,fk_,ft_,f0_,c5_,bt_,ct_,cx_,cr_,cf_,an_,d1_,Int.toNat_natCast,f3_,di_,dm_,dn_,gv_,ge_,f4_,Int.add_zero,Int.zero_add,Int.ediv_one,Nat.reduceAdd,Nat.reduceMul,Int.reduceNeg,Nat.reduceLeDiff,List.length_cons,List.length_nil,true_and,and_true,Nat.zero_add,eq_self,Nat.reduceEqDiff,Int.reduceAdd,Int.reduceSub,Int.reduceMul,not_true_eq_false,not_false_eq_true,Nat.reduceLT,Int.reduceToNat,Int.reduceEq,Int.reduceNe,Int.reduceLT,Int.reduceLE,false_implies,true_implies]
        refine con_MdayOn (hI.dsX i).1 (hI.dsX i).2.1 ?_
        rw [ed]
        simp (disch := omega) only [cm_,aq_,ay_,ag_,b8_,af_,am_,ac_,bq_,ed_,bs_,as_,a2_,dw_,d6_,ea_,d3_,b5_,fh_,fu_,fp_,fz_,fq_,fk_,ft_,f0_,c5_,bt_,ct_,cx_,cr_,cf_,an_,d1_,Int.toNat_natCast,f3_,di_,dm_,dn_,gv_,ge_,f4_,Int.add_zero,Int.zero_add,Int.ediv_one,Nat.reduceAdd,Nat.reduceMul,Int.reduceNeg,Nat.reduceLeDiff,List.length_cons,List.length_nil,true_and,and_true,Nat.zero_add,eq_self,Nat.reduceEqDiff,Int.reduceAdd,Int.reduceSub,Int.reduceMul,not_true_eq_false,not_false_eq_true,Nat.reduceLT,Int.reduceToNat,Int.reduceEq,Int.reduceNe,Int.reduceLT,Int.reduceLE,false_implies,true_implies]
        refine w_M_isRow_4 ?_
        simp (disch := omega) only [cm_,aq_,ay_,ag_,b8_,af_,am_,ac_,bq_,ed_,bs_,as_,a2_,dw_,d6_,ea_,d3_,b5_,fh_,fu_,fp_,fz_,fq_,fk_,ft_,f0_,c5_,bt_,ct_,cx_,cr_,cf_,an_,d1_,Int.toNat_natCast,f3_,di_,dm_,dn_,gv_,ge_,f4_,Int.add_zero,Int.zero_add,Int.ediv_one,Nat.reduceAdd,Nat.reduceMul,Int.reduceNeg,Nat.reduceLeDiff,List.length_cons,List.length_nil,true_and,and_true,Nat.zero_add,eq_self,Nat.reduceEqDiff,Int.reduceAdd,Int.reduceSub,Int.reduceMul,not_true_eq_false,not_false_eq_true,Nat.reduceLT,Int.reduceToNat,Int.reduceEq,Int.reduceNe,Int.reduceLT,Int.reduceLE,false_implies,true_implies]
        refine ⟨fun _ => fin _ _ 0 (by omega) (h0 hf), fun _ => fin _ _ 0 (by omega) (h0 hf)⟩
      · refine w_M_isRow_47 ?_
        simp (disch := omega) only [cm_,aq_,ay_,ag_,b8_,af_,am_,ac_,bq_,ed_,bs_,as_,a2_,dw_,d6_,ea_,d3_,b5_,fh_,fu_,fp_,fz_,fq_,fk_,ft_,f0_,c5_,bt_,ct_,cx_,cr_,cf_,an_,d1_,Int.toNat_natCast,f3_,di_,dm_,dn_,gv_,ge_,f4_,Int.add_zero,Int.zero_add,Int.ediv_one,Nat.reduceAdd,Nat.reduceMul,Int.reduceNeg,Nat.reduceLeDiff,List.length_cons,List.length_nil,true_and,and_true,Nat.zero_add,eq_self,Nat.reduceEqDiff,Int.reduceAdd,Int.reduceSub,Int.reduceMul,not_true_eq_false,not_false_eq_true,Nat.reduceLT,Int.reduceToNat,Int.reduceEq,Int.reduceNe,Int.reduceLT,Int.reduceLE,false_implies,true_implies]
        refine con_MdayOn (hI.dsX i).1 (hI.dsX i).2.1 ?_
        rw [ed]
        simp (disch := omega) only [cm_,aq_,ay_,ag_,b8_,af_,am_,ac_,bq_,ed_,bs_,as_,a2_,dw_,d6_,ea_,d3_,b5_,fh_,fu_,fp_,fz_,fq_,fk_,ft_,f0_,c5_,bt_,ct_,cx_,cr_,cf_,an_,d1_,Int.toNat_natCast,f3_,di_,dm_,dn_,gv_,ge_,f4_,Int.add_zero,Int.zero_add,Int.ediv_one,Nat.reduceAdd,Nat.reduceMul,Int.reduceNeg,Nat.reduceLeDiff,List.length_cons,List.length_nil,true_and,and_true,Nat.zero_add,eq_self,Nat.reduceEqDiff,Int.reduceAdd,Int.reduceSub,Int.reduceMul,not_true_eq_false,not_false_eq_true,Nat.reduceLT,Int.reduceToNat,Int.reduceEq,Int.reduceNe,Int.reduceLT,Int.reduceLE,false_implies,true_implies]
        refine ih (i + 1) (by omega) ?_
        simp only [allN, he, Bool.true_and]
        exact decide_eq_true (by omega)
  exact loop tsz.toNat 0 (by omega) rfl
end E19
end
/-! boreM -/
section
/-! ===== the reference: who bore ===== -/
theorem boreM_stop (R : RR) (tn : Nat → Int) (n j : Nat) : mask (boreP g6_ R tn n) (hb_ R + j) = mask (boreP g6_ R tn n) (hb_ R) := by
  induction j with
  | zero => rfl
  | succ j ih =>
    rw [← Nat.add_assoc, mask_f, ih]
    simp only [boreP]
    rw [decide_eq_false (by omega), Bool.false_and]
section E20
variable {R I : RR} {im : Int} {P : Nat → RR} {pz : Int} {lt : Nat → Int} {lsz : Int} {tn : Nat → Int} {tsz : Int} {rf : Nat → Int} {bb h : AH} {Q : Option Value → AH → Prop}
theorem M_whoBore (hT : GT tn tsz) (hI : GI R)  (W : (MW R I im P pz lt lsz tn tsz rf bb h))
    (ok : ∀ h, (MW R I im P pz lt lsz tn tsz rf bb h) → Q (some (.int (zI (mask (boreP g6_ R tn tsz.toNat) 8 : Nat)))) h) : Con M_M_whoBore [.ref 90] h Q := by
  obtain ⟨a0, ib, sm, pl, lo, nu, kp, ig, p0, tk, ki, tu, tf, ga, sd, rfl, hIg, hTu, hPz⟩ := W
  have hG := hI.1
  have gm := hG.men
  have gn := hG.nM
  have kk := ok
  have st := boreM_stop R tn tsz.toNat (8 - hb_ R)
  rw [show hb_ R + (8 - hb_ R) = 8 by omega] at st
  rw [st] at kk
  refine g8_ (L := [some (.ref 90), none, none]) ok_M_whoBore (Nat.le_of_ble_eq_true rfl) rfl ?_
  refine w_M_whoBore_0 ?_
  simp (disch := omega) only [cm_,aq_,ay_,ag_,b8_,af_,cp_,b3_,am_,ae_,ac_,b2_,bq_,ed_,bs_,ao_,a2_,az_,dw_,d6_,ea_,d3_,b5_,b1_,fl_,fn_,fh_,fu_,fp_,fz_,fq_,fk_,fr_,ft_,fs_,f0_,c5_,bt_,bd_,c3_,ct_,cx_,cr_,cf_,an_,cl_,cd_,a9_,a8_,a7_,ce_,fv_,Int.toNat_natCast,eh_,b9_,f3_,di_,dm_,dn_,gv_,g4_,gu_,gs_,f4_,Int.add_zero,Int.zero_add,Int.ediv_one,Nat.reduceAdd,Nat.reduceMul,Int.reduceNeg,Nat.reduceLeDiff,List.length_cons,List.length_nil,true_and,and_true,Nat.zero_add,eq_self,Nat.reduceEqDiff,Int.reduceAdd,Int.reduceSub,Int.reduceMul,not_true_eq_false,not_false_eq_true,Nat.reduceLT,Int.reduceToNat,Int.reduceEq,Int.reduceNe,Int.reduceLT,Int.reduceLE,and_false,false_and,false_implies,true_implies]
  refine con_Mthink (fun x hx => ?_)
  simp (disch := omega) only [cm_,aq_,ay_,ag_,b8_,af_,cp_,b3_,am_,ae_,ac_,b2_,bq_,ed_,bs_,ao_,a2_,az_,dw_,d6_,ea_,d3_,b5_,b1_,fl_,fn_,fh_,fu_,fp_,fz_,fq_,fk_,fr_,ft_,fs_,f0_,c5_,bt_,bd_,c3_,ct_,cx_,cr_,cf_,an_,cl_,cd_,a9_,a8_,a7_,ce_,fv_,Int.toNat_natCast,eh_,b9_,f3_,di_,dm_,dn_,gv_,g4_,gu_,gs_,f4_,Int.add_zero,Int.zero_add,Int.ediv_one,Nat.reduceAdd,Nat.reduceMul,Int.reduceNeg,Nat.reduceLeDiff,List.length_cons,List.length_nil,true_and,and_true,Nat.zero_add,eq_self,Nat.reduceEqDiff,Int.reduceAdd,Int.reduceSub,Int.reduceMul,not_true_eq_false,not_false_eq_true,Nat.reduceLT,Int.reduceToNat,Int.reduceEq,Int.reduceNe,Int.reduceLT,Int.reduceLE,and_false,false_and,false_implies,true_implies]
  have z0 : ∀ a : Nat, zI (a : Int) ||| zI 0 = zI (a : Int) := fun a => by
    rw [show zI 0 = zI ((0 : Nat) : Int) from rfl, eh_, Nat.or_zero]
  have loop : ∀ k i : Nat, i + k = hb_ R → ∀ tk ki, J M_M_whoBore 13 [some (.ref 90), some (.int (zI (mask (boreP g6_ R tn tsz.toNat) i : Nat))), some (.int (zI i))] [] (HM R rf lt lsz a0 ib sm pl lo nu x ig im 49 tk ki tu pz tf tn tsz ga sd bb) Q := by
    intro k
    induction k with
    | zero =>
      intro i hi tk ki
      have e : i = hb_ R := by omega
      subst e
      refine w_M_whoBore_13 ?_
      simp (disch := omega) only [cm_,aq_,ay_,ag_,b8_,af_,cp_,b3_,am_,ae_,ac_,b2_,bq_,ed_,bs_,ao_,a2_,az_,dw_,d6_,ea_,d3_,b5_,b1_,fl_,fn_,fh_,fu_,fp_,fz_,fq_,fk_,fr_,ft_,fs_,f0_,c5_,bt_,bd_,c3_,ct_,cx_,cr_,cf_,an_,cl_,cd_,a9_,a8_,a7_,ce_,fv_,Int.toNat_natCast,eh_,b9_,f3_,di_,dm_,dn_,gv_,g4_,gu_,gs_,f4_,Int.add_zero,Int.zero_add,Int.ediv_one,Nat.reduceAdd,Nat.reduceMul,Int.reduceNeg,Nat.reduceLeDiff,List.length_cons,List.length_nil,true_and,and_true,Nat.zero_add,eq_self,Nat.reduceEqDiff,Int.reduceAdd,Int.reduceSub,Int.reduceMul,not_true_eq_false,not_false_eq_true,Nat.reduceLT,Int.reduceToNat,Int.reduceEq,Int.reduceNe,Int.reduceLT,Int.reduceLE,and_false,false_and,false_implies,true_implies]
      refine ⟨fun _ => ?_, fun q => by omega⟩
      refine w_M_whoBore_61 ?_
      simp (disch := omega) only [cm_,aq_,ay_,ag_,b8_,af_,cp_,b3_,am_,ae_,ac_,b2_,bq_,ed_,bs_,ao_,a2_,az_,dw_,d6_,ea_,d3_,b5_,b1_,fl_,fn_,fh_,fu_,fp_,fz_,fq_,fk_,fr_,ft_,fs_,f0_,c5_,bt_,bd_,c3_,ct_,cx_,cr_,cf_,an_,cl_,cd_,a9_,a8_,a7_,ce_,fv_,Int.toNat_natCast,eh_,b9_,f3_,di_,dm_,dn_,gv_,g4_,gu_,gs_,f4_,Int.add_zero,Int.zero_add,Int.ediv_one,Nat.reduceAdd,Nat.reduceMul,Int.reduceNeg,Nat.reduceLeDiff,List.length_cons,List.length_nil,true_and,and_true,Nat.zero_add,eq_self,Nat.reduceEqDiff,Int.reduceAdd,Int.reduceSub,Int.reduceMul,not_true_eq_false,not_false_eq_true,Nat.reduceLT,Int.reduceToNat,Int.reduceEq,Int.reduceNe,Int.reduceLT,Int.reduceLE,and_false,false_and,false_implies,true_implies]
      exact kk _ ⟨_, _, _, _, _, _, _, _, _, _, _, _, _, _, _, rfl, hIg, hTu, hPz⟩
    | succ k ih =>
      intro i hi tk ki
      have step := ih (i + 1) (by omega)
      have gf := hG.fa i
      refine w_M_whoBore_13 ?_
      simp (disch := omega) only [cm_,aq_,ay_,ag_,b8_,af_,cp_,b3_,am_,ae_,ac_,b2_,bq_,ed_,bs_,ao_,a2_,az_,dw_,d6_,ea_,d3_,b5_,b1_,fl_,fn_,fh_,fu_,fp_,fz_,fq_,fk_,fr_,ft_,fs_,f0_,c5_,bt_,bd_,c3_,ct_,cx_,cr_,cf_,an_,cl_,cd_,a9_,a8_,a7_,ce_,fv_,Int.toNat_natCast,eh_,b9_,f3_,di_,dm_,dn_,gv_,g4_,gu_,gs_,f4_,Int.add_zero,Int.zero_add,Int.ediv_one,Nat.reduceAdd,Nat.reduceMul,Int.reduceNeg,Nat.reduceLeDiff,List.length_cons,List.length_nil,true_and,and_true,Nat.zero_add,eq_self,Nat.reduceEqDiff,Int.reduceAdd,Int.reduceSub,Int.reduceMul,not_true_eq_false,not_false_eq_true,Nat.reduceLT,Int.reduceToNat,Int.reduceEq,Int.reduceNe,Int.reduceLT,Int.reduceLE,and_false,false_and,false_implies,true_implies]
      refine ⟨fun q => by omega, fun _ => ⟨by omega, fun c => ?_, fun c => ?_⟩⟩
      · rw [mask_f (by simp [boreP, c])] at step
        refine w_M_whoBore_55 ?_
        simp (disch := omega) only [cm_,aq_,ay_,ag_,b8_,af_,cp_,b3_,am_,ae_,ac_,b2_,bq_,ed_,bs_,ao_,a2_,az_,dw_,d6_,ea_,d3_,b5_,b1_,fl_,fn_,fh_,fu_,fp_,fz_,fq_,fk_,fr_,ft_,fs_,f0_,c5_,bt_,bd_,c3_,ct_,cx_,cr_,cf_,an_,cl_,cd_,a9_,a8_,a7_,ce_,fv_,Int.toNat_natCast,eh_,b9_,f3_,di_,dm_,dn_,gv_,g4_,gu_,gs_,f4_,Int.add_zero,Int.zero_add,Int.ediv_one,Nat.reduceAdd,Nat.reduceMul,Int.reduceNeg,Nat.reduceLeDiff,List.length_cons,List.length_nil,true_and,and_true,Nat.zero_add,eq_self,Nat.reduceEqDiff,Int.reduceAdd,Int.reduceSub,Int.reduceMul,not_true_eq_false,not_false_eq_true,Nat.reduceLT,Int.reduceToNat,Int.reduceEq,Int.reduceNe,Int.reduceLT,Int.reduceLE,and_false,false_and,false_implies,true_implies]
        exact step _ _
      · have c' : rFa R i = 0 := by omega
        have hI2 := hI.setFa (x := 1) i (by omega) (by omega) (by omega)
        have bp : boreP g6_ R tn tsz.toNat i = goesB g6_ (sFa R (upI (rFa R) i 1)) tn tsz.toNat := by
          simp only [boreP]
          rw [decide_eq_true (⟨by omega, c'⟩ : i < hb_ R ∧ rFa R i = 0), Bool.true_and]
        refine ⟨by omega, ?_⟩
        refine con_MisRowK (R := sFa R (upI (rFa R) i 1)) (S := R) hI2 hx hI.2.2 hT (fun c5 => ?_) (fun c5 => ?_)
        · rw [mask_t (bp.trans c5)] at step
          simp (disch := omega) only [cm_,aq_,ay_,ag_,b8_,af_,cp_,b3_,am_,ae_,ac_,b2_,bq_,ed_,bs_,ao_,a2_,az_,dw_,d6_,ea_,d3_,b5_,b1_,fl_,fn_,fh_,fu_,fp_,fz_,fq_,fk_,fr_,ft_,fs_,f0_,c5_,bt_,bd_,c3_,ct_,cx_,cr_,cf_,an_,cl_,cd_,a9_,a8_,a7_,ce_,fv_,Int.toNat_natCast,eh_,b9_,f3_,di_,dm_,dn_,gv_,g4_,gu_,gs_,f4_,Int.add_zero,Int.zero_add,Int.ediv_one,Nat.reduceAdd,Nat.reduceMul,Int.reduceNeg,Nat.reduceLeDiff,List.length_cons,List.length_nil,true_and,and_true,Nat.zero_add,eq_self,Nat.reduceEqDiff,Int.reduceAdd,Int.reduceSub,Int.reduceMul,not_true_eq_false,not_false_eq_true,Nat.reduceLT,Int.reduceToNat,Int.reduceEq,Int.reduceNe,Int.reduceLT,Int.reduceLE,and_false,false_and,false_implies,true_implies]
          refine w_M_whoBore_53 ?_
          simp (disch := omega) only [cm_,aq_,ay_,ag_,b8_,af_,cp_,b3_,am_,ae_,ac_,b2_,bq_,ed_,bs_,ao_,a2_,az_,dw_,d6_,ea_,d3_,b5_,b1_,fl_,fn_,fh_,fu_,fp_,fz_,fq_,fk_,fr_,ft_,fs_,f0_,c5_,bt_,bd_,c3_,ct_,cx_,cr_,cf_,an_,cl_,cd_,a9_,a8_,a7_,ce_,fv_,Int.toNat_natCast,eh_,b9_,f3_,di_,dm_,dn_,gv_,g4_,gu_,gs_,f4_,Int.add_zero,Int.zero_add,Int.ediv_one,Nat.reduceAdd,Nat.reduceMul,Int.reduceNeg,Nat.reduceLeDiff,List.length_cons,List.length_nil,true_and,and_true,Nat.zero_add,eq_self,Nat.reduceEqDiff,Int.reduceAdd,Int.reduceSub,Int.reduceMul,not_true_eq_false,not_false_eq_true,Nat.reduceLT,Int.reduceToNat,Int.reduceEq,Int.reduceNe,Int.reduceLT,Int.reduceLE,and_false,false_and,false_implies,true_implies]
          refine w_M_whoBore_55 ?_
          simp (disch := omega) only [cm_,aq_,ay_,ag_,b8_,af_,cp_,b3_,am_,ae_,ac_,b2_,bq_,ed_,bs_,ao_,a2_,az_,dw_,d6_,ea_,d3_,b5_,b1_,fl_,fn_,fh_,fu_,fp_,fz_,fq_,fk_,fr_,ft_,fs_,f0_,c5_,bt_,bd_,c3_,ct_,cx_,cr_,cf_,an_,cl_,cd_,a9_,a8_,a7_,ce_,fv_,Int.toNat_natCast,eh_,b9_,f3_,di_,dm_,dn_,gv_,g4_,gu_,gs_,f4_,Int.add_zero,Int.zero_add,Int.ediv_one,Nat.reduceAdd,Nat.reduceMul,Int.reduceNeg,Nat.reduceLeDiff,List.length_cons,List.length_nil,true_and,and_true,Nat.zero_add,eq_self,Nat.reduceEqDiff,Int.reduceAdd,Int.reduceSub,Int.reduceMul,not_true_eq_false,not_false_eq_true,Nat.reduceLT,Int.reduceToNat,Int.reduceEq,Int.reduceNe,Int.reduceLT,Int.reduceLE,and_false,false_and,false_implies,true_implies]
          exact step _ _
        · rw [mask_f (bp.trans c5)] at step
          simp (disch := omega) only [cm_,aq_,ay_,ag_,b8_,af_,cp_,b3_,am_,ae_,ac_,b2_,bq_,ed_,bs_,ao_,a2_,az_,dw_,d6_,ea_,d3_,b5_,b1_,fl_,fn_,fh_,fu_,fp_,fz_,fq_,fk_,fr_,ft_,fs_,f0_,c5_,bt_,bd_,c3_,ct_,cx_,cr_,cf_,an_,cl_,cd_,a9_,a8_,a7_,ce_,fv_,Int.toNat_natCast,eh_,b9_,f3_,di_,dm_,dn_,gv_,g4_,gu_,gs_,f4_,Int.add_zero,Int.zero_add,Int.ediv_one,Nat.reduceAdd,Nat.reduceMul,Int.reduceNeg,Nat.reduceLeDiff,List.length_cons,List.length_nil,true_and,and_true,Nat.zero_add,eq_self,Nat.reduceEqDiff,Int.reduceAdd,Int.reduceSub,Int.reduceMul,not_true_eq_false,not_false_eq_true,Nat.reduceLT,Int.reduceToNat,Int.reduceEq,Int.reduceNe,Int.reduceLT,Int.reduceLE,and_false,false_and,false_implies,true_implies]
          refine w_M_whoBore_52 ?_
          simp (disch := omega) only [cm_,aq_,ay_,ag_,b8_,af_,cp_,b3_,am_,ae_,ac_,b2_,bq_,ed_,bs_,ao_,a2_,az_,dw_,d6_,ea_,d3_,b5_,b1_,fl_,fn_,fh_,fu_,fp_,fz_,fq_,fk_,fr_,ft_,fs_,f0_,c5_,bt_,bd_,c3_,ct_,cx_,cr_,cf_,an_,cl_,cd_,a9_,a8_,a7_,ce_,fv_,Int.toNat_natCast,eh_,b9_,f3_,di_,dm_,dn_,gv_,g4_,gu_,gs_,f4_,Int.add_zero,Int.zero_add,Int.ediv_one,Nat.reduceAdd,Nat.reduceMul,Int.reduceNeg,Nat.reduceLeDiff,List.length_cons,List.length_nil,true_and,and_true,Nat.zero_add,eq_self,Nat.reduceEqDiff,Int.reduceAdd,Int.reduceSub,Int.reduceMul,not_true_eq_false,not_false_eq_true,Nat.reduceLT,Int.reduceToNat,Int.reduceEq,Int.reduceNe,Int.reduceLT,Int.reduceLE,and_false,false_and,false_implies,true_implies]
          refine w_M_whoBore_53 ?_
          simp (disch := omega) only [cm_,aq_,ay_,ag_,b8_,af_,cp_,b3_,am_,ae_,ac_,b2_,bq_,ed_,bs_,ao_,a2_,az_,dw_,d6_,ea_,d3_,b5_,b1_,fl_,fn_,fh_,fu_,fp_,fz_,fq_,fk_,fr_,ft_,fs_,f0_,c5_,bt_,bd_,c3_,ct_,cx_,cr_,cf_,an_,cl_,cd_,a9_,a8_,a7_,ce_,fv_,Int.toNat_natCast,eh_,b9_,f3_,di_,dm_,dn_,gv_,g4_,gu_,gs_,f4_,Int.add_zero,Int.zero_add,Int.ediv_one,Nat.reduceAdd,Nat.reduceMul,Int.reduceNeg,Nat.reduceLeDiff,List.length_cons,List.length_nil,true_and,and_true,Nat.zero_add,eq_self,Nat.reduceEqDiff,Int.reduceAdd,Int.reduceSub,Int.reduceMul,not_true_eq_false,not_false_eq_true,Nat.reduceLT,Int.reduceToNat,Int.reduceEq,Int.reduceNe,Int.reduceLT,Int.reduceLE,and_false,false_and,false_implies,true_implies,z0]
          refine w_M_whoBore_55 ?_
          simp (disch := omega) only [cm_,aq_,ay_,ag_,b8_,af_,cp_,b3_,am_,ae_,ac_,b2_,bq_,ed_,bs_,ao_,a2_,az_,dw_,d6_,ea_,d3_,b5_,b1_,fl_,fn_,fh_,fu_,fp_,fz_,fq_,fk_,fr_,ft_,fs_,f0_,c5_,bt_,bd_,c3_,ct_,cx_,cr_,cf_,an_,cl_,cd_,a9_,a8_,a7_,ce_,fv_,Int.toNat_natCast,eh_,b9_,f3_,di_,dm_,dn_,gv_,g4_,gu_,gs_,f4_,Int.add_zero,Int.zero_add,Int.ediv_one,Nat.reduceAdd,Nat.reduceMul,Int.reduceNeg,Nat.reduceLeDiff,List.length_cons,List.length_nil,true_and,and_true,Nat.zero_add,eq_self,Nat.reduceEqDiff,Int.reduceAdd,Int.reduceSub,Int.reduceMul,not_true_eq_false,not_false_eq_true,Nat.reduceLT,Int.reduceToNat,Int.reduceEq,Int.reduceNe,Int.reduceLT,Int.reduceLE,and_false,false_and,false_implies,true_implies]
          exact step _ _
  exact loop (hb_ R) 0 (Nat.zero_add _) _ _
end E20
end
/-! best -/
section
/-! ===== two ways of searching the smallest set ===== -/
theorem firstN_spec (p : Nat → Bool) (k n : Nat) : (firstN p k n = -9 ∧ ∀ j, k ≤ j → j < k + n → p j = false) ∨ (∃ j, k ≤ j ∧ j < k + n ∧ firstN p k n = (j : Int) ∧ p j = true ∧ ∀ i, k ≤ i → i < j → p i = false) := by
  induction n generalizing k with
  | zero => exact Or.inl ⟨rfl, fun j h1 h2 => by omega⟩
  | succ n ih =>
    simp only [firstN]
    by_cases c : p k = true
    · rw [if_pos c]
      exact Or.inr ⟨k, Nat.le_refl k, by omega, rfl, c, fun i h1 h2 => by omega⟩
    · rw [if_neg c]
      have c' : p k = false := Bool.eq_false_iff.mpr c
      rcases ih (k + 1) with ⟨h1, h2⟩ | ⟨j, h1, h2, h3, h4, h5⟩
      · refine Or.inl ⟨h1, fun j q1 q2 => ?_⟩
        rcases Nat.eq_or_lt_of_le q1 with e | e
        · rw [← e]; exact c'
        · exact h2 j (by omega) (by omega)
      · refine Or.inr ⟨j, by omega, by omega, h3, h4, fun i q1 q2 => ?_⟩
        rcases Nat.eq_or_lt_of_le q1 with e | e
        · rw [← e]; exact c'
        · exact h5 i (by omega) q2
theorem scan2_spec (f : Nat → Int) (k n : Nat) : (scan2 f k n = -9 ∧ ∀ j, k ≤ j → j < k + n → f j = -9) ∨ (∃ j, k ≤ j ∧ j < k + n ∧ scan2 f k n = f j ∧ f j ≠ -9 ∧ ∀ i, k ≤ i → i < j → f i = -9) := by
  induction n generalizing k with
  | zero => exact Or.inl ⟨rfl, fun j h1 h2 => by omega⟩
  | succ n ih =>
    simp only [scan2]
    by_cases c : f k = -9
    · rw [if_pos c]
      rcases ih (k + 1) with ⟨h1, h2⟩ | ⟨j, h1, h2, h3, h4, h5⟩
      · refine Or.inl ⟨h1, fun j q1 q2 => ?_⟩
        rcases Nat.eq_or_lt_of_le q1 with e | e
        · rw [← e]; exact c
        · exact h2 j (by omega) (by omega)
      · refine Or.inr ⟨j, by omega, by omega, h3, h4, fun i q1 q2 => ?_⟩
        rcases Nat.eq_or_lt_of_le q1 with e | e
        · rw [← e]; exact c
        · exact h5 i (by omega) q2
    · rw [if_neg c]
      exact Or.inr ⟨k, Nat.le_refl k, by omega, rfl, c, fun i h1 h2 => by omega⟩
/-- the first of the smallest sets among the first n -/
def bestN (p : Nat → Bool) : Nat → Int
  | 0 => -9
  | n + 1 => if p n = true ∧ (bestN p n < 0 ∨ pop8 n < pop8 (bestN p n).toNat) then (n : Int) else bestN p n
theorem bestN_spec (p : Nat → Bool) (n : Nat) : (bestN p n = -9 ∧ ∀ j, j < n → p j = false) ∨ (∃ j, j < n ∧ bestN p n = (j : Int) ∧ p j = true ∧ (∀ i, i < n → p i = true → pop8 j ≤ pop8 i) ∧ ∀ i, i < j → p i = true → pop8 j < pop8 i) := by
  induction n with
  | zero => exact Or.inl ⟨rfl, fun j h => by omega⟩
  | succ n ih =>
    simp only [bestN]
    rcases ih with ⟨h1, h2⟩ | ⟨j, h1, h2, h3, h4, h5⟩
    · by_cases c : p n = true
      · rw [if_pos ⟨c, Or.inl (by omega)⟩]
        refine Or.inr ⟨n, by omega, rfl, c, fun i q1 q2 => ?_, fun i q1 q2 => ?_⟩
        · rcases Nat.lt_or_ge i n with e | e
          · rw [h2 i e] at q2; exact absurd q2 (by decide)
          · rw [show i = n by omega]; exact Nat.le_refl _
        · rw [h2 i q1] at q2; exact absurd q2 (by decide)
      · rw [if_neg (fun q => c q.1)]
        refine Or.inl ⟨h1, fun i q => ?_⟩
        rcases Nat.lt_or_ge i n with e | e
        · exact h2 i e
        · rw [show i = n by omega]; exact Bool.eq_false_iff.mpr c
    · rw [h2, Int.toNat_natCast]
      by_cases c : p n = true ∧ pop8 n < pop8 j
      · rw [if_pos ⟨c.1, Or.inr c.2⟩]
        refine Or.inr ⟨n, by omega, rfl, c.1, fun i q1 q2 => ?_, fun i q1 q2 => ?_⟩
        · rcases Nat.lt_or_ge i n with e | e
          · have := h4 i e q2; omega
          · rw [show i = n by omega]; exact Nat.le_refl _
        · have := h4 i q1 q2; omega
      · rw [if_neg (fun q => c ⟨q.1, by rcases q.2 with z | z; omega; exact z⟩)]
        refine Or.inr ⟨j, by omega, rfl, h3, fun i q1 q2 => ?_, h5⟩
        rcases Nat.lt_or_ge i n with e | e
        · exact h4 i e q2
        · have e2 : i = n := by omega
          subst e2
          rcases Nat.lt_or_ge (pop8 i) (pop8 j) with z | z
          · exact absurd ⟨q2, z⟩ c
          · exact z
theorem best_scan (p : Nat → Bool) : scan2 (fun z => firstN (fun b => p b && decide (pop8 b = z)) 0 256) 0 9 = bestN p 256 := by
  have hf : ∀ z : Nat, (firstN (fun b => p b && decide (pop8 b = z)) 0 256 = -9 ∧ ∀ j : Nat, j < 256 → p j = true → pop8 j ≠ z) ∨ (∃ j : Nat, j < 256 ∧ firstN (fun b => p b && decide (pop8 b = z)) 0 256 = (j : Int) ∧ p j = true ∧ pop8 j = z ∧ ∀ i : Nat, i < j → p i = true → pop8 i ≠ z) := by
    intro z
    rcases firstN_spec (fun b => p b && decide (pop8 b = z)) 0 256 with ⟨h1, h2⟩ | ⟨j, h1, h2, h3, h4, h5⟩
    · refine Or.inl ⟨h1, fun j q1 q2 q3 => ?_⟩
      have := h2 j (by omega) (by omega)
      simp [q2, q3] at this
    · have h4 : (p j && decide (pop8 j = z)) = true := h4
      rw [Bool.and_eq_true, decide_eq_true_eq] at h4
      refine Or.inr ⟨j, by omega, h3, h4.1, h4.2, fun i q1 q2 q3 => ?_⟩
      have := h5 i (by omega) q1
      simp [q2, q3] at this
  rcases bestN_spec p 256 with ⟨b1, b2⟩ | ⟨b, b1, b2, b3, b4, b5⟩
  · rw [b1]
    rcases scan2_spec (fun z => firstN (fun b => p b && decide (pop8 b = z)) 0 256) 0 9 with ⟨h1, _⟩ | ⟨z, _, _, _, h4, _⟩
    · exact h1
    · rcases hf z with ⟨k1, _⟩ | ⟨j, k1, _, k3, _⟩
      · exact absurd k1 h4
      · rw [b2 j k1] at k3; exact absurd k3 (by decide)
  · rw [b2]
    have hp := pop8_le b
    rcases scan2_spec (fun z => firstN (fun b => p b && decide (pop8 b = z)) 0 256) 0 9 with ⟨_, h2⟩ | ⟨z, z1, z2, h3, h4, h5⟩
    · have e := h2 (pop8 b) (by omega) (by omega)
      rcases hf (pop8 b) with ⟨_, k2⟩ | ⟨j, k1, k2, _⟩
      · exact absurd rfl (k2 b b1 b3)
      · have e : firstN (fun c => p c && decide (pop8 c = pop8 b)) 0 256 = -9 := e
        omega
    · rw [h3]
      rcases hf z with ⟨k1, _⟩ | ⟨j, k1, k2, k3, k4, k5⟩
      · exact absurd k1 h4
      · show firstN (fun c => p c && decide (pop8 c = z)) 0 256 = _
        rw [k2]
        have l1 := b4 j k1 k3
        have l2 : ¬ pop8 b < z := fun q => by
          have e := h5 (pop8 b) (by omega) q
          rcases hf (pop8 b) with ⟨_, m2⟩ | ⟨i, _, m2, _⟩
          · exact absurd rfl (m2 b b1 b3)
          · have e : firstN (fun c => p c && decide (pop8 c = pop8 b)) 0 256 = -9 := e
            omega
        have l3 : pop8 b = z := by omega
        rcases Nat.lt_trichotomy j b with q | q | q
        · have := b5 j q k3; omega
        · rw [q]
        · exact absurd l3 (k5 b q b3)
end
/-! setsM -/
section
/-! ===== the reference: sets of men ===== -/
theorem anb_sub {b c n : Nat} (h : anb b c = 0) (hc : lowB c n) : lowB b n := by
  intro j hj
  have e : (anb b c).testBit j = false := by rw [h]; exact Nat.zero_testBit j
  rw [anb_bit, hc j hj] at e
  simpa using e
theorem lowB_lt {b n : Nat} (h : lowB b n) : b < 2 ^ n := Nat.lt_pow_two_of_testBit b h
theorem lt_lowB {b n : Nat} (h : b < 2 ^ n) : lowB b n := fun j hj => Nat.testBit_lt_two_pow (Nat.lt_of_lt_of_le h (Nat.pow_le_pow_right (by omega) hj))
theorem mask_low (p : Nat → Bool) (n : Nat) : lowB (mask p n) n := lt_lowB (mask_lt p n)
theorem stN_stop {R : RR} {b n : Nat} (h : lowB b n) (j : Nat) : stN R b (n + j) = stN R b n := by
  induction j with
  | zero => rfl
  | succ j ih =>
    rw [← Nat.add_assoc]
    simp only [stN]
    rw [if_neg (by rw [h (n + j) (by omega)]; decide), ih]
theorem bestN_stop {p : Nat → Bool} {n : Nat} (h : ∀ b, n ≤ b → p b = false) (j : Nat) : bestN p (n + j) = bestN p n := by
  induction j with
  | zero => rfl
  | succ j ih =>
    rw [← Nat.add_assoc]
    simp only [bestN]
    rw [if_neg (fun q => by rw [h (n + j) (by omega)] at q; exact absurd q.1 (by decide)), ih]
theorem bestN_rng (p : Nat → Bool) (n : Nat) : bestN p n = -9 ∨ (0 ≤ bestN p n ∧ bestN p n < n) := by
  rcases bestN_spec p n with ⟨h, _⟩ | ⟨j, h1, h2, _⟩
  · exact Or.inl h
  · exact Or.inr ⟨by omega, by omega⟩
abbrev polP (R : RR) (b : Nat) : Bool := decide (anb b (mask (isF R 1) (hb_ R)) = 0 ∧ needed R ≤ stN R b 8)
theorem pol_eq {R : RR} (hG : GR R) : polF R = bestN (polP R) (2 ^ hb_ R) := by
  have gn := hG.nM
  have e1 : polF R = scan2 (fun z => firstN (fun b => polP R b && decide (pop8 b = z)) 0 256) 0 9 := by
    have : ∀ z, polI R z = firstN (fun b => polP R b && decide (pop8 b = z)) 0 256 := by
      intro z
      simp only [polI]
      congr 1
      funext b
      by_cases c1 : anb b (mask (isF R 1) (hb_ R)) = 0 <;> by_cases c2 : pop8 b = z <;> by_cases c3 : needed R ≤ stN R b 8 <;> simp [polP, c1, c2, c3]
    show scan2 (polI R) 0 9 = _
    congr 1
    funext z
    exact this z
  have hp : 2 ^ hb_ R ≤ 2 ^ 8 := Nat.pow_le_pow_right (by omega) gn.2
  rw [e1, best_scan]
  have := bestN_stop (p := polP R) (n := 2 ^ hb_ R) (fun b hb => by
    refine decide_eq_false (fun q => ?_)
    have := lowB_lt (anb_sub q.1 (mask_low _ _))
    omega) (256 - 2 ^ hb_ R)
  rw [show 2 ^ hb_ R + (256 - 2 ^ hb_ R) = 256 by omega] at this
  exact this
section E21
variable {R : RR} {rf : Nat → Int} {lt : Nat → Int} {lsz : Int} {a0 : Int} {ib : Int} {sm : Int} {pl : Nat → Int} {lo : Nat → Int} {nu : Nat → Int} {kp : Nat → Int} {ig : Nat → Int} {hmg : Int} {p0 : Int} {tk : Int} {ki : Value} {tu : Nat → Int} {tz : Int} {tf : Nat → Int} {tn : Nat → Int} {tsz : Int} {ga : Nat → Int} {sd : Int} {bb : AH} {Q : Option Value → AH → Prop}
theorem con_MbearIn {b : Nat} (hb : b < 256) (hl : lowB b (hb_ R)) (hG : GR R) (hQ : Q (some (.int (zI (stN R b 8)))) (HM R rf lt lsz a0 ib sm pl lo nu kp ig hmg p0 tk ki tu tz tf tn tsz ga sd bb)) : Con M_M_bearIn [.ref 90, .int (zI b)] (HM R rf lt lsz a0 ib sm pl lo nu kp ig hmg p0 tk ki tu tz tf tn tsz ga sd bb) Q := by
  have gm := hG.men
  have gn := hG.nM
  have st := stN_stop (R := R) hl (8 - hb_ R)
  rw [show hb_ R + (8 - hb_ R) = 8 by omega] at st
  rw [st] at hQ
  refine g8_ (L := [some (.ref 90), some (.int (zI b)), none, none]) ok_M_bearIn (Nat.le_of_ble_eq_true rfl) rfl ?_
  refine w_M_bearIn_0 ?_
  simp (disch := omega) only [cm_,aq_,ay_,ag_,b8_,af_,ba_,bb_,bf_,b3_,ac_,bq_,ed_,bs_,ao_,a2_,az_,av_,a4_,dw_,d6_,ea_,d3_,b5_,b1_,fh_,fu_,fp_,fz_,fq_,fk_,f0_,c5_,bd_,ct_,cx_,co_,cr_,cf_,an_,Int.toNat_natCast,b9_,c6_,f3_,di_,dm_,dn_,gv_,f4_,Int.add_zero,Int.zero_add,Int.ediv_one,Nat.reduceAdd,Nat.reduceMul,Int.reduceNeg,Nat.reduceLeDiff,List.length_cons,List.length_nil,true_and,and_true,Nat.zero_add,eq_self,Nat.reduceEqDiff,Int.reduceAdd,Int.reduceSub,Int.reduceMul,not_true_eq_false,not_false_eq_true,Nat.reduceLT,Int.reduceToNat,Int.reduceEq,Int.reduceNe,Int.reduceLT,Int.reduceLE,and_self,and_false,false_implies,true_implies]
  have loop : ∀ n i : Nat, i + n = hb_ R → J M_M_bearIn 4 [some (.ref 90), some (.int (zI b)), some (.int (zI (stN R b i))), some (.int (zI i))] [] (HM R rf lt lsz a0 ib sm pl lo nu kp ig hmg p0 tk ki tu tz tf tn tsz ga sd bb) Q := by
    intro n
    induction n with
    | zero =>
      intro i hi
      have e : i = hb_ R := by omega
      subst e
      refine w_M_bearIn_4 ?_
      simp (disch := omega) only [cm_,aq_,ay_,ag_,b8_,af_,ba_,bb_,bf_,b3_,ac_,bq_,ed_,bs_,ao_,a2_,az_,av_,a4_,dw_,d6_,ea_,d3_,b5_,b1_,fh_,fu_,fp_,fz_,fq_,fk_,f0_,c5_,bd_,ct_,cx_,co_,cr_,cf_,an_,Int.toNat_natCast,b9_,c6_,f3_,di_,dm_,dn_,gv_,f4_,Int.add_zero,Int.zero_add,Int.ediv_one,Nat.reduceAdd,Nat.reduceMul,Int.reduceNeg,Nat.reduceLeDiff,List.length_cons,List.length_nil,true_and,and_true,Nat.zero_add,eq_self,Nat.reduceEqDiff,Int.reduceAdd,Int.reduceSub,Int.reduceMul,not_true_eq_false,not_false_eq_true,Nat.reduceLT,Int.reduceToNat,Int.reduceEq,Int.reduceNe,Int.reduceLT,Int.reduceLE,and_self,and_false,false_implies,true_implies]
      refine ⟨fun _ => ?_, fun q => by omega⟩
      refine w_M_bearIn_38 ?_
      simp (disch := omega) only [cm_,aq_,ay_,ag_,b8_,af_,ba_,bb_,bf_,b3_,ac_,bq_,ed_,bs_,ao_,a2_,az_,av_,a4_,dw_,d6_,ea_,d3_,b5_,b1_,fh_,fu_,fp_,fz_,fq_,fk_,f0_,c5_,bd_,ct_,cx_,co_,cr_,cf_,an_,Int.toNat_natCast,b9_,c6_,f3_,di_,dm_,dn_,gv_,f4_,Int.add_zero,Int.zero_add,Int.ediv_one,Nat.reduceAdd,Nat.reduceMul,Int.reduceNeg,Nat.reduceLeDiff,List.length_cons,List.length_nil,true_and,and_true,Nat.zero_add,eq_self,Nat.reduceEqDiff,Int.reduceAdd,Int.reduceSub,Int.reduceMul,not_true_eq_false,not_false_eq_true,Nat.reduceLT,Int.reduceToNat,Int.reduceEq,Int.reduceNe,Int.reduceLT,Int.reduceLE,and_self,and_false,false_implies,true_implies]
      exact hQ
    | succ n ih =>
      intro i hi
      have step := ih (i + 1) (by omega)
      simp only [stN] at step
      refine w_M_bearIn_4 ?_
      simp (disch := omega) only [cm_,aq_,ay_,ag_,b8_,af_,ba_,bb_,bf_,b3_,ac_,bq_,ed_,bs_,ao_,a2_,az_,av_,a4_,dw_,d6_,ea_,d3_,b5_,b1_,fh_,fu_,fp_,fz_,fq_,fk_,f0_,c5_,bd_,ct_,cx_,co_,cr_,cf_,an_,Int.toNat_natCast,b9_,c6_,f3_,di_,dm_,dn_,gv_,f4_,Int.add_zero,Int.zero_add,Int.ediv_one,Nat.reduceAdd,Nat.reduceMul,Int.reduceNeg,Nat.reduceLeDiff,List.length_cons,List.length_nil,true_and,and_true,Nat.zero_add,eq_self,Nat.reduceEqDiff,Int.reduceAdd,Int.reduceSub,Int.reduceMul,not_true_eq_false,not_false_eq_true,Nat.reduceLT,Int.reduceToNat,Int.reduceEq,Int.reduceNe,Int.reduceLT,Int.reduceLE,and_self,and_false,false_implies,true_implies]
      refine ⟨fun q => by omega, fun _ => ?_⟩
      refine con_MhasBit (b := b) (i := i) (by omega) (by omega) (fun c => ?_) (fun c => ?_)
      · rw [if_pos c] at step
        simp (disch := omega) only [cm_,aq_,ay_,ag_,b8_,af_,ba_,bb_,bf_,b3_,ac_,bq_,ed_,bs_,ao_,a2_,az_,av_,a4_,dw_,d6_,ea_,d3_,b5_,b1_,fh_,fu_,fp_,fz_,fq_,fk_,f0_,c5_,bd_,ct_,cx_,co_,cr_,cf_,an_,Int.toNat_natCast,b9_,c6_,f3_,di_,dm_,dn_,gv_,f4_,Int.add_zero,Int.zero_add,Int.ediv_one,Nat.reduceAdd,Nat.reduceMul,Int.reduceNeg,Nat.reduceLeDiff,List.length_cons,List.length_nil,true_and,and_true,Nat.zero_add,eq_self,Nat.reduceEqDiff,Int.reduceAdd,Int.reduceSub,Int.reduceMul,not_true_eq_false,not_false_eq_true,Nat.reduceLT,Int.reduceToNat,Int.reduceEq,Int.reduceNe,Int.reduceLT,Int.reduceLE,and_self,and_false,false_implies,true_implies]
        refine con_MbearsOf (by omega) hG ?_
        simp (disch := omega) only [cm_,aq_,ay_,ag_,b8_,af_,ba_,bb_,bf_,b3_,ac_,bq_,ed_,bs_,ao_,a2_,az_,av_,a4_,dw_,d6_,ea_,d3_,b5_,b1_,fh_,fu_,fp_,fz_,fq_,fk_,f0_,c5_,bd_,ct_,cx_,co_,cr_,cf_,an_,Int.toNat_natCast,b9_,c6_,f3_,di_,dm_,dn_,gv_,f4_,Int.add_zero,Int.zero_add,Int.ediv_one,Nat.reduceAdd,Nat.reduceMul,Int.reduceNeg,Nat.reduceLeDiff,List.length_cons,List.length_nil,true_and,and_true,Nat.zero_add,eq_self,Nat.reduceEqDiff,Int.reduceAdd,Int.reduceSub,Int.reduceMul,not_true_eq_false,not_false_eq_true,Nat.reduceLT,Int.reduceToNat,Int.reduceEq,Int.reduceNe,Int.reduceLT,Int.reduceLE,and_self,and_false,false_implies,true_implies]
        refine w_M_bearIn_30 ?_
        simp (disch := omega) only [cm_,aq_,ay_,ag_,b8_,af_,ba_,bb_,bf_,b3_,ac_,bq_,ed_,bs_,ao_,a2_,az_,av_,a4_,dw_,d6_,ea_,d3_,b5_,b1_,fh_,fu_,fp_,fz_,fq_,fk_,f0_,c5_,bd_,ct_,cx_,co_,cr_,cf_,an_,Int.toNat_natCast,b9_,c6_,f3_,di_,dm_,dn_,gv_,f4_,Int.add_zero,Int.zero_add,Int.ediv_one,Nat.reduceAdd,Nat.reduceMul,Int.reduceNeg,Nat.reduceLeDiff,List.length_cons,List.length_nil,true_and,and_true,Nat.zero_add,eq_self,Nat.reduceEqDiff,Int.reduceAdd,Int.reduceSub,Int.reduceMul,not_true_eq_false,not_false_eq_true,Nat.reduceLT,Int.reduceToNat,Int.reduceEq,Int.reduceNe,Int.reduceLT,Int.reduceLE,and_self,and_false,false_implies,true_implies]
        exact step
      · rw [if_neg (by rw [c]; decide)] at step
        simp (disch := omega) only [cm_,aq_,ay_,ag_,b8_,af_,ba_,bb_,bf_,b3_,ac_,bq_,ed_,bs_,ao_,a2_,az_,av_,a4_,dw_,d6_,ea_,d3_,b5_,b1_,fh_,fu_,fp_,fz_,fq_,fk_,f0_,c5_,bd_,ct_,cx_,co_,cr_,cf_,an_,Int.toNat_natCast,b9_,c6_,f3_,di_,dm_,dn_,gv_,f4_,Int.add_zero,Int.zero_add,Int.ediv_one,Nat.reduceAdd,Nat.reduceMul,Int.reduceNeg,Nat.reduceLeDiff,List.length_cons,List.length_nil,true_and,and_true,Nat.zero_add,eq_self,Nat.reduceEqDiff,Int.reduceAdd,Int.reduceSub,Int.reduceMul,not_true_eq_false,not_false_eq_true,Nat.reduceLT,Int.reduceToNat,Int.reduceEq,Int.reduceNe,Int.reduceLT,Int.reduceLE,and_self,and_false,false_implies,true_implies]
        refine w_M_bearIn_29 ?_
        simp (disch := omega) only [cm_,aq_,ay_,ag_,b8_,af_,ba_,bb_,bf_,b3_,ac_,bq_,ed_,bs_,ao_,a2_,az_,av_,a4_,dw_,d6_,ea_,d3_,b5_,b1_,fh_,fu_,fp_,fz_,fq_,fk_,f0_,c5_,bd_,ct_,cx_,co_,cr_,cf_,an_,Int.toNat_natCast,b9_,c6_,f3_,di_,dm_,dn_,gv_,f4_,Int.add_zero,Int.zero_add,Int.ediv_one,Nat.reduceAdd,Nat.reduceMul,Int.reduceNeg,Nat.reduceLeDiff,List.length_cons,List.length_nil,true_and,and_true,Nat.zero_add,eq_self,Nat.reduceEqDiff,Int.reduceAdd,Int.reduceSub,Int.reduceMul,not_true_eq_false,not_false_eq_true,Nat.reduceLT,Int.reduceToNat,Int.reduceEq,Int.reduceNe,Int.reduceLT,Int.reduceLE,and_self,and_false,false_implies,true_implies]
        refine w_M_bearIn_30 ?_
        simp (disch := omega) only [cm_,aq_,ay_,ag_,b8_,af_,ba_,bb_,bf_,b3_,ac_,bq_,ed_,bs_,ao_,a2_,az_,av_,a4_,dw_,d6_,ea_,d3_,b5_,b1_,fh_,fu_,fp_,fz_,fq_,fk_,f0_,c5_,bd_,ct_,cx_,co_,cr_,cf_,an_,Int.toNat_natCast,b9_,c6_,f3_,di_,dm_,dn_,gv_,f4_,Int.add_zero,Int.zero_add,Int.ediv_one,Nat.reduceAdd,Nat.reduceMul,Int.reduceNeg,Nat.reduceLeDiff,List.length_cons,List.length_nil,true_and,and_true,Nat.zero_add,eq_self,Nat.reduceEqDiff,Int.reduceAdd,Int.reduceSub,Int.reduceMul,not_true_eq_false,not_false_eq_true,Nat.reduceLT,Int.reduceToNat,Int.reduceEq,Int.reduceNe,Int.reduceLT,Int.reduceLE,and_self,and_false,false_implies,true_implies]
        exact step
  exact loop _ 0 (Nat.zero_add _)
theorem con_MleastPoles (hG : GR R) (hQ : Q (some (.int (zI (polF R)))) (HM R rf lt lsz a0 ib sm pl lo nu kp ig hmg p0 tk ki tu tz tf tn tsz ga sd bb)) : Con M_M_leastPoles [.ref 90] (HM R rf lt lsz a0 ib sm pl lo nu kp ig hmg p0 tk ki tu tz tf tn tsz ga sd bb) Q := by
  have gm := hG.men
  have gn := hG.nM
  have gd := needed_rng hG
  have hp : 2 ^ hb_ R ≤ 2 ^ 8 := Nat.pow_le_pow_right (by omega) gn.2
  have hm := mask_256 (isF R 1) gn.2
  rw [pol_eq hG] at hQ
  have esh : zI 1 <<< (zI (rMen R) &&& 31) = zI ((2 ^ hb_ R : Nat) : Int) := b9_ (by omega) (by omega)
  refine g8_ (L := [some (.ref 90), none, none, none]) ok_M_leastPoles (Nat.le_of_ble_eq_true rfl) rfl ?_
  refine w_M_leastPoles_0 ?_
  simp (disch := omega) only [cm_,aq_,ay_,ag_,b8_,af_,ba_,bb_,bf_,b3_,ac_,bq_,ed_,bs_,ao_,a2_,az_,av_,a4_,dw_,d6_,ea_,d3_,b5_,b1_,fh_,fu_,fp_,fz_,fq_,fk_,f0_,c5_,bd_,ct_,cx_,co_,cr_,cf_,an_,Int.toNat_natCast,b9_,c6_,f3_,di_,dm_,dn_,gv_,f4_,Int.add_zero,Int.zero_add,Int.ediv_one,Nat.reduceAdd,Nat.reduceMul,Int.reduceNeg,Nat.reduceLeDiff,List.length_cons,List.length_nil,true_and,and_true,Nat.zero_add,eq_self,Nat.reduceEqDiff,Int.reduceAdd,Int.reduceSub,Int.reduceMul,not_true_eq_false,not_false_eq_true,Nat.reduceLT,Int.reduceToNat,Int.reduceEq,Int.reduceNe,Int.reduceLT,Int.reduceLE,and_self,and_false,false_implies,true_implies]
  have loop : ∀ k s : Nat, s + k = 2 ^ hb_ R → ∀ y, J M_M_leastPoles 5 [some (.ref 90), some (.int (zI (bestN (polP R) s))), some (.int (zI s)), y] [] (HM R rf lt lsz a0 ib sm pl lo nu kp ig hmg p0 tk ki tu tz tf tn tsz ga sd bb) Q := by
    intro k
    induction k with
    | zero =>
      intro s hs y
      have e : s = 2 ^ hb_ R := by omega
      subst e
      refine w_M_leastPoles_5 ?_
      simp (disch := omega) only [cm_,aq_,ay_,ag_,b8_,af_,ba_,bb_,bf_,b3_,ac_,bq_,ed_,bs_,ao_,a2_,az_,av_,a4_,dw_,d6_,ea_,d3_,b5_,b1_,fh_,fu_,fp_,fz_,fq_,fk_,f0_,c5_,bd_,ct_,cx_,co_,cr_,cf_,an_,Int.toNat_natCast,b9_,c6_,f3_,di_,dm_,dn_,gv_,f4_,Int.add_zero,Int.zero_add,Int.ediv_one,Nat.reduceAdd,Nat.reduceMul,Int.reduceNeg,Nat.reduceLeDiff,List.length_cons,List.length_nil,true_and,and_true,Nat.zero_add,eq_self,Nat.reduceEqDiff,Int.reduceAdd,Int.reduceSub,Int.reduceMul,not_true_eq_false,not_false_eq_true,Nat.reduceLT,Int.reduceToNat,Int.reduceEq,Int.reduceNe,Int.reduceLT,Int.reduceLE,and_self,and_false,false_implies,true_implies,esh]
      refine ⟨fun _ => ?_, fun q => by omega⟩
      refine w_M_leastPoles_76 ?_
      simp (disch := omega) only [cm_,aq_,ay_,ag_,b8_,af_,ba_,bb_,bf_,b3_,ac_,bq_,ed_,bs_,ao_,a2_,az_,av_,a4_,dw_,d6_,ea_,d3_,b5_,b1_,fh_,fu_,fp_,fz_,fq_,fk_,f0_,c5_,bd_,ct_,cx_,co_,cr_,cf_,an_,Int.toNat_natCast,b9_,c6_,f3_,di_,dm_,dn_,gv_,f4_,Int.add_zero,Int.zero_add,Int.ediv_one,Nat.reduceAdd,Nat.reduceMul,Int.reduceNeg,Nat.reduceLeDiff,List.length_cons,List.length_nil,true_and,and_true,Nat.zero_add,eq_self,Nat.reduceEqDiff,Int.reduceAdd,Int.reduceSub,Int.reduceMul,not_true_eq_false,not_false_eq_true,Nat.reduceLT,Int.reduceToNat,Int.reduceEq,Int.reduceNe,Int.reduceLT,Int.reduceLE,and_self,and_false,false_implies,true_implies]
      exact hQ
    | succ k ih =>
      intro s hs y
      have step := ih (s + 1) (by omega)
      have br := bestN_rng (polP R) s
      have gb := stN_rng hG s 8
      have hl : lowB s (hb_ R) := lt_lowB (by omega)
      simp only [bestN] at step
      have ps := pop8_le s
      have pb := pop8_le (bestN (polP R) s).toNat
      have no : ¬ (polP R s = true ∧ (bestN (polP R) s < 0 ∨ pop8 s < pop8 (bestN (polP R) s).toNat)) → ∀ y, J M_M_leastPoles 68 [some (.ref 90), some (.int (zI (bestN (polP R) s))), some (.int (zI s)), y] [] (HM R rf lt lsz a0 ib sm pl lo nu kp ig hmg p0 tk ki tu tz tf tn tsz ga sd bb) Q := by
        intro q y
        rw [if_neg q] at step
        refine w_M_leastPoles_68 ?_
        simp (disch := omega) only [cm_,aq_,ay_,ag_,b8_,af_,ba_,bb_,bf_,b3_,ac_,bq_,ed_,bs_,ao_,a2_,az_,av_,a4_,dw_,d6_,ea_,d3_,b5_,b1_,fh_,fu_,fp_,fz_,fq_,fk_,f0_,c5_,bd_,ct_,cx_,co_,cr_,cf_,an_,Int.toNat_natCast,b9_,c6_,f3_,di_,dm_,dn_,gv_,f4_,Int.add_zero,Int.zero_add,Int.ediv_one,Nat.reduceAdd,Nat.reduceMul,Int.reduceNeg,Nat.reduceLeDiff,List.length_cons,List.length_nil,true_and,and_true,Nat.zero_add,eq_self,Nat.reduceEqDiff,Int.reduceAdd,Int.reduceSub,Int.reduceMul,not_true_eq_false,not_false_eq_true,Nat.reduceLT,Int.reduceToNat,Int.reduceEq,Int.reduceNe,Int.reduceLT,Int.reduceLE,and_self,and_false,false_implies,true_implies]
        refine w_M_leastPoles_69 ?_
        simp (disch := omega) only [cm_,aq_,ay_,ag_,b8_,af_,ba_,bb_,bf_,b3_,ac_,bq_,ed_,bs_,ao_,a2_,az_,av_,a4_,dw_,d6_,ea_,d3_,b5_,b1_,fh_,fu_,fp_,fz_,fq_,fk_,f0_,c5_,bd_,ct_,cx_,co_,cr_,cf_,an_,Int.toNat_natCast,b9_,c6_,f3_,di_,dm_,dn_,gv_,f4_,Int.add_zero,Int.zero_add,Int.ediv_one,Nat.reduceAdd,Nat.reduceMul,Int.reduceNeg,Nat.reduceLeDiff,List.length_cons,List.length_nil,true_and,and_true,Nat.zero_add,eq_self,Nat.reduceEqDiff,Int.reduceAdd,Int.reduceSub,Int.reduceMul,not_true_eq_false,not_false_eq_true,Nat.reduceLT,Int.reduceToNat,Int.reduceEq,Int.reduceNe,Int.reduceLT,Int.reduceLE,and_self,and_false,false_implies,true_implies]
        exact step _
      have yes : (bestN (polP R) s < 0 ∨ pop8 s < pop8 (bestN (polP R) s).toNat) → J M_M_leastPoles 35 [some (.ref 90), some (.int (zI (bestN (polP R) s))), some (.int (zI s)), y] [.int (zI 1)] (HM R rf lt lsz a0 ib sm pl lo nu kp ig hmg p0 tk ki tu tz tf tn tsz ga sd bb) Q := by
        intro q
        refine w_M_leastPoles_35 ?_
        simp (disch := omega) only [cm_,aq_,ay_,ag_,b8_,af_,ba_,bb_,bf_,b3_,ac_,bq_,ed_,bs_,ao_,a2_,az_,av_,a4_,dw_,d6_,ea_,d3_,b5_,b1_,fh_,fu_,fp_,fz_,fq_,fk_,f0_,c5_,bd_,ct_,cx_,co_,cr_,cf_,an_,Int.toNat_natCast,b9_,c6_,f3_,di_,dm_,dn_,gv_,f4_,Int.add_zero,Int.zero_add,Int.ediv_one,Nat.reduceAdd,Nat.reduceMul,Int.reduceNeg,Nat.reduceLeDiff,List.length_cons,List.length_nil,true_and,and_true,Nat.zero_add,eq_self,Nat.reduceEqDiff,Int.reduceAdd,Int.reduceSub,Int.reduceMul,not_true_eq_false,not_false_eq_true,Nat.reduceLT,Int.reduceToNat,Int.reduceEq,Int.reduceNe,Int.reduceLT,Int.reduceLE,and_self,and_false,false_implies,true_implies]
        refine con_MbitsOf (by unfold inI; omega) hG ?_
        have ea : anb s (mask (isF R 1) (hb_ R)) < 256 := anb_256 (by omega)
        simp (disch := omega) only [cm_,aq_,ay_,ag_,b8_,af_,ba_,bb_,bf_,b3_,ac_,bq_,ed_,bs_,ao_,a2_,az_,av_,a4_,dw_,d6_,ea_,d3_,b5_,b1_,fh_,fu_,fp_,fz_,fq_,fk_,f0_,c5_,bd_,ct_,cx_,co_,cr_,cf_,an_,Int.toNat_natCast,b9_,c6_,f3_,di_,dm_,dn_,gv_,f4_,Int.add_zero,Int.zero_add,Int.ediv_one,Nat.reduceAdd,Nat.reduceMul,Int.reduceNeg,Nat.reduceLeDiff,List.length_cons,List.length_nil,true_and,and_true,Nat.zero_add,eq_self,Nat.reduceEqDiff,Int.reduceAdd,Int.reduceSub,Int.reduceMul,not_true_eq_false,not_false_eq_true,Nat.reduceLT,Int.reduceToNat,Int.reduceEq,Int.reduceNe,Int.reduceLT,Int.reduceLE,and_self,and_false,false_implies,true_implies]
        refine ⟨fun c => no (fun z => ?_) _, fun c => ?_⟩
        · have := of_decide_eq_true z.1
          omega
        · refine con_MbearIn (by omega) hl hG ?_
          simp (disch := omega) only [cm_,aq_,ay_,ag_,b8_,af_,ba_,bb_,bf_,b3_,ac_,bq_,ed_,bs_,ao_,a2_,az_,av_,a4_,dw_,d6_,ea_,d3_,b5_,b1_,fh_,fu_,fp_,fz_,fq_,fk_,f0_,c5_,bd_,ct_,cx_,co_,cr_,cf_,an_,Int.toNat_natCast,b9_,c6_,f3_,di_,dm_,dn_,gv_,f4_,Int.add_zero,Int.zero_add,Int.ediv_one,Nat.reduceAdd,Nat.reduceMul,Int.reduceNeg,Nat.reduceLeDiff,List.length_cons,List.length_nil,true_and,and_true,Nat.zero_add,eq_self,Nat.reduceEqDiff,Int.reduceAdd,Int.reduceSub,Int.reduceMul,not_true_eq_false,not_false_eq_true,Nat.reduceLT,Int.reduceToNat,Int.reduceEq,Int.reduceNe,Int.reduceLT,Int.reduceLE,and_self,and_false,false_implies,true_implies]
          refine con_MneededHere hG ?_
          simp (disch := omega) only [cm_,aq_,ay_,ag_,b8_,af_,ba_,bb_,bf_,b3_,ac_,bq_,ed_,bs_,ao_,a2_,az_,av_,a4_,dw_,d6_,ea_,d3_,b5_,b1_,fh_,fu_,fp_,fz_,fq_,fk_,f0_,c5_,bd_,ct_,cx_,co_,cr_,cf_,an_,Int.toNat_natCast,b9_,c6_,f3_,di_,dm_,dn_,gv_,f4_,Int.add_zero,Int.zero_add,Int.ediv_one,Nat.reduceAdd,Nat.reduceMul,Int.reduceNeg,Nat.reduceLeDiff,List.length_cons,List.length_nil,true_and,and_true,Nat.zero_add,eq_self,Nat.reduceEqDiff,Int.reduceAdd,Int.reduceSub,Int.reduceMul,not_true_eq_false,not_false_eq_true,Nat.reduceLT,Int.reduceToNat,Int.reduceEq,Int.reduceNe,Int.reduceLT,Int.reduceLE,and_self,and_false,false_implies,true_implies]
          refine ⟨fun c2 => no (fun z => ?_) _, fun c2 => ?_⟩
          · have := of_decide_eq_true z.1
            omega
          · rw [if_pos ⟨decide_eq_true ⟨by omega, by omega⟩, q⟩] at step
            refine w_M_leastPoles_69 ?_
            simp (disch := omega) only [cm_,aq_,ay_,ag_,b8_,af_,ba_,bb_,bf_,b3_,ac_,bq_,ed_,bs_,ao_,a2_,az_,av_,a4_,dw_,d6_,ea_,d3_,b5_,b1_,fh_,fu_,fp_,fz_,fq_,fk_,f0_,c5_,bd_,ct_,cx_,co_,cr_,cf_,an_,Int.toNat_natCast,b9_,c6_,f3_,di_,dm_,dn_,gv_,f4_,Int.add_zero,Int.zero_add,Int.ediv_one,Nat.reduceAdd,Nat.reduceMul,Int.reduceNeg,Nat.reduceLeDiff,List.length_cons,List.length_nil,true_and,and_true,Nat.zero_add,eq_self,Nat.reduceEqDiff,Int.reduceAdd,Int.reduceSub,Int.reduceMul,not_true_eq_false,not_false_eq_true,Nat.reduceLT,Int.reduceToNat,Int.reduceEq,Int.reduceNe,Int.reduceLT,Int.reduceLE,and_self,and_false,false_implies,true_implies]
            exact step _
      refine w_M_leastPoles_5 ?_
      simp (disch := omega) only [cm_,aq_,ay_,ag_,b8_,af_,ba_,bb_,bf_,b3_,ac_,bq_,ed_,bs_,ao_,a2_,az_,av_,a4_,dw_,d6_,ea_,d3_,b5_,b1_,fh_,fu_,fp_,fz_,fq_,fk_,f0_,c5_,bd_,ct_,cx_,co_,cr_,cf_,an_,Int.toNat_natCast,b9_,c6_,f3_,di_,dm_,dn_,gv_,f4_,Int.add_zero,Int.zero_add,Int.ediv_one,Nat.reduceAdd,Nat.reduceMul,Int.reduceNeg,Nat.reduceLeDiff,List.length_cons,List.length_nil,true_and,and_true,Nat.zero_add,eq_self,Nat.reduceEqDiff,Int.reduceAdd,Int.reduceSub,Int.reduceMul,not_true_eq_false,not_false_eq_true,Nat.reduceLT,Int.reduceToNat,Int.reduceEq,Int.reduceNe,Int.reduceLT,Int.reduceLE,and_self,and_false,false_implies,true_implies,esh]
      refine ⟨fun q => by omega, fun _ => ⟨fun c => ?_, fun c => ?_⟩⟩
      · refine w_M_leastPoles_30 ?_
        simp (disch := omega) only [cm_,aq_,ay_,ag_,b8_,af_,ba_,bb_,bf_,b3_,ac_,bq_,ed_,bs_,ao_,a2_,az_,av_,a4_,dw_,d6_,ea_,d3_,b5_,b1_,fh_,fu_,fp_,fz_,fq_,fk_,f0_,c5_,bd_,ct_,cx_,co_,cr_,cf_,an_,Int.toNat_natCast,b9_,c6_,f3_,di_,dm_,dn_,gv_,f4_,Int.add_zero,Int.zero_add,Int.ediv_one,Nat.reduceAdd,Nat.reduceMul,Int.reduceNeg,Nat.reduceLeDiff,List.length_cons,List.length_nil,true_and,and_true,Nat.zero_add,eq_self,Nat.reduceEqDiff,Int.reduceAdd,Int.reduceSub,Int.reduceMul,not_true_eq_false,not_false_eq_true,Nat.reduceLT,Int.reduceToNat,Int.reduceEq,Int.reduceNe,Int.reduceLT,Int.reduceLE,and_self,and_false,false_implies,true_implies]
        exact yes (Or.inl (by omega))
      · refine con_MonesOf (b := s) (by omega) ?_
        have eb : bestN (polP R) s = ((bestN (polP R) s).toNat : Int) := by omega
        simp (disch := omega) only [cm_,aq_,ay_,ag_,b8_,af_,ba_,bb_,bf_,b3_,ac_,bq_,ed_,bs_,ao_,a2_,az_,av_,a4_,dw_,d6_,ea_,d3_,b5_,b1_,fh_,fu_,fp_,fz_,fq_,fk_,f0_,c5_,bd_,ct_,cx_,co_,cr_,cf_,an_,Int.toNat_natCast,b9_,c6_,f3_,di_,dm_,dn_,gv_,f4_,Int.add_zero,Int.zero_add,Int.ediv_one,Nat.reduceAdd,Nat.reduceMul,Int.reduceNeg,Nat.reduceLeDiff,List.length_cons,List.length_nil,true_and,and_true,Nat.zero_add,eq_self,Nat.reduceEqDiff,Int.reduceAdd,Int.reduceSub,Int.reduceMul,not_true_eq_false,not_false_eq_true,Nat.reduceLT,Int.reduceToNat,Int.reduceEq,Int.reduceNe,Int.reduceLT,Int.reduceLE,and_self,and_false,false_implies,true_implies]
        rw [eb]
        refine con_MonesOf (by omega) ?_
        rw [← eb]
        simp (disch := omega) only [cm_,aq_,ay_,ag_,b8_,af_,ba_,bb_,bf_,b3_,ac_,bq_,ed_,bs_,ao_,a2_,az_,av_,a4_,dw_,d6_,ea_,d3_,b5_,b1_,fh_,fu_,fp_,fz_,fq_,fk_,f0_,c5_,bd_,ct_,cx_,co_,cr_,cf_,an_,Int.toNat_natCast,b9_,c6_,f3_,di_,dm_,dn_,gv_,f4_,Int.add_zero,Int.zero_add,Int.ediv_one,Nat.reduceAdd,Nat.reduceMul,Int.reduceNeg,Nat.reduceLeDiff,List.length_cons,List.length_nil,true_and,and_true,Nat.zero_add,eq_self,Nat.reduceEqDiff,Int.reduceAdd,Int.reduceSub,Int.reduceMul,not_true_eq_false,not_false_eq_true,Nat.reduceLT,Int.reduceToNat,Int.reduceEq,Int.reduceNe,Int.reduceLT,Int.reduceLE,and_self,and_false,false_implies,true_implies]
        refine ⟨fun c2 => ?_, fun c2 => ?_⟩
        · refine w_M_leastPoles_34 ?_
          simp (disch := omega) only [cm_,aq_,ay_,ag_,b8_,af_,ba_,bb_,bf_,b3_,ac_,bq_,ed_,bs_,ao_,a2_,az_,av_,a4_,dw_,d6_,ea_,d3_,b5_,b1_,fh_,fu_,fp_,fz_,fq_,fk_,f0_,c5_,bd_,ct_,cx_,co_,cr_,cf_,an_,Int.toNat_natCast,b9_,c6_,f3_,di_,dm_,dn_,gv_,f4_,Int.add_zero,Int.zero_add,Int.ediv_one,Nat.reduceAdd,Nat.reduceMul,Int.reduceNeg,Nat.reduceLeDiff,List.length_cons,List.length_nil,true_and,and_true,Nat.zero_add,eq_self,Nat.reduceEqDiff,Int.reduceAdd,Int.reduceSub,Int.reduceMul,not_true_eq_false,not_false_eq_true,Nat.reduceLT,Int.reduceToNat,Int.reduceEq,Int.reduceNe,Int.reduceLT,Int.reduceLE,and_self,and_false,false_implies,true_implies]
          refine w_M_leastPoles_35 ?_
          simp (disch := omega) only [cm_,aq_,ay_,ag_,b8_,af_,ba_,bb_,bf_,b3_,ac_,bq_,ed_,bs_,ao_,a2_,az_,av_,a4_,dw_,d6_,ea_,d3_,b5_,b1_,fh_,fu_,fp_,fz_,fq_,fk_,f0_,c5_,bd_,ct_,cx_,co_,cr_,cf_,an_,Int.toNat_natCast,b9_,c6_,f3_,di_,dm_,dn_,gv_,f4_,Int.add_zero,Int.zero_add,Int.ediv_one,Nat.reduceAdd,Nat.reduceMul,Int.reduceNeg,Nat.reduceLeDiff,List.length_cons,List.length_nil,true_and,and_true,Nat.zero_add,eq_self,Nat.reduceEqDiff,Int.reduceAdd,Int.reduceSub,Int.reduceMul,not_true_eq_false,not_false_eq_true,Nat.reduceLT,Int.reduceToNat,Int.reduceEq,Int.reduceNe,Int.reduceLT,Int.reduceLE,and_self,and_false,false_implies,true_implies]
          exact no (fun z => by rcases z.2 with z2 | z2 <;> omega) _
        · refine w_M_leastPoles_30 ?_
          simp (disch := omega) only [cm_,aq_,ay_,ag_,b8_,af_,ba_,bb_,bf_,b3_,ac_,bq_,ed_,bs_,ao_,a2_,az_,av_,a4_,dw_,d6_,ea_,d3_,b5_,b1_,fh_,fu_,fp_,fz_,fq_,fk_,f0_,c5_,bd_,ct_,cx_,co_,cr_,cf_,an_,Int.toNat_natCast,b9_,c6_,f3_,di_,dm_,dn_,gv_,f4_,Int.add_zero,Int.zero_add,Int.ediv_one,Nat.reduceAdd,Nat.reduceMul,Int.reduceNeg,Nat.reduceLeDiff,List.length_cons,List.length_nil,true_and,and_true,Nat.zero_add,eq_self,Nat.reduceEqDiff,Int.reduceAdd,Int.reduceSub,Int.reduceMul,not_true_eq_false,not_false_eq_true,Nat.reduceLT,Int.reduceToNat,Int.reduceEq,Int.reduceNe,Int.reduceLT,Int.reduceLE,and_self,and_false,false_implies,true_implies]
          exact yes (Or.inr (by omega))
  exact loop _ 0 (Nat.zero_add _) none
end E21
end
/-! diesM -/
section
/-! ===== the reference: who dies first ===== -/
theorem diesF_spec (R : RR) (m : Nat) : (diesF g6_ R m = -9 ∧ ∀ d, d < 61 → rFa (g6_ R d) m ≠ 2) ∨ (∃ d : Nat, d < 61 ∧ diesF g6_ R m = (d : Int) ∧ rFa (g6_ R d) m = 2 ∧ ∀ i, i < d → rFa (g6_ R i) m ≠ 2) := by
  rcases firstN_spec (fun d => decide (rFa (g6_ R d) m = 2)) 0 61 with ⟨h1, h2⟩ | ⟨j, h1, h2, h3, h4, h5⟩
  · exact Or.inl ⟨h1, fun d h => of_decide_eq_false (h2 d (by omega) (by omega))⟩
  · exact Or.inr ⟨j, by omega, h3, of_decide_eq_true h4, fun i h => of_decide_eq_false (h5 i (by omega) h)⟩
/-- the first who dies, and when -/
def fdN (R : RR) : Nat → Int × Int
  | 0 => (-9, 61)
  | m + 1 => if rFa R m = 1 ∧ 0 ≤ diesF g6_ R m ∧ diesF g6_ R m < (fdN R m).2 then ((m : Int), diesF g6_ R m) else fdN R m
theorem fdN_spec (R : RR) (m : Nat) : (fdN R m = (-9, 61) ∧ ∀ j, j < m → rFa R j = 1 → diesF g6_ R j = -9) ∨ (∃ j, j < m ∧ fdN R m = ((j : Int), diesF g6_ R j) ∧ rFa R j = 1 ∧ 0 ≤ diesF g6_ R j ∧ (∀ i, i < m → rFa R i = 1 → diesF g6_ R i ≠ -9 → diesF g6_ R j ≤ diesF g6_ R i) ∧ (∀ i, i < j → rFa R i = 1 → diesF g6_ R i ≠ -9 → diesF g6_ R j < diesF g6_ R i)) := by
  induction m with
  | zero => exact Or.inl ⟨rfl, fun j h => by omega⟩
  | succ m ih =>
    simp only [fdN]
    have dm := diesF_spec R m
    rcases ih with ⟨h1, h2⟩ | ⟨j, h1, h2, h3, h4, h5, h6⟩
    · rw [h1]
      by_cases c : rFa R m = 1 ∧ 0 ≤ diesF g6_ R m ∧ diesF g6_ R m < 61
      · rw [if_pos c]
        refine Or.inr ⟨m, by omega, rfl, c.1, c.2.1, fun i q1 q2 q3 => ?_, fun i q1 q2 q3 => absurd (h2 i q1 q2) q3⟩
        rcases Nat.lt_or_ge i m with e | e
        · exact absurd (h2 i e q2) q3
        · rw [show i = m by omega]; exact Int.le_refl _
      · rw [if_neg c]
        refine Or.inl ⟨rfl, fun i q1 q2 => ?_⟩
        rcases Nat.lt_or_ge i m with e | e
        · exact h2 i e q2
        · have e2 : i = m := by omega
          subst e2
          rcases dm with z | ⟨d, z1, z2, _⟩
          · exact z.1
          · exact absurd ⟨q2, by omega, by omega⟩ c
    · rw [h2]
      by_cases c : rFa R m = 1 ∧ 0 ≤ diesF g6_ R m ∧ diesF g6_ R m < diesF g6_ R j
      · rw [if_pos c]
        refine Or.inr ⟨m, by omega, rfl, c.1, c.2.1, fun i q1 q2 q3 => ?_, fun i q1 q2 q3 => ?_⟩
        · rcases Nat.lt_or_ge i m with e | e
          · have := h5 i e q2 q3; omega
          · rw [show i = m by omega]; exact Int.le_refl _
        · have := h5 i q1 q2 q3; omega
      · rw [if_neg c]
        refine Or.inr ⟨j, by omega, rfl, h3, h4, fun i q1 q2 q3 => ?_, h6⟩
        rcases Nat.lt_or_ge i m with e | e
        · exact h5 i e q2 q3
        · have e2 : i = m := by omega
          subst e2
          rcases dm with z | ⟨d, z1, z2, _⟩
          · exact absurd z.1 q3
          · rcases Int.lt_or_le (diesF g6_ R i) (diesF g6_ R j) with y | y
            · exact absurd ⟨q2, by omega, y⟩ c
            · exact y
theorem fdN_rng (R : RR) (m : Nat) : 0 ≤ (fdN R m).2 ∧ (fdN R m).2 ≤ 61 ∧ ((fdN R m).1 = -9 ∨ (0 ≤ (fdN R m).1 ∧ (fdN R m).1 < m)) := by
  rcases fdN_spec R m with ⟨h, _⟩ | ⟨j, h1, h2, _, h4, _⟩
  · rw [h]; exact ⟨by decide, by decide, Or.inl rfl⟩
  · rw [h2]
    refine ⟨h4, ?_, Or.inr ⟨Int.natCast_nonneg _, Int.ofNat_lt.mpr h1⟩⟩
    rcases diesF_spec R j with z | ⟨d, z1, z2, _⟩
    · show diesF g6_ R j ≤ 61
      omega
    · show diesF g6_ R j ≤ 61
      omega
theorem fd_eq {R : RR} (hn : hb_ R ≤ 8) : (fdN R (hb_ R)).1 = fdF g6_ R := by
  have hf : ∀ d : Nat, (fdIn g6_ R d = -9 ∧ ∀ m : Nat, m < hb_ R → rFa R m = 1 → rFa (g6_ R (d + 1)) m ≠ 2) ∨ (∃ m : Nat, m < hb_ R ∧ fdIn g6_ R d = (m : Int) ∧ rFa R m = 1 ∧ rFa (g6_ R (d + 1)) m = 2 ∧ ∀ i : Nat, i < m → rFa R i = 1 → rFa (g6_ R (d + 1)) i ≠ 2) := by
    intro d
    rcases firstN_spec (fun m => decide (m < hb_ R ∧ rFa R m = 1 ∧ rFa (g6_ R (d + 1)) m = 2)) 0 8 with ⟨h1, h2⟩ | ⟨j, h1, h2, h3, h4, h5⟩
    · refine Or.inl ⟨h1, fun m q1 q2 q3 => ?_⟩
      have := of_decide_eq_false (h2 m (by omega) (by omega))
      exact this ⟨q1, q2, q3⟩
    · have h4 := of_decide_eq_true h4
      refine Or.inr ⟨j, h4.1, h3, h4.2.1, h4.2.2, fun i q1 q2 q3 => ?_⟩
      have := of_decide_eq_false (h5 i (by omega) q1)
      exact this ⟨by omega, q2, q3⟩
  have no0 : ∀ m, rFa R m = 1 → rFa (g6_ R 0) m ≠ 2 := fun m h => by
    show rFa R m ≠ 2
    omega
  rcases scan2_spec (fdIn g6_ R) 0 60 with ⟨h1, h2⟩ | ⟨d, d1, d2, h3, h4, h5⟩
  · have e : fdF g6_ R = -9 := h1
    rw [e]
    rcases fdN_spec R (hb_ R) with ⟨z, _⟩ | ⟨j, z1, z2, z3, z4, _⟩
    · rw [z]
    · rcases diesF_spec R j with y | ⟨d, y1, y2, y3, _⟩
      · omega
      · have d0 : d ≠ 0 := fun q => by subst q; exact no0 j z3 y3
        obtain ⟨c, rfl⟩ : ∃ c, d = c + 1 := ⟨d - 1, by omega⟩
        rcases hf c with ⟨_, k2⟩ | ⟨m, k1, k2, _⟩
        · exact absurd y3 (k2 j z1 z3)
        · have := h2 c (by omega) (by omega)
          omega
  · have e : fdF g6_ R = fdIn g6_ R d := h3
    rw [e]
    rcases hf d with ⟨k1, _⟩ | ⟨m, k1, k2, k3, k4, k5⟩
    · exact absurd k1 h4
    · rw [k2]
      have early : ∀ i, i < hb_ R → rFa R i = 1 → ∀ c, c < d + 1 → rFa (g6_ R c) i ≠ 2 := by
        intro i q1 q2 c q3
        rcases Nat.eq_zero_or_pos c with y | y
        · subst y; exact no0 i q2
        · obtain ⟨b, rfl⟩ : ∃ b, c = b + 1 := ⟨c - 1, by omega⟩
          rcases hf b with ⟨_, x2⟩ | ⟨v, _, x2, _⟩
          · exact x2 i q1 q2
          · have := h5 b (by omega) (by omega)
            omega
      have dm : diesF g6_ R m = ((d + 1 : Nat) : Int) := by
        rcases diesF_spec R m with y | ⟨c, y1, y2, y3, y4⟩
        · exact absurd k4 (y.2 (d + 1) (by omega))
        · rcases Nat.lt_trichotomy c (d + 1) with q | q | q
          · exact absurd y3 (early m k1 k3 c q)
          · rw [y2, q]
          · exact absurd k4 (y4 (d + 1) q)
      rcases fdN_spec R (hb_ R) with ⟨_, z⟩ | ⟨j, z1, z2, z3, z4, z5, z6⟩
      · have := z m k1 k3
        omega
      · rw [z2]
        show (j : Int) = m
        have dj : ((d + 1 : Nat) : Int) ≤ diesF g6_ R j := by
          rcases diesF_spec R j with y | ⟨c, y1, y2, y3, y4⟩
          · omega
          · rcases Nat.lt_or_ge c (d + 1) with q | q
            · exact absurd y3 (early j z1 z3 c q)
            · omega
        have djm := z5 m k1 k3 (by omega)
        rcases Nat.lt_trichotomy j m with q | q | q
        · exfalso
          rcases diesF_spec R j with y | ⟨c, y1, y2, y3, y4⟩
          · omega
          · have : c = d + 1 := by omega
            subst this
            exact k5 j q z3 y3
        · omega
        · have := z6 m q k3 (by omega)
          omega
section E22
variable {R I : RR} {im : Int} {P : Nat → RR} {pz : Int} {lt : Nat → Int} {lsz : Int} {tn : Nat → Int} {tsz : Int} {rf : Nat → Int} {bb h : AH} {Q : Option Value → AH → Prop}
theorem M_dies {m : Int} (hm : inI m) (hI : GI R)  (W : (MW R I im P pz lt lsz tn tsz rf bb h))
    (r1 : m ≠ -1 → ¬ g7_ R m → ∀ h, (MW R I im P pz lt lsz tn tsz (rfU rf 1) bb h) → Q (some (.int (zI (-1)))) h)
    (o1 : m = -1 → ∀ h, (MW R I im P pz lt lsz tn tsz rf bb h) → Q (some (.int (zI (fdF g6_ R)))) h)
    (ok : m ≠ -1 → g7_ R m → ∀ h, (MW R I im P pz lt lsz tn tsz rf bb h) → Q (some (.int (zI (diesF g6_ R m.toNat)))) h) : Con M_M_dies [.ref 90, .int (zI m)] h Q := by
  obtain ⟨a0, ib, sm, pl, lo, nu, kp, ig, p0, tk, ki, tu, tf, ga, sd, rfl, hIg, hTu, hPz⟩ := W
  obtain ⟨h1, h2⟩ := id hm
  have hG := hI.1
  have gm := hG.men
  have gn := hG.nM
  have k1 := fun q q2 => r1 q q2 _ ⟨a0, ib, sm, pl, lo, nu, kp, ig, p0, tk, ki, tu, tf, ga, sd, rfl, hIg, hTu, hPz⟩
  refine g8_ (L := [some (.ref 90), some (.int (zI m)), none, none, none, none]) ok_M_dies (Nat.le_of_ble_eq_true rfl) rfl ?_
  refine w_M_dies_0 ?_
  simp (disch := omega) only [cm_,aq_,ay_,ag_,b8_,af_,bm_,bc_,c0_,am_,ac_,b2_,bq_,ed_,bs_,ao_,az_,aw_,dw_,d6_,ea_,d3_,b5_,fl_,fn_,fh_,fu_,fp_,fz_,fq_,fk_,fr_,ft_,f0_,c5_,bd_,c3_,cx_,co_,cr_,cf_,ch_,an_,fv_,Int.toNat_natCast,f3_,di_,dm_,dn_,er_,gv_,g4_,gu_,f4_,Int.add_zero,Int.zero_add,Int.ediv_one,Nat.reduceAdd,Nat.reduceMul,Int.reduceNeg,Nat.reduceLeDiff,List.length_cons,List.length_nil,true_and,and_true,Nat.zero_add,eq_self,Nat.reduceEqDiff,Int.reduceAdd,Int.reduceSub,Int.reduceMul,not_true_eq_false,not_false_eq_true,Nat.reduceLT,Int.reduceToNat,Int.reduceEq,Int.reduceNe,Int.reduceLT,Int.reduceLE,false_implies,true_implies]
  refine con_Min hm (by unfold inI; omega) (by unfold inI; omega) (fun c => ?_) (fun c => ?_)
  · simp (disch := omega) only [cm_,aq_,ay_,ag_,b8_,af_,bm_,bc_,c0_,am_,ac_,b2_,bq_,ed_,bs_,ao_,az_,aw_,dw_,d6_,ea_,d3_,b5_,fl_,fn_,fh_,fu_,fp_,fz_,fq_,fk_,fr_,ft_,f0_,c5_,bd_,c3_,cx_,co_,cr_,cf_,ch_,an_,fv_,Int.toNat_natCast,f3_,di_,dm_,dn_,er_,gv_,g4_,gu_,f4_,Int.add_zero,Int.zero_add,Int.ediv_one,Nat.reduceAdd,Nat.reduceMul,Int.reduceNeg,Nat.reduceLeDiff,List.length_cons,List.length_nil,true_and,and_true,Nat.zero_add,eq_self,Nat.reduceEqDiff,Int.reduceAdd,Int.reduceSub,Int.reduceMul,not_true_eq_false,not_false_eq_true,Nat.reduceLT,Int.reduceToNat,Int.reduceEq,Int.reduceNe,Int.reduceLT,Int.reduceLE,false_implies,true_implies]
    refine w_M_dies_29 ?_
    simp (disch := omega) only [cm_,aq_,ay_,ag_,b8_,af_,bm_,bc_,c0_,am_,ac_,b2_,bq_,ed_,bs_,ao_,az_,aw_,dw_,d6_,ea_,d3_,b5_,fl_,fn_,fh_,fu_,fp_,fz_,fq_,fk_,fr_,ft_,f0_,c5_,bd_,c3_,cx_,co_,cr_,cf_,ch_,an_,fv_,Int.toNat_natCast,f3_,di_,dm_,dn_,er_,gv_,g4_,gu_,f4_,Int.add_zero,Int.zero_add,Int.ediv_one,Nat.reduceAdd,Nat.reduceMul,Int.reduceNeg,Nat.reduceLeDiff,List.length_cons,List.length_nil,true_and,and_true,Nat.zero_add,eq_self,Nat.reduceEqDiff,Int.reduceAdd,Int.reduceSub,Int.reduceMul,not_true_eq_false,not_false_eq_true,Nat.reduceLT,Int.reduceToNat,Int.reduceEq,Int.reduceNe,Int.reduceLT,Int.reduceLE,false_implies,true_implies]
    refine ⟨fun c2 => ?_, fun c2 => ?_⟩
    · have e : m = -1 := by omega
      have ok := o1 e
      rw [← fd_eq gn.2] at ok
      have loop : ∀ k i : Nat, i + k = hb_ R → ∀ y kp p0 tk ki, J M_M_dies 61 [some (.ref 90), some (.int (zI m)), some (.int (zI (fdN R i).1)), some (.int (zI (fdN R i).2)), some (.int (zI i)), y] [] (HM R rf lt lsz a0 ib sm pl lo nu kp ig im p0 tk ki tu pz tf tn tsz ga sd bb) Q := by
        intro k
        induction k with
        | zero =>
          intro i hi y kp p0 tk ki
          have e : i = hb_ R := by omega
          subst e
          refine w_M_dies_61 ?_
          simp (disch := omega) only [cm_,aq_,ay_,ag_,b8_,af_,bm_,bc_,c0_,am_,ac_,b2_,bq_,ed_,bs_,ao_,az_,aw_,dw_,d6_,ea_,d3_,b5_,fl_,fn_,fh_,fu_,fp_,fz_,fq_,fk_,fr_,ft_,f0_,c5_,bd_,c3_,cx_,co_,cr_,cf_,ch_,an_,fv_,Int.toNat_natCast,f3_,di_,dm_,dn_,er_,gv_,g4_,gu_,f4_,Int.add_zero,Int.zero_add,Int.ediv_one,Nat.reduceAdd,Nat.reduceMul,Int.reduceNeg,Nat.reduceLeDiff,List.length_cons,List.length_nil,true_and,and_true,Nat.zero_add,eq_self,Nat.reduceEqDiff,Int.reduceAdd,Int.reduceSub,Int.reduceMul,not_true_eq_false,not_false_eq_true,Nat.reduceLT,Int.reduceToNat,Int.reduceEq,Int.reduceNe,Int.reduceLT,Int.reduceLE,false_implies,true_implies]
          refine ⟨fun _ => ?_, fun q => by omega⟩
          refine w_M_dies_126 ?_
          simp (disch := omega) only [cm_,aq_,ay_,ag_,b8_,af_,bm_,bc_,c0_,am_,ac_,b2_,bq_,ed_,bs_,ao_,az_,aw_,dw_,d6_,ea_,d3_,b5_,fl_,fn_,fh_,fu_,fp_,fz_,fq_,fk_,fr_,ft_,f0_,c5_,bd_,c3_,cx_,co_,cr_,cf_,ch_,an_,fv_,Int.toNat_natCast,f3_,di_,dm_,dn_,er_,gv_,g4_,gu_,f4_,Int.add_zero,Int.zero_add,Int.ediv_one,Nat.reduceAdd,Nat.reduceMul,Int.reduceNeg,Nat.reduceLeDiff,List.length_cons,List.length_nil,true_and,and_true,Nat.zero_add,eq_self,Nat.reduceEqDiff,Int.reduceAdd,Int.reduceSub,Int.reduceMul,not_true_eq_false,not_false_eq_true,Nat.reduceLT,Int.reduceToNat,Int.reduceEq,Int.reduceNe,Int.reduceLT,Int.reduceLE,false_implies,true_implies]
          exact ok _ ⟨_, _, _, _, _, _, _, _, _, _, _, _, _, _, _, rfl, hIg, hTu, hPz⟩
        | succ k ih =>
          intro i hi y kp p0 tk ki
          have step := ih (i + 1) (by omega)
          have gf := hG.fa i
          have fr := fdN_rng R i
          have dr : diesF g6_ R i = -9 ∨ (0 ≤ diesF g6_ R i ∧ diesF g6_ R i ≤ 60) := by
            rcases diesF_spec R i with z | ⟨d, z1, z2, _⟩
            · exact Or.inl z.1
            · exact Or.inr ⟨by omega, by omega⟩
          simp only [fdN] at step
          have tail : ∀ v : Int, inI v → (v = 61 ∨ (0 ≤ v ∧ v ≤ 60)) → (∀ (y : Option Value) (kp p0 tk ki), J M_M_dies 61 [some (.ref 90), some (.int (zI m)), some (.int (zI (if v < (fdN R i).2 then (i : Int) else (fdN R i).1))), some (.int (zI (if v < (fdN R i).2 then v else (fdN R i).2))), some (.int (zI (i + 1 : Nat))), y] [] (HM R rf lt lsz a0 ib sm pl lo nu kp ig im p0 tk ki tu pz tf tn tsz ga sd bb) Q) → ∀ kp p0 tk ki y, J M_M_dies 92 [some (.ref 90), some (.int (zI m)), some (.int (zI (fdN R i).1)), some (.int (zI (fdN R i).2)), some (.int (zI i)), y] [.int (zI v)] (HM R rf lt lsz a0 ib sm pl lo nu kp ig im p0 tk ki tu pz tf tn tsz ga sd bb) Q := by
            intro v hv hv2 hg kp p0 tk ki y
            refine w_M_dies_92 ?_
            by_cases c5 : v < (fdN R i).2
            · rw [if_pos c5, if_pos c5] at hg
              simp (disch := omega) only [cm_,aq_,ay_,ag_,b8_,af_,bm_,bc_,c0_,am_,ac_,b2_,bq_,ed_,bs_,ao_,az_,aw_,dw_,d6_,ea_,d3_,b5_,fl_,fn_,fh_,fu_,fp_,fz_,fq_,fk_,fr_,ft_,f0_,c5_,bd_,c3_,cx_,co_,cr_,cf_,ch_,an_,fv_,Int.toNat_natCast,f3_,di_,dm_,dn_,er_,gv_,g4_,gu_,f4_,Int.add_zero,Int.zero_add,Int.ediv_one,Nat.reduceAdd,Nat.reduceMul,Int.reduceNeg,Nat.reduceLeDiff,List.length_cons,List.length_nil,true_and,and_true,Nat.zero_add,eq_self,Nat.reduceEqDiff,Int.reduceAdd,Int.reduceSub,Int.reduceMul,not_true_eq_false,not_false_eq_true,Nat.reduceLT,Int.reduceToNat,Int.reduceEq,Int.reduceNe,Int.reduceLT,Int.reduceLE,false_implies,true_implies]
              refine ⟨fun q => by omega, fun _ => ?_⟩
              refine w_M_dies_106 ?_
              simp (disch := omega) only [cm_,aq_,ay_,ag_,b8_,af_,bm_,bc_,c0_,am_,ac_,b2_,bq_,ed_,bs_,ao_,az_,aw_,dw_,d6_,ea_,d3_,b5_,fl_,fn_,fh_,fu_,fp_,fz_,fq_,fk_,fr_,ft_,f0_,c5_,bd_,c3_,cx_,co_,cr_,cf_,ch_,an_,fv_,Int.toNat_natCast,f3_,di_,dm_,dn_,er_,gv_,g4_,gu_,f4_,Int.add_zero,Int.zero_add,Int.ediv_one,Nat.reduceAdd,Nat.reduceMul,Int.reduceNeg,Nat.reduceLeDiff,List.length_cons,List.length_nil,true_and,and_true,Nat.zero_add,eq_self,Nat.reduceEqDiff,Int.reduceAdd,Int.reduceSub,Int.reduceMul,not_true_eq_false,not_false_eq_true,Nat.reduceLT,Int.reduceToNat,Int.reduceEq,Int.reduceNe,Int.reduceLT,Int.reduceLE,false_implies,true_implies]
              refine ⟨fun q => by omega, fun _ => ?_⟩
              refine w_M_dies_119 ?_
              simp (disch := omega) only [cm_,aq_,ay_,ag_,b8_,af_,bm_,bc_,c0_,am_,ac_,b2_,bq_,ed_,bs_,ao_,az_,aw_,dw_,d6_,ea_,d3_,b5_,fl_,fn_,fh_,fu_,fp_,fz_,fq_,fk_,fr_,ft_,f0_,c5_,bd_,c3_,cx_,co_,cr_,cf_,ch_,an_,fv_,Int.toNat_natCast,f3_,di_,dm_,dn_,er_,gv_,g4_,gu_,f4_,Int.add_zero,Int.zero_add,Int.ediv_one,Nat.reduceAdd,Nat.reduceMul,Int.reduceNeg,Nat.reduceLeDiff,List.length_cons,List.length_nil,true_and,and_true,Nat.zero_add,eq_self,Nat.reduceEqDiff,Int.reduceAdd,Int.reduceSub,Int.reduceMul,not_true_eq_false,not_false_eq_true,Nat.reduceLT,Int.reduceToNat,Int.reduceEq,Int.reduceNe,Int.reduceLT,Int.reduceLE,false_implies,true_implies]
              exact hg _ _ _ _ _
            · rw [if_neg c5, if_neg c5] at hg
              simp (disch := omega) only [cm_,aq_,ay_,ag_,b8_,af_,bm_,bc_,c0_,am_,ac_,b2_,bq_,ed_,bs_,ao_,az_,aw_,dw_,d6_,ea_,d3_,b5_,fl_,fn_,fh_,fu_,fp_,fz_,fq_,fk_,fr_,ft_,f0_,c5_,bd_,c3_,cx_,co_,cr_,cf_,ch_,an_,fv_,Int.toNat_natCast,f3_,di_,dm_,dn_,er_,gv_,g4_,gu_,f4_,Int.add_zero,Int.zero_add,Int.ediv_one,Nat.reduceAdd,Nat.reduceMul,Int.reduceNeg,Nat.reduceLeDiff,List.length_cons,List.length_nil,true_and,and_true,Nat.zero_add,eq_self,Nat.reduceEqDiff,Int.reduceAdd,Int.reduceSub,Int.reduceMul,not_true_eq_false,not_false_eq_true,Nat.reduceLT,Int.reduceToNat,Int.reduceEq,Int.reduceNe,Int.reduceLT,Int.reduceLE,false_implies,true_implies]
              refine ⟨fun _ => ?_, fun q => by omega⟩
              refine w_M_dies_105 ?_
              simp (disch := omega) only [cm_,aq_,ay_,ag_,b8_,af_,bm_,bc_,c0_,am_,ac_,b2_,bq_,ed_,bs_,ao_,az_,aw_,dw_,d6_,ea_,d3_,b5_,fl_,fn_,fh_,fu_,fp_,fz_,fq_,fk_,fr_,ft_,f0_,c5_,bd_,c3_,cx_,co_,cr_,cf_,ch_,an_,fv_,Int.toNat_natCast,f3_,di_,dm_,dn_,er_,gv_,g4_,gu_,f4_,Int.add_zero,Int.zero_add,Int.ediv_one,Nat.reduceAdd,Nat.reduceMul,Int.reduceNeg,Nat.reduceLeDiff,List.length_cons,List.length_nil,true_and,and_true,Nat.zero_add,eq_self,Nat.reduceEqDiff,Int.reduceAdd,Int.reduceSub,Int.reduceMul,not_true_eq_false,not_false_eq_true,Nat.reduceLT,Int.reduceToNat,Int.reduceEq,Int.reduceNe,Int.reduceLT,Int.reduceLE,false_implies,true_implies]
              refine w_M_dies_106 ?_
              simp (disch := omega) only [cm_,aq_,ay_,ag_,b8_,af_,bm_,bc_,c0_,am_,ac_,b2_,bq_,ed_,bs_,ao_,az_,aw_,dw_,d6_,ea_,d3_,b5_,fl_,fn_,fh_,fu_,fp_,fz_,fq_,fk_,fr_,ft_,f0_,c5_,bd_,c3_,cx_,co_,cr_,cf_,ch_,an_,fv_,Int.toNat_natCast,f3_,di_,dm_,dn_,er_,gv_,g4_,gu_,f4_,Int.add_zero,Int.zero_add,Int.ediv_one,Nat.reduceAdd,Nat.reduceMul,Int.reduceNeg,Nat.reduceLeDiff,List.length_cons,List.length_nil,true_and,and_true,Nat.zero_add,eq_self,Nat.reduceEqDiff,Int.reduceAdd,Int.reduceSub,Int.reduceMul,not_true_eq_false,not_false_eq_true,Nat.reduceLT,Int.reduceToNat,Int.reduceEq,Int.reduceNe,Int.reduceLT,Int.reduceLE,false_implies,true_implies]
              refine ⟨fun _ => ?_, fun q => by omega⟩
              refine w_M_dies_118 ?_
              simp (disch := omega) only [cm_,aq_,ay_,ag_,b8_,af_,bm_,bc_,c0_,am_,ac_,b2_,bq_,ed_,bs_,ao_,az_,aw_,dw_,d6_,ea_,d3_,b5_,fl_,fn_,fh_,fu_,fp_,fz_,fq_,fk_,fr_,ft_,f0_,c5_,bd_,c3_,cx_,co_,cr_,cf_,ch_,an_,fv_,Int.toNat_natCast,f3_,di_,dm_,dn_,er_,gv_,g4_,gu_,f4_,Int.add_zero,Int.zero_add,Int.ediv_one,Nat.reduceAdd,Nat.reduceMul,Int.reduceNeg,Nat.reduceLeDiff,List.length_cons,List.length_nil,true_and,and_true,Nat.zero_add,eq_self,Nat.reduceEqDiff,Int.reduceAdd,Int.reduceSub,Int.reduceMul,not_true_eq_false,not_false_eq_true,Nat.reduceLT,Int.reduceToNat,Int.reduceEq,Int.reduceNe,Int.reduceLT,Int.reduceLE,false_implies,true_implies]
              refine w_M_dies_119 ?_
              simp (disch := omega) only [cm_,aq_,ay_,ag_,b8_,af_,bm_,bc_,c0_,am_,ac_,b2_,bq_,ed_,bs_,ao_,az_,aw_,dw_,d6_,ea_,d3_,b5_,fl_,fn_,fh_,fu_,fp_,fz_,fq_,fk_,fr_,ft_,f0_,c5_,bd_,c3_,cx_,co_,cr_,cf_,ch_,an_,fv_,Int.toNat_natCast,f3_,di_,dm_,dn_,er_,gv_,g4_,gu_,f4_,Int.add_zero,Int.zero_add,Int.ediv_one,Nat.reduceAdd,Nat.reduceMul,Int.reduceNeg,Nat.reduceLeDiff,List.length_cons,List.length_nil,true_and,and_true,Nat.zero_add,eq_self,Nat.reduceEqDiff,Int.reduceAdd,Int.reduceSub,Int.reduceMul,not_true_eq_false,not_false_eq_true,Nat.reduceLT,Int.reduceToNat,Int.reduceEq,Int.reduceNe,Int.reduceLT,Int.reduceLE,false_implies,true_implies]
              exact hg _ _ _ _ _
          refine w_M_dies_61 ?_
          simp (disch := omega) only [cm_,aq_,ay_,ag_,b8_,af_,bm_,bc_,c0_,am_,ac_,b2_,bq_,ed_,bs_,ao_,az_,aw_,dw_,d6_,ea_,d3_,b5_,fl_,fn_,fh_,fu_,fp_,fz_,fq_,fk_,fr_,ft_,f0_,c5_,bd_,c3_,cx_,co_,cr_,cf_,ch_,an_,fv_,Int.toNat_natCast,f3_,di_,dm_,dn_,er_,gv_,g4_,gu_,f4_,Int.add_zero,Int.zero_add,Int.ediv_one,Nat.reduceAdd,Nat.reduceMul,Int.reduceNeg,Nat.reduceLeDiff,List.length_cons,List.length_nil,true_and,and_true,Nat.zero_add,eq_self,Nat.reduceEqDiff,Int.reduceAdd,Int.reduceSub,Int.reduceMul,not_true_eq_false,not_false_eq_true,Nat.reduceLT,Int.reduceToNat,Int.reduceEq,Int.reduceNe,Int.reduceLT,Int.reduceLE,false_implies,true_implies]
          refine ⟨fun q => by omega, fun _ => ⟨by omega, fun c3 => ?_, fun c3 => ?_⟩⟩
          · refine w_M_dies_90 ?_
            simp (disch := omega) only [cm_,aq_,ay_,ag_,b8_,af_,bm_,bc_,c0_,am_,ac_,b2_,bq_,ed_,bs_,ao_,az_,aw_,dw_,d6_,ea_,d3_,b5_,fl_,fn_,fh_,fu_,fp_,fz_,fq_,fk_,fr_,ft_,f0_,c5_,bd_,c3_,cx_,co_,cr_,cf_,ch_,an_,fv_,Int.toNat_natCast,f3_,di_,dm_,dn_,er_,gv_,g4_,gu_,f4_,Int.add_zero,Int.zero_add,Int.ediv_one,Nat.reduceAdd,Nat.reduceMul,Int.reduceNeg,Nat.reduceLeDiff,List.length_cons,List.length_nil,true_and,and_true,Nat.zero_add,eq_self,Nat.reduceEqDiff,Int.reduceAdd,Int.reduceSub,Int.reduceMul,not_true_eq_false,not_false_eq_true,Nat.reduceLT,Int.reduceToNat,Int.reduceEq,Int.reduceNe,Int.reduceLT,Int.reduceLE,false_implies,true_implies]
            refine tail 61 (by unfold inI; omega) (Or.inl rfl) ?_ _ _ _ _ _
            rw [if_neg (by omega), if_neg (by omega)]
            rw [if_neg (by omega)] at step
            exact step
          · refine con_MdiesIn (by omega) hI (fun x tk ki => ?_)
            simp (disch := omega) only [cm_,aq_,ay_,ag_,b8_,af_,bm_,bc_,c0_,am_,ac_,b2_,bq_,ed_,bs_,ao_,az_,aw_,dw_,d6_,ea_,d3_,b5_,fl_,fn_,fh_,fu_,fp_,fz_,fq_,fk_,fr_,ft_,f0_,c5_,bd_,c3_,cx_,co_,cr_,cf_,ch_,an_,fv_,Int.toNat_natCast,f3_,di_,dm_,dn_,er_,gv_,g4_,gu_,f4_,Int.add_zero,Int.zero_add,Int.ediv_one,Nat.reduceAdd,Nat.reduceMul,Int.reduceNeg,Nat.reduceLeDiff,List.length_cons,List.length_nil,true_and,and_true,Nat.zero_add,eq_self,Nat.reduceEqDiff,Int.reduceAdd,Int.reduceSub,Int.reduceMul,not_true_eq_false,not_false_eq_true,Nat.reduceLT,Int.reduceToNat,Int.reduceEq,Int.reduceNe,Int.reduceLT,Int.reduceLE,false_implies,true_implies]
            refine tail _ (by unfold inI; split <;> omega) (by split <;> omega) ?_ _ _ _ _ _
            rcases dr with dr | dr
            · rw [dr]
              rw [if_pos rfl, if_neg (by omega), if_neg (by omega)]
              rw [if_neg (by omega)] at step
              exact step
            · have e9 : (if diesF g6_ R i = -9 then (61 : Int) else diesF g6_ R i) = diesF g6_ R i := if_neg (by omega)
              rw [e9]
              by_cases c5 : diesF g6_ R i < (fdN R i).2
              · rw [if_pos c5, if_pos c5]
                rw [if_pos ⟨by omega, by omega, c5⟩] at step
                exact step
              · rw [if_neg c5, if_neg c5]
                rw [if_neg (by omega)] at step
                exact step
      refine w_M_dies_52 ?_
      simp (disch := omega) only [cm_,aq_,ay_,ag_,b8_,af_,bm_,bc_,c0_,am_,ac_,b2_,bq_,ed_,bs_,ao_,az_,aw_,dw_,d6_,ea_,d3_,b5_,fl_,fn_,fh_,fu_,fp_,fz_,fq_,fk_,fr_,ft_,f0_,c5_,bd_,c3_,cx_,co_,cr_,cf_,ch_,an_,fv_,Int.toNat_natCast,f3_,di_,dm_,dn_,er_,gv_,g4_,gu_,f4_,Int.add_zero,Int.zero_add,Int.ediv_one,Nat.reduceAdd,Nat.reduceMul,Int.reduceNeg,Nat.reduceLeDiff,List.length_cons,List.length_nil,true_and,and_true,Nat.zero_add,eq_self,Nat.reduceEqDiff,Int.reduceAdd,Int.reduceSub,Int.reduceMul,not_true_eq_false,not_false_eq_true,Nat.reduceLT,Int.reduceToNat,Int.reduceEq,Int.reduceNe,Int.reduceLT,Int.reduceLE,false_implies,true_implies]
      exact loop _ 0 (Nat.zero_add _) _ _ _ _ _
    · have hmn : m = (m.toNat : Int) := by omega
      have ok := ok (by omega) (by unfold g7_; omega)
      have dr : diesF g6_ R m.toNat = -9 ∨ (0 ≤ diesF g6_ R m.toNat ∧ diesF g6_ R m.toNat ≤ 60) := by
        rcases diesF_spec R m.toNat with z | ⟨d, z1, z2, _⟩
        · exact Or.inl z.1
        · exact Or.inr ⟨by omega, by omega⟩
      rw [hmn]
      refine con_MdiesIn (by omega) hI (fun x tk ki => ?_)
      rcases dr with dr | dr
      · rw [dr, if_pos rfl]
        rw [dr] at ok
        simp (disch := omega) only [cm_,aq_,ay_,ag_,b8_,af_,bm_,bc_,c0_,am_,ac_,b2_,bq_,ed_,bs_,ao_,az_,aw_,dw_,d6_,ea_,d3_,b5_,fl_,fn_,fh_,fu_,fp_,fz_,fq_,fk_,fr_,ft_,f0_,c5_,bd_,c3_,cx_,co_,cr_,cf_,ch_,an_,fv_,Int.toNat_natCast,f3_,di_,dm_,dn_,er_,gv_,g4_,gu_,f4_,Int.add_zero,Int.zero_add,Int.ediv_one,Nat.reduceAdd,Nat.reduceMul,Int.reduceNeg,Nat.reduceLeDiff,List.length_cons,List.length_nil,true_and,and_true,Nat.zero_add,eq_self,Nat.reduceEqDiff,Int.reduceAdd,Int.reduceSub,Int.reduceMul,not_true_eq_false,not_false_eq_true,Nat.reduceLT,Int.reduceToNat,Int.reduceEq,Int.reduceNe,Int.reduceLT,Int.reduceLE,false_implies,true_implies]
        refine w_M_dies_51 ?_
        simp (disch := omega) only [cm_,aq_,ay_,ag_,b8_,af_,bm_,bc_,c0_,am_,ac_,b2_,bq_,ed_,bs_,ao_,az_,aw_,dw_,d6_,ea_,d3_,b5_,fl_,fn_,fh_,fu_,fp_,fz_,fq_,fk_,fr_,ft_,f0_,c5_,bd_,c3_,cx_,co_,cr_,cf_,ch_,an_,fv_,Int.toNat_natCast,f3_,di_,dm_,dn_,er_,gv_,g4_,gu_,f4_,Int.add_zero,Int.zero_add,Int.ediv_one,Nat.reduceAdd,Nat.reduceMul,Int.reduceNeg,Nat.reduceLeDiff,List.length_cons,List.length_nil,true_and,and_true,Nat.zero_add,eq_self,Nat.reduceEqDiff,Int.reduceAdd,Int.reduceSub,Int.reduceMul,not_true_eq_false,not_false_eq_true,Nat.reduceLT,Int.reduceToNat,Int.reduceEq,Int.reduceNe,Int.reduceLT,Int.reduceLE,false_implies,true_implies]
        exact ok _ ⟨_, _, _, _, _, _, _, _, _, _, _, _, _, _, _, rfl, hIg, hTu, hPz⟩
      · rw [if_neg (by omega)]
        simp (disch := omega) only [cm_,aq_,ay_,ag_,b8_,af_,bm_,bc_,c0_,am_,ac_,b2_,bq_,ed_,bs_,ao_,az_,aw_,dw_,d6_,ea_,d3_,b5_,fl_,fn_,fh_,fu_,fp_,fz_,fq_,fk_,fr_,ft_,f0_,c5_,bd_,c3_,cx_,co_,cr_,cf_,ch_,an_,fv_,Int.toNat_natCast,f3_,di_,dm_,dn_,er_,gv_,g4_,gu_,f4_,Int.add_zero,Int.zero_add,Int.ediv_one,Nat.reduceAdd,Nat.reduceMul,Int.reduceNeg,Nat.reduceLeDiff,List.length_cons,List.length_nil,true_and,and_true,Nat.zero_add,eq_self,Nat.reduceEqDiff,Int.reduceAdd,Int.reduceSub,Int.reduceMul,not_true_eq_false,not_false_eq_true,Nat.reduceLT,Int.reduceToNat,Int.reduceEq,Int.reduceNe,Int.reduceLT,Int.reduceLE,false_implies,true_implies]
        refine ⟨fun _ => ?_, fun q => by omega⟩
        refine w_M_dies_50 ?_
        simp (disch := omega) only [cm_,aq_,ay_,ag_,b8_,af_,bm_,bc_,c0_,am_,ac_,b2_,bq_,ed_,bs_,ao_,az_,aw_,dw_,d6_,ea_,d3_,b5_,fl_,fn_,fh_,fu_,fp_,fz_,fq_,fk_,fr_,ft_,f0_,c5_,bd_,c3_,cx_,co_,cr_,cf_,ch_,an_,fv_,Int.toNat_natCast,f3_,di_,dm_,dn_,er_,gv_,g4_,gu_,f4_,Int.add_zero,Int.zero_add,Int.ediv_one,Nat.reduceAdd,Nat.reduceMul,Int.reduceNeg,Nat.reduceLeDiff,List.length_cons,List.length_nil,true_and,and_true,Nat.zero_add,eq_self,Nat.reduceEqDiff,Int.reduceAdd,Int.reduceSub,Int.reduceMul,not_true_eq_false,not_false_eq_true,Nat.reduceLT,Int.reduceToNat,Int.reduceEq,Int.reduceNe,Int.reduceLT,Int.reduceLE,false_implies,true_implies]
        refine w_M_dies_51 ?_
        simp (disch := omega) only [cm_,aq_,ay_,ag_,b8_,af_,bm_,bc_,c0_,am_,ac_,b2_,bq_,ed_,bs_,ao_,az_,aw_,dw_,d6_,ea_,d3_,b5_,fl_,fn_,fh_,fu_,fp_,fz_,fq_,fk_,fr_,ft_,f0_,c5_,bd_,c3_,cx_,co_,cr_,cf_,ch_,an_,fv_,Int.toNat_natCast,f3_,di_,dm_,dn_,er_,gv_,g4_,gu_,f4_,Int.add_zero,Int.zero_add,Int.ediv_one,Nat.reduceAdd,Nat.reduceMul,Int.reduceNeg,Nat.reduceLeDiff,List.length_cons,List.length_nil,true_and,and_true,Nat.zero_add,eq_self,Nat.reduceEqDiff,Int.reduceAdd,Int.reduceSub,Int.reduceMul,not_true_eq_false,not_false_eq_true,Nat.reduceLT,Int.reduceToNat,Int.reduceEq,Int.reduceNe,Int.reduceLT,Int.reduceLE,false_implies,true_implies]
        exact ok _ ⟨_, _, _, _, _, _, _, _, _, _, _, _, _, _, _, rfl, hIg, hTu, hPz⟩
  · simp (disch := omega) only [cm_,aq_,ay_,ag_,b8_,af_,bm_,bc_,c0_,am_,ac_,b2_,bq_,ed_,bs_,ao_,az_,aw_,dw_,d6_,ea_,d3_,b5_,fl_,fn_,fh_,fu_,fp_,fz_,fq_,fk_,fr_,ft_,f0_,c5_,bd_,c3_,cx_,co_,cr_,cf_,ch_,an_,fv_,Int.toNat_natCast,f3_,di_,dm_,dn_,er_,gv_,g4_,gu_,f4_,Int.add_zero,Int.zero_add,Int.ediv_one,Nat.reduceAdd,Nat.reduceMul,Int.reduceNeg,Nat.reduceLeDiff,List.length_cons,List.length_nil,true_and,and_true,Nat.zero_add,eq_self,Nat.reduceEqDiff,Int.reduceAdd,Int.reduceSub,Int.reduceMul,not_true_eq_false,not_false_eq_true,Nat.reduceLT,Int.reduceToNat,Int.reduceEq,Int.reduceNe,Int.reduceLT,Int.reduceLE,false_implies,true_implies]
    refine con_Mrefuse (k := 1) (by omega) ?_
    simp (disch := omega) only [cm_,aq_,ay_,ag_,b8_,af_,bm_,bc_,c0_,am_,ac_,b2_,bq_,ed_,bs_,ao_,az_,aw_,dw_,d6_,ea_,d3_,b5_,fl_,fn_,fh_,fu_,fp_,fz_,fq_,fk_,fr_,ft_,f0_,c5_,bd_,c3_,cx_,co_,cr_,cf_,ch_,an_,fv_,Int.toNat_natCast,f3_,di_,dm_,dn_,er_,gv_,g4_,gu_,f4_,Int.add_zero,Int.zero_add,Int.ediv_one,Nat.reduceAdd,Nat.reduceMul,Int.reduceNeg,Nat.reduceLeDiff,List.length_cons,List.length_nil,true_and,and_true,Nat.zero_add,eq_self,Nat.reduceEqDiff,Int.reduceAdd,Int.reduceSub,Int.reduceMul,not_true_eq_false,not_false_eq_true,Nat.reduceLT,Int.reduceToNat,Int.reduceEq,Int.reduceNe,Int.reduceLT,Int.reduceLE,false_implies,true_implies]
    exact k1 (by omega) (by unfold g7_; omega)
end E22
end
/-! fewM -/
section
/-! ===== the reference: the fewest to pardon ===== -/
abbrev fewP (R : RR) (n b : Nat) : Bool := decide (anb b (mask (isF R 0) (hb_ R)) = 0 ∧ hd_ (g6_ (parR R b 8) n) = 12)
theorem few_eq {R : RR} (hG : GR R) (n : Nat) : fewF g6_ R n = bestN (fewP R n) (2 ^ hb_ R) := by
  have gn := hG.nM
  have e1 : fewF g6_ R n = scan2 (fun z => firstN (fun b => fewP R n b && decide (pop8 b = z)) 0 256) 0 9 := by
    have : ∀ z, fewI g6_ R n z = firstN (fun b => fewP R n b && decide (pop8 b = z)) 0 256 := by
      intro z
      simp only [fewI]
      congr 1
      funext b
      by_cases c1 : anb b (mask (isF R 0) (hb_ R)) = 0 <;> by_cases c2 : pop8 b = z <;> by_cases c3 : hd_ (g6_ (parR R b 8) n) = 12 <;> simp [fewP, c1, c2, c3]
    show scan2 (fewI g6_ R n) 0 9 = _
    congr 1
    funext z
    exact this z
  have hp : 2 ^ hb_ R ≤ 2 ^ 8 := Nat.pow_le_pow_right (by omega) gn.2
  rw [e1, best_scan]
  have := bestN_stop (p := fewP R n) (n := 2 ^ hb_ R) (fun b hb => by
    refine decide_eq_false (fun q => ?_)
    have := lowB_lt (anb_sub q.1 (mask_low _ _))
    omega) (256 - 2 ^ hb_ R)
  rw [show 2 ^ hb_ R + (256 - 2 ^ hb_ R) = 256 by omega] at this
  exact this
def lstF (v : Int) : Int := if v < 0 then 9 else (pop8 v.toNat : Nat)
theorem par_men (R : RR) (b i : Nat) : rMen (parR R b i) = rMen R := rfl
theorem par_same {R : RR} {b i : Nat} (c : ¬ (i < hb_ R ∧ b.testBit i = true)) : parR R b (i + 1) = parR R b i := by
  refine congrArg (fun f => sFa R f) ?_
  funext k
  by_cases hk : k = i
  · subst hk
    rw [if_neg (fun q => c ⟨q.2.1, q.2.2⟩), if_neg (by omega)]
  · simp only [show (k < i + 1) = (k < i) by simp; omega]
theorem par_more {R : RR} {b i : Nat} (c1 : i < hb_ R) (c2 : b.testBit i = true) : parR R b (i + 1) = sFa (parR R b i) (upI (rFa (parR R b i)) i 1) := by
  refine congrArg (fun f => sFa R f) ?_
  funext k
  simp only [upI]
  by_cases hk : k = i
  · subst hk
    rw [if_pos ⟨by omega, c1, c2⟩, if_pos rfl]
  · simp only [hk, if_false, show (k < i + 1) = (k < i) by simp; omega]
    rfl
theorem par_0 (R : RR) (b : Nat) : parR R b 0 = R := by
  have : (fun k => if k < 0 ∧ k < hb_ R ∧ b.testBit k = true then 1 else rFa R k) = rFa R := by
    funext k
    rw [if_neg (by omega)]
  simp only [parR, this]
  rfl
theorem par_stop (R : RR) (b j : Nat) : parR R b (hb_ R + j) = parR R b (hb_ R) := by
  induction j with
  | zero => rfl
  | succ j ih => rw [← Nat.add_assoc, par_same (by omega), ih]
theorem GI.par {R : RR} (h : GI R) {b : Nat} (hb : anb b (mask (isF R 0) (hb_ R)) = 0) (i : Nat) : GI (parR R b i) := by
  have gn := h.1.nM
  induction i with
  | zero => rw [par_0]; exact h
  | succ i ih =>
    by_cases c : i < hb_ R ∧ b.testBit i = true
    · rw [par_more c.1 c.2]
      have e : (anb b (mask (isF R 0) (hb_ R))).testBit i = false := by rw [hb]; exact Nat.zero_testBit i
      rw [anb_bit, c.2, mask_bit] at e
      have e2 : rFa R i = 0 := by simpa [c.1] using e
      have e3 : rFa (parR R b i) i = rFa R i := by
        show (if i < i ∧ i < hb_ R ∧ b.testBit i = true then 1 else rFa R i) = rFa R i
        rw [if_neg (by omega)]
      exact ih.setFa (x := 1) i (by omega) (by omega) (by omega)
    · rw [par_same c]; exact ih
section E23
variable {R I : RR} {im : Int} {P : Nat → RR} {pz : Int} {lt : Nat → Int} {lsz : Int} {tn : Nat → Int} {tsz : Int} {rf : Nat → Int} {bb h : AH} {Q : Option Value → AH → Prop}
theorem M_fewest {n : Int} (hn : inI n) (hI : GI R)  (W : (MW R I im P pz lt lsz tn tsz rf bb h))
    (r4 : n < 0 → ∀ h, (MW R I im P pz lt lsz tn tsz (rfU rf 4) bb h) → Q (some (.int (zI (-4)))) h)
    (r6 : ¬ n < 0 → 60 < n → ∀ h, (MW R I im P pz lt lsz tn tsz (rfU rf 6) bb h) → Q (some (.int (zI (-6)))) h)
    (ok : ¬ n < 0 → ¬ 60 < n → ∀ h, (MW R I im P pz lt lsz tn tsz rf bb h) → Q (some (.int (zI (fewF g6_ R n.toNat)))) h) : Con M_M_fewest [.ref 90, .int (zI n)] h Q := by
  obtain ⟨a0, ib, sm, pl, lo, nu, kp, ig, p0, tk, ki, tu, tf, ga, sd, rfl, hIg, hTu, hPz⟩ := W
  have hG := hI.1
  have gm := hG.men
  have gn := hG.nM
  have k4 := fun q => r4 q _ ⟨a0, ib, sm, pl, lo, nu, kp, ig, p0, tk, ki, tu, tf, ga, sd, rfl, hIg, hTu, hPz⟩
  have k6 := fun q q2 => r6 q q2 _ ⟨a0, ib, sm, pl, lo, nu, kp, ig, p0, tk, ki, tu, tf, ga, sd, rfl, hIg, hTu, hPz⟩
  refine g8_ (L := [some (.ref 90), some (.int (zI n)), none, none, none, none, none]) ok_M_fewest (Nat.le_of_ble_eq_true rfl) rfl ?_
  refine w_M_fewest_0 ?_
  simp (disch := omega) only [cm_,aq_,ay_,ag_,b8_,af_,bb_,bf_,b3_,am_,ae_,ac_,b2_,bq_,ed_,bs_,ao_,a2_,az_,av_,a4_,aw_,dw_,d6_,ea_,d3_,b5_,fl_,fn_,fh_,fu_,fp_,fz_,fq_,fk_,fr_,ft_,fs_,f0_,c5_,bt_,bd_,c3_,ct_,cx_,cr_,cf_,an_,cl_,fv_,Int.toNat_natCast,b9_,c6_,f3_,di_,dm_,dn_,gv_,g4_,gu_,gs_,f4_,Int.add_zero,Int.zero_add,Int.ediv_one,Nat.reduceAdd,Nat.reduceMul,Int.reduceNeg,Nat.reduceLeDiff,List.length_cons,List.length_nil,true_and,and_true,Nat.zero_add,eq_self,Nat.reduceEqDiff,Int.reduceAdd,Int.reduceSub,Int.reduceMul,not_true_eq_false,not_false_eq_true,Nat.reduceLT,Int.reduceToNat,Int.reduceEq,Int.reduceNe,Int.reduceLT,Int.reduceLE,and_self,and_false,false_implies,true_implies]
  refine con_MwrongNumber hn (by unfold inI; omega) (by unfold inI; omega) (fun c2 => ?_) (fun c2 c3 => ?_) (fun c2 c3 => ?_)
  · simp (disch := omega) only [cm_,aq_,ay_,ag_,b8_,af_,bb_,bf_,b3_,am_,ae_,ac_,b2_,bq_,ed_,bs_,ao_,a2_,az_,av_,a4_,aw_,dw_,d6_,ea_,d3_,b5_,fl_,fn_,fh_,fu_,fp_,fz_,fq_,fk_,fr_,ft_,fs_,f0_,c5_,bt_,bd_,c3_,ct_,cx_,cr_,cf_,an_,cl_,fv_,Int.toNat_natCast,b9_,c6_,f3_,di_,dm_,dn_,gv_,g4_,gu_,gs_,f4_,Int.add_zero,Int.zero_add,Int.ediv_one,Nat.reduceAdd,Nat.reduceMul,Int.reduceNeg,Nat.reduceLeDiff,List.length_cons,List.length_nil,true_and,and_true,Nat.zero_add,eq_self,Nat.reduceEqDiff,Int.reduceAdd,Int.reduceSub,Int.reduceMul,not_true_eq_false,not_false_eq_true,Nat.reduceLT,Int.reduceToNat,Int.reduceEq,Int.reduceNe,Int.reduceLT,Int.reduceLE,and_self,and_false,false_implies,true_implies]
    refine con_Mrefuse (k := 4) (by omega) ?_
    simp (disch := omega) only [cm_,aq_,ay_,ag_,b8_,af_,bb_,bf_,b3_,am_,ae_,ac_,b2_,bq_,ed_,bs_,ao_,a2_,az_,av_,a4_,aw_,dw_,d6_,ea_,d3_,b5_,fl_,fn_,fh_,fu_,fp_,fz_,fq_,fk_,fr_,ft_,fs_,f0_,c5_,bt_,bd_,c3_,ct_,cx_,cr_,cf_,an_,cl_,fv_,Int.toNat_natCast,b9_,c6_,f3_,di_,dm_,dn_,gv_,g4_,gu_,gs_,f4_,Int.add_zero,Int.zero_add,Int.ediv_one,Nat.reduceAdd,Nat.reduceMul,Int.reduceNeg,Nat.reduceLeDiff,List.length_cons,List.length_nil,true_and,and_true,Nat.zero_add,eq_self,Nat.reduceEqDiff,Int.reduceAdd,Int.reduceSub,Int.reduceMul,not_true_eq_false,not_false_eq_true,Nat.reduceLT,Int.reduceToNat,Int.reduceEq,Int.reduceNe,Int.reduceLT,Int.reduceLE,and_self,and_false,false_implies,true_implies]
    exact k4 c2
  · simp (disch := omega) only [cm_,aq_,ay_,ag_,b8_,af_,bb_,bf_,b3_,am_,ae_,ac_,b2_,bq_,ed_,bs_,ao_,a2_,az_,av_,a4_,aw_,dw_,d6_,ea_,d3_,b5_,fl_,fn_,fh_,fu_,fp_,fz_,fq_,fk_,fr_,ft_,fs_,f0_,c5_,bt_,bd_,c3_,ct_,cx_,cr_,cf_,an_,cl_,fv_,Int.toNat_natCast,b9_,c6_,f3_,di_,dm_,dn_,gv_,g4_,gu_,gs_,f4_,Int.add_zero,Int.zero_add,Int.ediv_one,Nat.reduceAdd,Nat.reduceMul,Int.reduceNeg,Nat.reduceLeDiff,List.length_cons,List.length_nil,true_and,and_true,Nat.zero_add,eq_self,Nat.reduceEqDiff,Int.reduceAdd,Int.reduceSub,Int.reduceMul,not_true_eq_false,not_false_eq_true,Nat.reduceLT,Int.reduceToNat,Int.reduceEq,Int.reduceNe,Int.reduceLT,Int.reduceLE,and_self,and_false,false_implies,true_implies]
    refine con_Mrefuse (k := 6) (by omega) ?_
    simp (disch := omega) only [cm_,aq_,ay_,ag_,b8_,af_,bb_,bf_,b3_,am_,ae_,ac_,b2_,bq_,ed_,bs_,ao_,a2_,az_,av_,a4_,aw_,dw_,d6_,ea_,d3_,b5_,fl_,fn_,fh_,fu_,fp_,fz_,fq_,fk_,fr_,ft_,fs_,f0_,c5_,bt_,bd_,c3_,ct_,cx_,cr_,cf_,an_,cl_,fv_,Int.toNat_natCast,b9_,c6_,f3_,di_,dm_,dn_,gv_,g4_,gu_,gs_,f4_,Int.add_zero,Int.zero_add,Int.ediv_one,Nat.reduceAdd,Nat.reduceMul,Int.reduceNeg,Nat.reduceLeDiff,List.length_cons,List.length_nil,true_and,and_true,Nat.zero_add,eq_self,Nat.reduceEqDiff,Int.reduceAdd,Int.reduceSub,Int.reduceMul,not_true_eq_false,not_false_eq_true,Nat.reduceLT,Int.reduceToNat,Int.reduceEq,Int.reduceNe,Int.reduceLT,Int.reduceLE,and_self,and_false,false_implies,true_implies]
    exact k6 c2 c3
  · have hnn : n = (n.toNat : Int) := by omega
    have kk := ok c2 c3
    rw [few_eq hG] at kk
    have hp : 2 ^ hb_ R ≤ 2 ^ 8 := Nat.pow_le_pow_right (by omega) gn.2
    have hm := mask_256 (isF R 0) gn.2
    have esh : zI 1 <<< (zI (rMen R) &&& 31) = zI ((2 ^ hb_ R : Nat) : Int) := b9_ (by omega) (by omega)
    simp (disch := omega) only [cm_,aq_,ay_,ag_,b8_,af_,bb_,bf_,b3_,am_,ae_,ac_,b2_,bq_,ed_,bs_,ao_,a2_,az_,av_,a4_,aw_,dw_,d6_,ea_,d3_,b5_,fl_,fn_,fh_,fu_,fp_,fz_,fq_,fk_,fr_,ft_,fs_,f0_,c5_,bt_,bd_,c3_,ct_,cx_,cr_,cf_,an_,cl_,fv_,Int.toNat_natCast,b9_,c6_,f3_,di_,dm_,dn_,gv_,g4_,gu_,gs_,f4_,Int.add_zero,Int.zero_add,Int.ediv_one,Nat.reduceAdd,Nat.reduceMul,Int.reduceNeg,Nat.reduceLeDiff,List.length_cons,List.length_nil,true_and,and_true,Nat.zero_add,eq_self,Nat.reduceEqDiff,Int.reduceAdd,Int.reduceSub,Int.reduceMul,not_true_eq_false,not_false_eq_true,Nat.reduceLT,Int.reduceToNat,Int.reduceEq,Int.reduceNe,Int.reduceLT,Int.reduceLE,and_self,and_false,false_implies,true_implies]
    refine w_M_fewest_23 ?_
    simp (disch := omega) only [cm_,aq_,ay_,ag_,b8_,af_,bb_,bf_,b3_,am_,ae_,ac_,b2_,bq_,ed_,bs_,ao_,a2_,az_,av_,a4_,aw_,dw_,d6_,ea_,d3_,b5_,fl_,fn_,fh_,fu_,fp_,fz_,fq_,fk_,fr_,ft_,fs_,f0_,c5_,bt_,bd_,c3_,ct_,cx_,cr_,cf_,an_,cl_,fv_,Int.toNat_natCast,b9_,c6_,f3_,di_,dm_,dn_,gv_,g4_,gu_,gs_,f4_,Int.add_zero,Int.zero_add,Int.ediv_one,Nat.reduceAdd,Nat.reduceMul,Int.reduceNeg,Nat.reduceLeDiff,List.length_cons,List.length_nil,true_and,and_true,Nat.zero_add,eq_self,Nat.reduceEqDiff,Int.reduceAdd,Int.reduceSub,Int.reduceMul,not_true_eq_false,not_false_eq_true,Nat.reduceLT,Int.reduceToNat,Int.reduceEq,Int.reduceNe,Int.reduceLT,Int.reduceLE,and_self,and_false,false_implies,true_implies]
    refine con_Mthink (fun x hx => ?_)
    simp (disch := omega) only [cm_,aq_,ay_,ag_,b8_,af_,bb_,bf_,b3_,am_,ae_,ac_,b2_,bq_,ed_,bs_,ao_,a2_,az_,av_,a4_,aw_,dw_,d6_,ea_,d3_,b5_,fl_,fn_,fh_,fu_,fp_,fz_,fq_,fk_,fr_,ft_,fs_,f0_,c5_,bt_,bd_,c3_,ct_,cx_,cr_,cf_,an_,cl_,fv_,Int.toNat_natCast,b9_,c6_,f3_,di_,dm_,dn_,gv_,g4_,gu_,gs_,f4_,Int.add_zero,Int.zero_add,Int.ediv_one,Nat.reduceAdd,Nat.reduceMul,Int.reduceNeg,Nat.reduceLeDiff,List.length_cons,List.length_nil,true_and,and_true,Nat.zero_add,eq_self,Nat.reduceEqDiff,Int.reduceAdd,Int.reduceSub,Int.reduceMul,not_true_eq_false,not_false_eq_true,Nat.reduceLT,Int.reduceToNat,Int.reduceEq,Int.reduceNe,Int.reduceLT,Int.reduceLE,and_self,and_false,false_implies,true_implies]
    rw [hnn]
    have loop : ∀ k s : Nat, s + k = 2 ^ hb_ R → ∀ y tk, J M_M_fewest 37 [some (.ref 90), some (.int (zI (n.toNat : Int))), some (.int (zI 0)), some (.int (zI (bestN (fewP R n.toNat) s))), some (.int (zI (lstF (bestN (fewP R n.toNat) s)))), some (.int (zI s)), y] [] (HM R rf lt lsz a0 ib sm pl lo nu x ig im 49 tk (.ref 101) tu pz tf tn tsz ga sd bb) Q := by
      intro k
      induction k with
      | zero =>
        intro s hs y tk
        have e : s = 2 ^ hb_ R := by omega
        subst e
        refine w_M_fewest_37 ?_
        simp (disch := omega) only [cm_,aq_,ay_,ag_,b8_,af_,bb_,bf_,b3_,am_,ae_,ac_,b2_,bq_,ed_,bs_,ao_,a2_,az_,av_,a4_,aw_,dw_,d6_,ea_,d3_,b5_,fl_,fn_,fh_,fu_,fp_,fz_,fq_,fk_,fr_,ft_,fs_,f0_,c5_,bt_,bd_,c3_,ct_,cx_,cr_,cf_,an_,cl_,fv_,Int.toNat_natCast,b9_,c6_,f3_,di_,dm_,dn_,gv_,g4_,gu_,gs_,f4_,Int.add_zero,Int.zero_add,Int.ediv_one,Nat.reduceAdd,Nat.reduceMul,Int.reduceNeg,Nat.reduceLeDiff,List.length_cons,List.length_nil,true_and,and_true,Nat.zero_add,eq_self,Nat.reduceEqDiff,Int.reduceAdd,Int.reduceSub,Int.reduceMul,not_true_eq_false,not_false_eq_true,Nat.reduceLT,Int.reduceToNat,Int.reduceEq,Int.reduceNe,Int.reduceLT,Int.reduceLE,and_self,and_false,false_implies,true_implies,esh]
        refine ⟨fun _ => ?_, fun q => by omega⟩
        refine w_M_fewest_143 ?_
        simp (disch := omega) only [cm_,aq_,ay_,ag_,b8_,af_,bb_,bf_,b3_,am_,ae_,ac_,b2_,bq_,ed_,bs_,ao_,a2_,az_,av_,a4_,aw_,dw_,d6_,ea_,d3_,b5_,fl_,fn_,fh_,fu_,fp_,fz_,fq_,fk_,fr_,ft_,fs_,f0_,c5_,bt_,bd_,c3_,ct_,cx_,cr_,cf_,an_,cl_,fv_,Int.toNat_natCast,b9_,c6_,f3_,di_,dm_,dn_,gv_,g4_,gu_,gs_,f4_,Int.add_zero,Int.zero_add,Int.ediv_one,Nat.reduceAdd,Nat.reduceMul,Int.reduceNeg,Nat.reduceLeDiff,List.length_cons,List.length_nil,true_and,and_true,Nat.zero_add,eq_self,Nat.reduceEqDiff,Int.reduceAdd,Int.reduceSub,Int.reduceMul,not_true_eq_false,not_false_eq_true,Nat.reduceLT,Int.reduceToNat,Int.reduceEq,Int.reduceNe,Int.reduceLT,Int.reduceLE,and_self,and_false,false_implies,true_implies]
        exact kk _ ⟨_, _, _, _, _, _, _, _, _, _, _, _, _, _, _, rfl, hIg, hTu, hPz⟩
      | succ k ih =>
        intro s hs y tk
        have step := ih (s + 1) (by omega)
        have br := bestN_rng (fewP R n.toNat) s
        have hl : lowB s (hb_ R) := lt_lowB (by omega)
        simp only [bestN] at step
        obtain ⟨l, l1⟩ : ∃ l, lstF (bestN (fewP R n.toNat) s) = l := ⟨_, rfl⟩
        have ps := pop8_le s
        have pb := pop8_le (bestN (fewP R n.toNat) s).toNat
        have l2 : 0 ≤ lstF (bestN (fewP R n.toNat) s) ∧ lstF (bestN (fewP R n.toNat) s) ≤ 9 := by
          rw [lstF]
          split <;> omega
        have no : ¬ (fewP R n.toNat s = true ∧ (bestN (fewP R n.toNat) s < 0 ∨ pop8 s < pop8 (bestN (fewP R n.toNat) s).toNat)) → ∀ y tk, J M_M_fewest 137 [some (.ref 90), some (.int (zI (n.toNat : Int))), some (.int (zI 0)), some (.int (zI (bestN (fewP R n.toNat) s))), some (.int (zI (lstF (bestN (fewP R n.toNat) s)))), some (.int (zI s)), y] [] (HM R rf lt lsz a0 ib sm pl lo nu x ig im 49 tk (.ref 101) tu pz tf tn tsz ga sd bb) Q := by
          intro q y tk
          rw [if_neg q] at step
          refine w_M_fewest_137 ?_
          simp (disch := omega) only [cm_,aq_,ay_,ag_,b8_,af_,bb_,bf_,b3_,am_,ae_,ac_,b2_,bq_,ed_,bs_,ao_,a2_,az_,av_,a4_,aw_,dw_,d6_,ea_,d3_,b5_,fl_,fn_,fh_,fu_,fp_,fz_,fq_,fk_,fr_,ft_,fs_,f0_,c5_,bt_,bd_,c3_,ct_,cx_,cr_,cf_,an_,cl_,fv_,Int.toNat_natCast,b9_,c6_,f3_,di_,dm_,dn_,gv_,g4_,gu_,gs_,f4_,Int.add_zero,Int.zero_add,Int.ediv_one,Nat.reduceAdd,Nat.reduceMul,Int.reduceNeg,Nat.reduceLeDiff,List.length_cons,List.length_nil,true_and,and_true,Nat.zero_add,eq_self,Nat.reduceEqDiff,Int.reduceAdd,Int.reduceSub,Int.reduceMul,not_true_eq_false,not_false_eq_true,Nat.reduceLT,Int.reduceToNat,Int.reduceEq,Int.reduceNe,Int.reduceLT,Int.reduceLE,and_self,and_false,false_implies,true_implies]
          exact step _ _
        refine w_M_fewest_37 ?_
        simp (disch := omega) only [cm_,aq_,ay_,ag_,b8_,af_,bb_,bf_,b3_,am_,ae_,ac_,b2_,bq_,ed_,bs_,ao_,a2_,az_,av_,a4_,aw_,dw_,d6_,ea_,d3_,b5_,fl_,fn_,fh_,fu_,fp_,fz_,fq_,fk_,fr_,ft_,fs_,f0_,c5_,bt_,bd_,c3_,ct_,cx_,cr_,cf_,an_,cl_,fv_,Int.toNat_natCast,b9_,c6_,f3_,di_,dm_,dn_,gv_,g4_,gu_,gs_,f4_,Int.add_zero,Int.zero_add,Int.ediv_one,Nat.reduceAdd,Nat.reduceMul,Int.reduceNeg,Nat.reduceLeDiff,List.length_cons,List.length_nil,true_and,and_true,Nat.zero_add,eq_self,Nat.reduceEqDiff,Int.reduceAdd,Int.reduceSub,Int.reduceMul,not_true_eq_false,not_false_eq_true,Nat.reduceLT,Int.reduceToNat,Int.reduceEq,Int.reduceNe,Int.reduceLT,Int.reduceLE,and_self,and_false,false_implies,true_implies,esh]
        refine ⟨fun q => by omega, fun _ => ?_⟩
        refine con_MonesOf (b := s) (by omega) ?_
        simp (disch := omega) only [cm_,aq_,ay_,ag_,b8_,af_,bb_,bf_,b3_,am_,ae_,ac_,b2_,bq_,ed_,bs_,ao_,a2_,az_,av_,a4_,aw_,dw_,d6_,ea_,d3_,b5_,fl_,fn_,fh_,fu_,fp_,fz_,fq_,fk_,fr_,ft_,fs_,f0_,c5_,bt_,bd_,c3_,ct_,cx_,cr_,cf_,an_,cl_,fv_,Int.toNat_natCast,b9_,c6_,f3_,di_,dm_,dn_,gv_,g4_,gu_,gs_,f4_,Int.add_zero,Int.zero_add,Int.ediv_one,Nat.reduceAdd,Nat.reduceMul,Int.reduceNeg,Nat.reduceLeDiff,List.length_cons,List.length_nil,true_and,and_true,Nat.zero_add,eq_self,Nat.reduceEqDiff,Int.reduceAdd,Int.reduceSub,Int.reduceMul,not_true_eq_false,not_false_eq_true,Nat.reduceLT,Int.reduceToNat,Int.reduceEq,Int.reduceNe,Int.reduceLT,Int.reduceLE,and_self,and_false,false_implies,true_implies]
        refine ⟨fun c5 => no (fun q => ?_) _ _, fun c5 => ?_⟩
        · rcases q.2 with z | z
          · have l3 := l1; rw [lstF, if_pos z] at l3; omega
          · by_cases z2 : bestN (fewP R n.toNat) s < 0
            · have l3 := l1; rw [lstF, if_pos z2] at l3; omega
            · have l3 := l1; rw [lstF, if_neg z2] at l3; omega
        · refine con_MbitsOf (by unfold inI; omega) hG ?_
          have ea : anb s (mask (isF R 0) (hb_ R)) < 256 := anb_256 (by omega)
          simp (disch := omega) only [cm_,aq_,ay_,ag_,b8_,af_,bb_,bf_,b3_,am_,ae_,ac_,b2_,bq_,ed_,bs_,ao_,a2_,az_,av_,a4_,aw_,dw_,d6_,ea_,d3_,b5_,fl_,fn_,fh_,fu_,fp_,fz_,fq_,fk_,fr_,ft_,fs_,f0_,c5_,bt_,bd_,c3_,ct_,cx_,cr_,cf_,an_,cl_,fv_,Int.toNat_natCast,b9_,c6_,f3_,di_,dm_,dn_,gv_,g4_,gu_,gs_,f4_,Int.add_zero,Int.zero_add,Int.ediv_one,Nat.reduceAdd,Nat.reduceMul,Int.reduceNeg,Nat.reduceLeDiff,List.length_cons,List.length_nil,true_and,and_true,Nat.zero_add,eq_self,Nat.reduceEqDiff,Int.reduceAdd,Int.reduceSub,Int.reduceMul,not_true_eq_false,not_false_eq_true,Nat.reduceLT,Int.reduceToNat,Int.reduceEq,Int.reduceNe,Int.reduceLT,Int.reduceLE,and_self,and_false,false_implies,true_implies]
          refine ⟨fun c => no (fun z => ?_) _ _, fun c => ?_⟩
          · have := of_decide_eq_true z.1
            omega
          · have hz : anb s (mask (isF R 0) (hb_ R)) = 0 := by omega
            have better : bestN (fewP R n.toNat) s < 0 ∨ pop8 s < pop8 (bestN (fewP R n.toNat) s).toNat := by
              by_cases z2 : bestN (fewP R n.toNat) s < 0
              · exact Or.inl z2
              · have l3 := l1; rw [lstF, if_neg z2] at l3; exact Or.inr (by omega)
            have hI2 := fun i => hI.par hz i
            have pst := par_stop R s (8 - hb_ R)
            rw [show hb_ R + (8 - hb_ R) = 8 by omega] at pst
            have inner : ∀ m i : Nat, i + m = hb_ R → J M_M_fewest 74 [some (.ref 90), some (.int (zI (n.toNat : Int))), some (.int (zI 0)), some (.int (zI (bestN (fewP R n.toNat) s))), some (.int (zI (lstF (bestN (fewP R n.toNat) s)))), some (.int (zI s)), some (.int (zI i))] [] (HM (parR R s i) rf lt lsz a0 ib sm pl lo nu x ig im 49 tk (.ref 101) tu pz tf tn tsz ga sd bb) Q := by
              intro m
              induction m with
              | zero =>
                intro i hi
                have e : i = hb_ R := by omega
                subst e
                rw [← pst]
                have g2 := ((hI2 8).1.dsX n.toNat).king
                refine w_M_fewest_74 ?_
                simp (disch := omega) only [cm_,aq_,ay_,ag_,b8_,af_,bb_,bf_,b3_,am_,ae_,ac_,b2_,bq_,ed_,bs_,ao_,a2_,az_,av_,a4_,aw_,dw_,d6_,ea_,d3_,b5_,fl_,fn_,fh_,fu_,fp_,fz_,fq_,fk_,fr_,ft_,fs_,f0_,c5_,bt_,bd_,c3_,ct_,cx_,cr_,cf_,an_,cl_,fv_,Int.toNat_natCast,b9_,c6_,f3_,di_,dm_,dn_,gv_,g4_,gu_,gs_,f4_,Int.add_zero,Int.zero_add,Int.ediv_one,Nat.reduceAdd,Nat.reduceMul,Int.reduceNeg,Nat.reduceLeDiff,List.length_cons,List.length_nil,true_and,and_true,Nat.zero_add,eq_self,Nat.reduceEqDiff,Int.reduceAdd,Int.reduceSub,Int.reduceMul,not_true_eq_false,not_false_eq_true,Nat.reduceLT,Int.reduceToNat,Int.reduceEq,Int.reduceNe,Int.reduceLT,Int.reduceLE,and_self,and_false,false_implies,true_implies,par_men]
                refine ⟨fun _ => ?_, fun q => by omega⟩
                refine w_M_fewest_117 ?_
                simp (disch := omega) only [cm_,aq_,ay_,ag_,b8_,af_,bb_,bf_,b3_,am_,ae_,ac_,b2_,bq_,ed_,bs_,ao_,a2_,az_,av_,a4_,aw_,dw_,d6_,ea_,d3_,b5_,fl_,fn_,fh_,fu_,fp_,fz_,fq_,fk_,fr_,ft_,fs_,f0_,c5_,bt_,bd_,c3_,ct_,cx_,cr_,cf_,an_,cl_,fv_,Int.toNat_natCast,b9_,c6_,f3_,di_,dm_,dn_,gv_,g4_,gu_,gs_,f4_,Int.add_zero,Int.zero_add,Int.ediv_one,Nat.reduceAdd,Nat.reduceMul,Int.reduceNeg,Nat.reduceLeDiff,List.length_cons,List.length_nil,true_and,and_true,Nat.zero_add,eq_self,Nat.reduceEqDiff,Int.reduceAdd,Int.reduceSub,Int.reduceMul,not_true_eq_false,not_false_eq_true,Nat.reduceLT,Int.reduceToNat,Int.reduceEq,Int.reduceNe,Int.reduceLT,Int.reduceLE,and_self,and_false,false_implies,true_implies]
                refine con_MkingThen (S := R) (by omega) (hI2 8) hx hI.2.2 ?_
                simp (disch := omega) only [cm_,aq_,ay_,ag_,b8_,af_,bb_,bf_,b3_,am_,ae_,ac_,b2_,bq_,ed_,bs_,ao_,a2_,az_,av_,a4_,aw_,dw_,d6_,ea_,d3_,b5_,fl_,fn_,fh_,fu_,fp_,fz_,fq_,fk_,fr_,ft_,fs_,f0_,c5_,bt_,bd_,c3_,ct_,cx_,cr_,cf_,an_,cl_,fv_,Int.toNat_natCast,b9_,c6_,f3_,di_,dm_,dn_,gv_,g4_,gu_,gs_,f4_,Int.add_zero,Int.zero_add,Int.ediv_one,Nat.reduceAdd,Nat.reduceMul,Int.reduceNeg,Nat.reduceLeDiff,List.length_cons,List.length_nil,true_and,and_true,Nat.zero_add,eq_self,Nat.reduceEqDiff,Int.reduceAdd,Int.reduceSub,Int.reduceMul,not_true_eq_false,not_false_eq_true,Nat.reduceLT,Int.reduceToNat,Int.reduceEq,Int.reduceNe,Int.reduceLT,Int.reduceLE,and_self,and_false,false_implies,true_implies]
                refine ⟨fun c6 => no (fun z => ?_) _ _, fun c6 => ?_⟩
                · have := of_decide_eq_true z.1
                  omega
                · rw [if_pos ⟨decide_eq_true ⟨hz, by omega⟩, better⟩] at step
                  have el : lstF (s : Int) = (pop8 s : Nat) := by rw [lstF, if_neg (by omega), Int.toNat_natCast]
                  rw [el] at step
                  refine con_MonesOf (b := s) (by omega) ?_
                  simp (disch := omega) only [cm_,aq_,ay_,ag_,b8_,af_,bb_,bf_,b3_,am_,ae_,ac_,b2_,bq_,ed_,bs_,ao_,a2_,az_,av_,a4_,aw_,dw_,d6_,ea_,d3_,b5_,fl_,fn_,fh_,fu_,fp_,fz_,fq_,fk_,fr_,ft_,fs_,f0_,c5_,bt_,bd_,c3_,ct_,cx_,cr_,cf_,an_,cl_,fv_,Int.toNat_natCast,b9_,c6_,f3_,di_,dm_,dn_,gv_,g4_,gu_,gs_,f4_,Int.add_zero,Int.zero_add,Int.ediv_one,Nat.reduceAdd,Nat.reduceMul,Int.reduceNeg,Nat.reduceLeDiff,List.length_cons,List.length_nil,true_and,and_true,Nat.zero_add,eq_self,Nat.reduceEqDiff,Int.reduceAdd,Int.reduceSub,Int.reduceMul,not_true_eq_false,not_false_eq_true,Nat.reduceLT,Int.reduceToNat,Int.reduceEq,Int.reduceNe,Int.reduceLT,Int.reduceLE,and_self,and_false,false_implies,true_implies]
                  refine w_M_fewest_137 ?_
                  simp (disch := omega) only [cm_,aq_,ay_,ag_,b8_,af_,bb_,bf_,b3_,am_,ae_,ac_,b2_,bq_,ed_,bs_,ao_,a2_,az_,av_,a4_,aw_,dw_,d6_,ea_,d3_,b5_,fl_,fn_,fh_,fu_,fp_,fz_,fq_,fk_,fr_,ft_,fs_,f0_,c5_,bt_,bd_,c3_,ct_,cx_,cr_,cf_,an_,cl_,fv_,Int.toNat_natCast,b9_,c6_,f3_,di_,dm_,dn_,gv_,g4_,gu_,gs_,f4_,Int.add_zero,Int.zero_add,Int.ediv_one,Nat.reduceAdd,Nat.reduceMul,Int.reduceNeg,Nat.reduceLeDiff,List.length_cons,List.length_nil,true_and,and_true,Nat.zero_add,eq_self,Nat.reduceEqDiff,Int.reduceAdd,Int.reduceSub,Int.reduceMul,not_true_eq_false,not_false_eq_true,Nat.reduceLT,Int.reduceToNat,Int.reduceEq,Int.reduceNe,Int.reduceLT,Int.reduceLE,and_self,and_false,false_implies,true_implies]
                  exact step _ _
              | succ m ihm =>
                intro i hi
                have step2 := ihm (i + 1) (by omega)
                have gf := (hI2 i).1.fa i
                refine w_M_fewest_74 ?_
                simp (disch := omega) only [cm_,aq_,ay_,ag_,b8_,af_,bb_,bf_,b3_,am_,ae_,ac_,b2_,bq_,ed_,bs_,ao_,a2_,az_,av_,a4_,aw_,dw_,d6_,ea_,d3_,b5_,fl_,fn_,fh_,fu_,fp_,fz_,fq_,fk_,fr_,ft_,fs_,f0_,c5_,bt_,bd_,c3_,ct_,cx_,cr_,cf_,an_,cl_,fv_,Int.toNat_natCast,b9_,c6_,f3_,di_,dm_,dn_,gv_,g4_,gu_,gs_,f4_,Int.add_zero,Int.zero_add,Int.ediv_one,Nat.reduceAdd,Nat.reduceMul,Int.reduceNeg,Nat.reduceLeDiff,List.length_cons,List.length_nil,true_and,and_true,Nat.zero_add,eq_self,Nat.reduceEqDiff,Int.reduceAdd,Int.reduceSub,Int.reduceMul,not_true_eq_false,not_false_eq_true,Nat.reduceLT,Int.reduceToNat,Int.reduceEq,Int.reduceNe,Int.reduceLT,Int.reduceLE,and_self,and_false,false_implies,true_implies,par_men]
                refine ⟨fun q => by omega, fun _ => ?_⟩
                refine con_MhasBit (b := s) (i := i) (by omega) (by omega) (fun c7 => ?_) (fun c7 => ?_)
                · rw [par_more (by omega) c7] at step2
                  simp (disch := omega) only [cm_,aq_,ay_,ag_,b8_,af_,bb_,bf_,b3_,am_,ae_,ac_,b2_,bq_,ed_,bs_,ao_,a2_,az_,av_,a4_,aw_,dw_,d6_,ea_,d3_,b5_,fl_,fn_,fh_,fu_,fp_,fz_,fq_,fk_,fr_,ft_,fs_,f0_,c5_,bt_,bd_,c3_,ct_,cx_,cr_,cf_,an_,cl_,fv_,Int.toNat_natCast,b9_,c6_,f3_,di_,dm_,dn_,gv_,g4_,gu_,gs_,f4_,Int.add_zero,Int.zero_add,Int.ediv_one,Nat.reduceAdd,Nat.reduceMul,Int.reduceNeg,Nat.reduceLeDiff,List.length_cons,List.length_nil,true_and,and_true,Nat.zero_add,eq_self,Nat.reduceEqDiff,Int.reduceAdd,Int.reduceSub,Int.reduceMul,not_true_eq_false,not_false_eq_true,Nat.reduceLT,Int.reduceToNat,Int.reduceEq,Int.reduceNe,Int.reduceLT,Int.reduceLE,and_self,and_false,false_implies,true_implies,par_men]
                  refine w_M_fewest_110 ?_
                  simp (disch := omega) only [cm_,aq_,ay_,ag_,b8_,af_,bb_,bf_,b3_,am_,ae_,ac_,b2_,bq_,ed_,bs_,ao_,a2_,az_,av_,a4_,aw_,dw_,d6_,ea_,d3_,b5_,fl_,fn_,fh_,fu_,fp_,fz_,fq_,fk_,fr_,ft_,fs_,f0_,c5_,bt_,bd_,c3_,ct_,cx_,cr_,cf_,an_,cl_,fv_,Int.toNat_natCast,b9_,c6_,f3_,di_,dm_,dn_,gv_,g4_,gu_,gs_,f4_,Int.add_zero,Int.zero_add,Int.ediv_one,Nat.reduceAdd,Nat.reduceMul,Int.reduceNeg,Nat.reduceLeDiff,List.length_cons,List.length_nil,true_and,and_true,Nat.zero_add,eq_self,Nat.reduceEqDiff,Int.reduceAdd,Int.reduceSub,Int.reduceMul,not_true_eq_false,not_false_eq_true,Nat.reduceLT,Int.reduceToNat,Int.reduceEq,Int.reduceNe,Int.reduceLT,Int.reduceLE,and_self,and_false,false_implies,true_implies,par_men]
                  refine ⟨by omega, ?_⟩
                  exact step2
                · rw [par_same (fun q => by rw [c7] at q; exact absurd q.2 (by decide))] at step2
                  simp (disch := omega) only [cm_,aq_,ay_,ag_,b8_,af_,bb_,bf_,b3_,am_,ae_,ac_,b2_,bq_,ed_,bs_,ao_,a2_,az_,av_,a4_,aw_,dw_,d6_,ea_,d3_,b5_,fl_,fn_,fh_,fu_,fp_,fz_,fq_,fk_,fr_,ft_,fs_,f0_,c5_,bt_,bd_,c3_,ct_,cx_,cr_,cf_,an_,cl_,fv_,Int.toNat_natCast,b9_,c6_,f3_,di_,dm_,dn_,gv_,g4_,gu_,gs_,f4_,Int.add_zero,Int.zero_add,Int.ediv_one,Nat.reduceAdd,Nat.reduceMul,Int.reduceNeg,Nat.reduceLeDiff,List.length_cons,List.length_nil,true_and,and_true,Nat.zero_add,eq_self,Nat.reduceEqDiff,Int.reduceAdd,Int.reduceSub,Int.reduceMul,not_true_eq_false,not_false_eq_true,Nat.reduceLT,Int.reduceToNat,Int.reduceEq,Int.reduceNe,Int.reduceLT,Int.reduceLE,and_self,and_false,false_implies,true_implies,par_men]
                  refine w_M_fewest_103 ?_
                  simp (disch := omega) only [cm_,aq_,ay_,ag_,b8_,af_,bb_,bf_,b3_,am_,ae_,ac_,b2_,bq_,ed_,bs_,ao_,a2_,az_,av_,a4_,aw_,dw_,d6_,ea_,d3_,b5_,fl_,fn_,fh_,fu_,fp_,fz_,fq_,fk_,fr_,ft_,fs_,f0_,c5_,bt_,bd_,c3_,ct_,cx_,cr_,cf_,an_,cl_,fv_,Int.toNat_natCast,b9_,c6_,f3_,di_,dm_,dn_,gv_,g4_,gu_,gs_,f4_,Int.add_zero,Int.zero_add,Int.ediv_one,Nat.reduceAdd,Nat.reduceMul,Int.reduceNeg,Nat.reduceLeDiff,List.length_cons,List.length_nil,true_and,and_true,Nat.zero_add,eq_self,Nat.reduceEqDiff,Int.reduceAdd,Int.reduceSub,Int.reduceMul,not_true_eq_false,not_false_eq_true,Nat.reduceLT,Int.reduceToNat,Int.reduceEq,Int.reduceNe,Int.reduceLT,Int.reduceLE,and_self,and_false,false_implies,true_implies,par_men]
                  refine ⟨by omega, ?_⟩
                  refine w_M_fewest_110 ?_
                  simp (disch := omega) only [cm_,aq_,ay_,ag_,b8_,af_,bb_,bf_,b3_,am_,ae_,ac_,b2_,bq_,ed_,bs_,ao_,a2_,az_,av_,a4_,aw_,dw_,d6_,ea_,d3_,b5_,fl_,fn_,fh_,fu_,fp_,fz_,fq_,fk_,fr_,ft_,fs_,f0_,c5_,bt_,bd_,c3_,ct_,cx_,cr_,cf_,an_,cl_,fv_,Int.toNat_natCast,b9_,c6_,f3_,di_,dm_,dn_,gv_,g4_,gu_,gs_,f4_,Int.add_zero,Int.zero_add,Int.ediv_one,Nat.reduceAdd,Nat.reduceMul,Int.reduceNeg,Nat.reduceLeDiff,List.length_cons,List.length_nil,true_and,and_true,Nat.zero_add,eq_self,Nat.reduceEqDiff,Int.reduceAdd,Int.reduceSub,Int.reduceMul,not_true_eq_false,not_false_eq_true,Nat.reduceLT,Int.reduceToNat,Int.reduceEq,Int.reduceNe,Int.reduceLT,Int.reduceLE,and_self,and_false,false_implies,true_implies,par_men]
                  refine ⟨by omega, ?_⟩
                  rw [upI_id, sFa_id]
                  exact step2
            have i0 := inner (hb_ R) 0 (by omega)
            rw [par_0] at i0
            exact i0
    exact loop _ 0 (Nat.zero_add _) none _
end E23
end
/-! pairsM -/
section
/-! ===== the reference: who keeps step with whom ===== -/
theorem owN_spec (R : RR) (v : Int) (b k n : Nat) : (owN R v b k n = -9 ∧ ∀ j, k ≤ j → j < k + n → b.testBit j = true → bears R j ≠ v) ∨ (∃ j, k ≤ j ∧ j < k + n ∧ owN R v b k n = (j : Int) ∧ b.testBit j = true ∧ bears R j = v) := by
  induction n generalizing k with
  | zero => exact Or.inl ⟨rfl, fun j h1 h2 => by omega⟩
  | succ n ih =>
    simp only [owN]
    by_cases c : b.testBit k = true ∧ bears R k = v
    · rw [if_pos c]
      exact Or.inr ⟨k, Nat.le_refl k, by omega, rfl, c.1, c.2⟩
    · rw [if_neg c]
      rcases ih (k + 1) with ⟨h1, h2⟩ | ⟨j, h1, h2, h3, h4, h5⟩
      · refine Or.inl ⟨h1, fun j q1 q2 q3 q4 => ?_⟩
        rcases Nat.eq_or_lt_of_le q1 with e | e
        · subst e; exact c ⟨q3, q4⟩
        · exact h2 j (by omega) (by omega) q3 q4
      · exact Or.inr ⟨j, by omega, by omega, h3, h4, h5⟩
abbrev eqN (R : RR) (v : Int) (n : Nat) : Int := cntN (fun b => decide (rFa R b = 1 ∧ bears R b = v)) n
def odN (R : RR) (a : Nat) : Int := if rFa R a = 1 then eqN R (bears R a) a else 0
def pnN (R : RR) : Nat → Int
  | 0 => 0
  | n + 1 => pnN R n + (odN R n - odN R n / 2 * 2)
theorem odN_rng (R : RR) (n : Nat) : 0 ≤ odN R n ∧ odN R n ≤ n := by
  have := cntN_rng (fun b => decide (rFa R b = 1 ∧ bears R b = bears R n)) n
  simp only [odN]
  split <;> omega
theorem pnN_rng (R : RR) (n : Nat) : 0 ≤ pnN R n ∧ pnN R n ≤ n := by
  induction n with
  | zero => exact ⟨Int.le_refl 0, Int.le_refl 0⟩
  | succ n ih =>
    have := odN_rng R n
    simp only [pnN]
    omega
theorem tws_spec (R : RR) (n : Nat) (hn : n ≤ 8) : (∀ j, (twsN R n).1.testBit j = true → j < n) ∧ (∀ v, (eqN R v n % 2 = 1 ∧ ∃ k, (twsN R n).1.testBit k = true ∧ bears R k = v ∧ ∀ j, (twsN R n).1.testBit j = true → bears R j = v → j = k) ∨ (eqN R v n % 2 = 0 ∧ ∀ j, (twsN R n).1.testBit j = true → bears R j ≠ v)) ∧ (twsN R n).2 = pnN R n := by
  induction n with
  | zero => exact ⟨fun j h => by simp [twsN] at h, fun v => Or.inr ⟨rfl, fun j h => by simp [twsN] at h⟩, rfl⟩
  | succ n ih =>
    obtain ⟨h1, h2, h3⟩ := ih (by omega)
    by_cases c : rFa R n = 1
    · have hod : odN R n = eqN R (bears R n) n := by rw [odN, if_pos c]
      have same : ∀ v, bears R n ≠ v → eqN R v (n + 1) = eqN R v n := by
        intro v hv
        simp only [eqN, cntN]
        rw [if_neg (fun q => hv (of_decide_eq_true q).2)]
      have more : eqN R (bears R n) (n + 1) = eqN R (bears R n) n + 1 := by
        simp only [eqN, cntN]
        rw [if_pos (by simp [c])]
      rcases owN_spec R (bears R n) (twsN R n).1 0 8 with ⟨w1, w2⟩ | ⟨k, _, w2, w3, w4, w5⟩
      · have e : twsN R (n + 1) = ((twsN R n).1 ||| 2 ^ n, (twsN R n).2) := by
          simp only [twsN]
          rw [if_pos c, if_pos (by omega)]
        have none : ∀ j, (twsN R n).1.testBit j = true → bears R j ≠ bears R n := fun j q => w2 j (by omega) (by have := h1 j q; omega) q
        have ev : eqN R (bears R n) n % 2 = 0 := by
          rcases h2 (bears R n) with ⟨_, k, q1, q2, _⟩ | q
          · exact absurd q2 (none k q1)
          · exact q.1
        have bit : ∀ j, (twsN R (n + 1)).1.testBit j = true → (twsN R n).1.testBit j = true ∨ j = n := by
          intro j q
          rw [e] at q
          simp only [Nat.testBit_or, Nat.testBit_two_pow, Bool.or_eq_true, decide_eq_true_eq] at q
          rcases q with q | q
          · exact Or.inl q
          · exact Or.inr q.symm
        have bin : ∀ j, (twsN R n).1.testBit j = true → (twsN R (n + 1)).1.testBit j = true := by
          intro j q
          rw [e]
          simp only [Nat.testBit_or, q, Bool.true_or]
        have bn : (twsN R (n + 1)).1.testBit n = true := by
          rw [e]
          simp [Nat.testBit_or, Nat.testBit_two_pow]
        refine ⟨fun j q => ?_, fun v => ?_, ?_⟩
        · rcases bit j q with z | z
          · have := h1 j z; omega
          · omega
        · by_cases hv : bears R n = v
          · subst hv
            refine Or.inl ⟨by rw [more]; omega, n, bn, rfl, fun j q1 q2 => ?_⟩
            rcases bit j q1 with z | z
            · exact absurd q2 (none j z)
            · exact z
          · rw [same v hv]
            rcases h2 v with ⟨q0, k, q1, q2, q3⟩ | ⟨q0, q1⟩
            · refine Or.inl ⟨q0, k, bin k q1, q2, fun j x1 x2 => ?_⟩
              rcases bit j x1 with z | z
              · exact q3 j z x2
              · subst z; exact absurd x2 hv
            · refine Or.inr ⟨q0, fun j x1 x2 => ?_⟩
              rcases bit j x1 with z | z
              · exact q1 j z x2
              · subst z; exact absurd x2 hv
        · rw [e]
          simp only [pnN, hod]
          omega
      · have e : twsN R (n + 1) = (anb (twsN R n).1 (2 ^ k), (twsN R n).2 + 1) := by
          simp only [twsN]
          rw [if_pos c, if_neg (by omega), w3, Int.toNat_natCast]
        have bit : ∀ j, (twsN R (n + 1)).1.testBit j = true → (twsN R n).1.testBit j = true ∧ j ≠ k := by
          intro j q
          rw [e] at q
          simp only [anb_bit, Nat.testBit_two_pow, Bool.and_eq_true, Bool.not_eq_true', decide_eq_false_iff_not] at q
          exact ⟨q.1, fun z => q.2 z.symm⟩
        have bin : ∀ j, (twsN R n).1.testBit j = true → j ≠ k → (twsN R (n + 1)).1.testBit j = true := by
          intro j q z
          rw [e]
          simp only [anb_bit, Nat.testBit_two_pow, q, Bool.true_and, Bool.not_eq_true', decide_eq_false_iff_not]
          exact fun y => z y.symm
        have uniq : eqN R (bears R n) n % 2 = 1 ∧ ∀ j, (twsN R n).1.testBit j = true → bears R j = bears R n → j = k := by
          rcases h2 (bears R n) with ⟨q0, i, q1, q2, q3⟩ | ⟨q0, q1⟩
          · refine ⟨q0, fun j x1 x2 => ?_⟩
            rw [q3 j x1 x2, q3 k w4 w5]
          · exact absurd w5 (q1 k w4)
        refine ⟨fun j q => ?_, fun v => ?_, ?_⟩
        · have := h1 j (bit j q).1; omega
        · by_cases hv : bears R n = v
          · subst hv
            refine Or.inr ⟨by rw [more]; omega, fun j q1 q2 => ?_⟩
            exact (bit j q1).2 (uniq.2 j (bit j q1).1 q2)
          · rw [same v hv]
            rcases h2 v with ⟨q0, i, q1, q2, q3⟩ | ⟨q0, q1⟩
            · refine Or.inl ⟨q0, i, bin i q1 (fun z => hv (by rw [← q2, z, w5])), q2, fun j x1 x2 => q3 j (bit j x1).1 x2⟩
            · exact Or.inr ⟨q0, fun j x1 x2 => q1 j (bit j x1).1 x2⟩
        · rw [e]
          simp only [pnN, hod]
          omega
    · have e : twsN R (n + 1) = twsN R n := by simp only [twsN]; rw [if_neg c]
      have same : ∀ v, eqN R v (n + 1) = eqN R v n := by
        intro v
        simp only [eqN, cntN]
        rw [if_neg (fun q => c (of_decide_eq_true q).1)]
      refine ⟨fun j q => ?_, fun v => ?_, ?_⟩
      · rw [e] at q
        have := h1 j q; omega
      · rw [same v, e]; exact h2 v
      · rw [e, h3]
        simp only [pnN, odN]
        rw [if_neg c]
        omega
section E24
variable {R : RR} {rf : Nat → Int} {lt : Nat → Int} {lsz : Int} {a0 : Int} {ib : Int} {sm : Int} {pl : Nat → Int} {lo : Nat → Int} {nu : Nat → Int} {kp : Nat → Int} {ig : Nat → Int} {hmg : Int} {p0 : Int} {tk : Int} {ki : Value} {tu : Nat → Int} {tz : Int} {tf : Nat → Int} {tn : Nat → Int} {tsz : Int} {ga : Nat → Int} {sd : Int} {bb : AH} {Q : Option Value → AH → Prop}
theorem con_MpairsNow (hG : GR R) (hQ : Q (some (.int (zI (twsN R (hb_ R)).2))) (HM R rf lt lsz a0 ib sm pl lo nu kp ig hmg p0 tk ki tu tz tf tn tsz ga sd bb)) : Con M_M_pairsNow [.ref 90] (HM R rf lt lsz a0 ib sm pl lo nu kp ig hmg p0 tk ki tu tz tf tn tsz ga sd bb) Q := by
  have gm := hG.men
  have gn := hG.nM
  rw [(tws_spec R (hb_ R) gn.2).2.2] at hQ
  refine g8_ (L := [some (.ref 90), none, none, none, none, none]) ok_M_pairsNow (Nat.le_of_ble_eq_true rfl) rfl ?_
  refine w_M_pairsNow_0 ?_
  simp (disch := omega) only [cm_,aq_,ay_,ag_,b8_,af_,cg_,ba_,bc_,bl_,am_,ac_,b2_,bq_,bs_,a0_,ao_,a2_,az_,dw_,d6_,ea_,d3_,b5_,b1_,fl_,fn_,fh_,fu_,fp_,fz_,fq_,fk_,fr_,ft_,f0_,c5_,bd_,c3_,cx_,cr_,eb_,d5_,cf_,ch_,ci_,an_,fy_,fv_,cq_,Int.toNat_natCast,f3_,di_,dm_,dn_,gv_,g4_,gu_,f4_,Int.add_zero,Int.zero_add,Int.ediv_one,Nat.reduceAdd,Nat.reduceMul,Int.reduceNeg,Nat.reduceLeDiff,List.length_cons,List.length_nil,true_and,and_true,Nat.zero_add,eq_self,Nat.reduceEqDiff,Int.reduceAdd,Int.reduceSub,Int.reduceMul,Nat.reduceLT,Int.reduceToNat,Int.reduceEq,Int.reduceNe,Int.reduceLT,Int.reduceLE,or_true,true_or,and_self,or_self,false_implies,true_implies]
  have loop : ∀ k a : Nat, a + k = hb_ R → ∀ o y z, J M_M_pairsNow 6 [some (.ref 90), o, some (.int (zI (pnN R a))), some (.int (zI a)), y, z] [] (HM R rf lt lsz a0 ib sm pl lo nu kp ig hmg p0 tk ki tu tz tf tn tsz ga sd bb) Q := by
    intro k
    induction k with
    | zero =>
      intro a ha o y z
      have e : a = hb_ R := by omega
      subst e
      refine w_M_pairsNow_6 ?_
      simp (disch := omega) only [cm_,aq_,ay_,ag_,b8_,af_,cg_,ba_,bc_,bl_,am_,ac_,b2_,bq_,bs_,a0_,ao_,a2_,az_,dw_,d6_,ea_,d3_,b5_,b1_,fl_,fn_,fh_,fu_,fp_,fz_,fq_,fk_,fr_,ft_,f0_,c5_,bd_,c3_,cx_,cr_,eb_,d5_,cf_,ch_,ci_,an_,fy_,fv_,cq_,Int.toNat_natCast,f3_,di_,dm_,dn_,gv_,g4_,gu_,f4_,Int.add_zero,Int.zero_add,Int.ediv_one,Nat.reduceAdd,Nat.reduceMul,Int.reduceNeg,Nat.reduceLeDiff,List.length_cons,List.length_nil,true_and,and_true,Nat.zero_add,eq_self,Nat.reduceEqDiff,Int.reduceAdd,Int.reduceSub,Int.reduceMul,Nat.reduceLT,Int.reduceToNat,Int.reduceEq,Int.reduceNe,Int.reduceLT,Int.reduceLE,or_true,true_or,and_self,or_self,false_implies,true_implies]
      refine ⟨fun _ => ?_, fun q => by omega⟩
      refine w_M_pairsNow_92 ?_
      simp (disch := omega) only [cm_,aq_,ay_,ag_,b8_,af_,cg_,ba_,bc_,bl_,am_,ac_,b2_,bq_,bs_,a0_,ao_,a2_,az_,dw_,d6_,ea_,d3_,b5_,b1_,fl_,fn_,fh_,fu_,fp_,fz_,fq_,fk_,fr_,ft_,f0_,c5_,bd_,c3_,cx_,cr_,eb_,d5_,cf_,ch_,ci_,an_,fy_,fv_,cq_,Int.toNat_natCast,f3_,di_,dm_,dn_,gv_,g4_,gu_,f4_,Int.add_zero,Int.zero_add,Int.ediv_one,Nat.reduceAdd,Nat.reduceMul,Int.reduceNeg,Nat.reduceLeDiff,List.length_cons,List.length_nil,true_and,and_true,Nat.zero_add,eq_self,Nat.reduceEqDiff,Int.reduceAdd,Int.reduceSub,Int.reduceMul,Nat.reduceLT,Int.reduceToNat,Int.reduceEq,Int.reduceNe,Int.reduceLT,Int.reduceLE,or_true,true_or,and_self,or_self,false_implies,true_implies]
      exact hQ
    | succ k ih =>
      intro a ha o y z
      have gf := hG.fa a
      have pr := pnN_rng R a
      have od := odN_rng R a
      have step := ih (a + 1) (by omega)
      simp only [pnN] at step
      have last : ∀ z, J M_M_pairsNow 77 [some (.ref 90), o, some (.int (zI (pnN R a))), some (.int (zI a)), some (.int (zI (odN R a))), z] [] (HM R rf lt lsz a0 ib sm pl lo nu kp ig hmg p0 tk ki tu tz tf tn tsz ga sd bb) Q := by
        intro z
        refine w_M_pairsNow_77 ?_
        simp (disch := omega) only [cm_,aq_,ay_,ag_,b8_,af_,cg_,ba_,bc_,bl_,am_,ac_,b2_,bq_,bs_,a0_,ao_,a2_,az_,dw_,d6_,ea_,d3_,b5_,b1_,fl_,fn_,fh_,fu_,fp_,fz_,fq_,fk_,fr_,ft_,f0_,c5_,bd_,c3_,cx_,cr_,eb_,d5_,cf_,ch_,ci_,an_,fy_,fv_,cq_,Int.toNat_natCast,f3_,di_,dm_,dn_,gv_,g4_,gu_,f4_,Int.add_zero,Int.zero_add,Int.ediv_one,Nat.reduceAdd,Nat.reduceMul,Int.reduceNeg,Nat.reduceLeDiff,List.length_cons,List.length_nil,true_and,and_true,Nat.zero_add,eq_self,Nat.reduceEqDiff,Int.reduceAdd,Int.reduceSub,Int.reduceMul,Nat.reduceLT,Int.reduceToNat,Int.reduceEq,Int.reduceNe,Int.reduceLT,Int.reduceLE,or_true,true_or,and_self,or_self,false_implies,true_implies]
        exact step _ _ _
      refine w_M_pairsNow_6 ?_
      simp (disch := omega) only [cm_,aq_,ay_,ag_,b8_,af_,cg_,ba_,bc_,bl_,am_,ac_,b2_,bq_,bs_,a0_,ao_,a2_,az_,dw_,d6_,ea_,d3_,b5_,b1_,fl_,fn_,fh_,fu_,fp_,fz_,fq_,fk_,fr_,ft_,f0_,c5_,bd_,c3_,cx_,cr_,eb_,d5_,cf_,ch_,ci_,an_,fy_,fv_,cq_,Int.toNat_natCast,f3_,di_,dm_,dn_,gv_,g4_,gu_,f4_,Int.add_zero,Int.zero_add,Int.ediv_one,Nat.reduceAdd,Nat.reduceMul,Int.reduceNeg,Nat.reduceLeDiff,List.length_cons,List.length_nil,true_and,and_true,Nat.zero_add,eq_self,Nat.reduceEqDiff,Int.reduceAdd,Int.reduceSub,Int.reduceMul,Nat.reduceLT,Int.reduceToNat,Int.reduceEq,Int.reduceNe,Int.reduceLT,Int.reduceLE,or_true,true_or,and_self,or_self,false_implies,true_implies]
      refine ⟨fun q => by omega, fun _ => ?_⟩
      by_cases c : rFa R a = 1
      · have hod : odN R a = eqN R (bears R a) a := by rw [odN, if_pos c]
        have inner : ∀ m b : Nat, b + m = a → J M_M_pairsNow 20 [some (.ref 90), o, some (.int (zI (pnN R a))), some (.int (zI a)), some (.int (zI (eqN R (bears R a) b))), some (.int (zI b))] [] (HM R rf lt lsz a0 ib sm pl lo nu kp ig hmg p0 tk ki tu tz tf tn tsz ga sd bb) Q := by
          intro m
          induction m with
          | zero =>
            intro b hb
            have e : b = a := by omega
            subst e
            rw [← hod]
            refine w_M_pairsNow_20 ?_
            simp (disch := omega) only [cm_,aq_,ay_,ag_,b8_,af_,cg_,ba_,bc_,bl_,am_,ac_,b2_,bq_,bs_,a0_,ao_,a2_,az_,dw_,d6_,ea_,d3_,b5_,b1_,fl_,fn_,fh_,fu_,fp_,fz_,fq_,fk_,fr_,ft_,f0_,c5_,bd_,c3_,cx_,cr_,eb_,d5_,cf_,ch_,ci_,an_,fy_,fv_,cq_,Int.toNat_natCast,f3_,di_,dm_,dn_,gv_,g4_,gu_,f4_,Int.add_zero,Int.zero_add,Int.ediv_one,Nat.reduceAdd,Nat.reduceMul,Int.reduceNeg,Nat.reduceLeDiff,List.length_cons,List.length_nil,true_and,and_true,Nat.zero_add,eq_self,Nat.reduceEqDiff,Int.reduceAdd,Int.reduceSub,Int.reduceMul,Nat.reduceLT,Int.reduceToNat,Int.reduceEq,Int.reduceNe,Int.reduceLT,Int.reduceLE,or_true,true_or,and_self,or_self,false_implies,true_implies]
            refine ⟨fun _ => last _, fun q => by omega⟩
          | succ m ihm =>
            intro b hb
            have gb := hG.fa b
            have cr := cntN_rng (fun k => decide (rFa R k = 1 ∧ bears R k = bears R a)) b
            have b1 := bears_rng hG b
            have b2 := bears_rng hG a
            have step2 := ihm (b + 1) (by omega)
            simp only [eqN, cntN] at step2
            have no : ¬ (rFa R b = 1 ∧ bears R b = bears R a) → J M_M_pairsNow 67 [some (.ref 90), o, some (.int (zI (pnN R a))), some (.int (zI a)), some (.int (zI (eqN R (bears R a) b))), some (.int (zI b))] [.int (zI (eqN R (bears R a) b))] (HM R rf lt lsz a0 ib sm pl lo nu kp ig hmg p0 tk ki tu tz tf tn tsz ga sd bb) Q := by
              intro q
              rw [if_neg (fun x => q (of_decide_eq_true x))] at step2
              refine w_M_pairsNow_67 ?_
              simp (disch := omega) only [cm_,aq_,ay_,ag_,b8_,af_,cg_,ba_,bc_,bl_,am_,ac_,b2_,bq_,bs_,a0_,ao_,a2_,az_,dw_,d6_,ea_,d3_,b5_,b1_,fl_,fn_,fh_,fu_,fp_,fz_,fq_,fk_,fr_,ft_,f0_,c5_,bd_,c3_,cx_,cr_,eb_,d5_,cf_,ch_,ci_,an_,fy_,fv_,cq_,Int.toNat_natCast,f3_,di_,dm_,dn_,gv_,g4_,gu_,f4_,Int.add_zero,Int.zero_add,Int.ediv_one,Nat.reduceAdd,Nat.reduceMul,Int.reduceNeg,Nat.reduceLeDiff,List.length_cons,List.length_nil,true_and,and_true,Nat.zero_add,eq_self,Nat.reduceEqDiff,Int.reduceAdd,Int.reduceSub,Int.reduceMul,Nat.reduceLT,Int.reduceToNat,Int.reduceEq,Int.reduceNe,Int.reduceLT,Int.reduceLE,or_true,true_or,and_self,or_self,false_implies,true_implies]
              refine w_M_pairsNow_68 ?_
              simp (disch := omega) only [cm_,aq_,ay_,ag_,b8_,af_,cg_,ba_,bc_,bl_,am_,ac_,b2_,bq_,bs_,a0_,ao_,a2_,az_,dw_,d6_,ea_,d3_,b5_,b1_,fl_,fn_,fh_,fu_,fp_,fz_,fq_,fk_,fr_,ft_,f0_,c5_,bd_,c3_,cx_,cr_,eb_,d5_,cf_,ch_,ci_,an_,fy_,fv_,cq_,Int.toNat_natCast,f3_,di_,dm_,dn_,gv_,g4_,gu_,f4_,Int.add_zero,Int.zero_add,Int.ediv_one,Nat.reduceAdd,Nat.reduceMul,Int.reduceNeg,Nat.reduceLeDiff,List.length_cons,List.length_nil,true_and,and_true,Nat.zero_add,eq_self,Nat.reduceEqDiff,Int.reduceAdd,Int.reduceSub,Int.reduceMul,Nat.reduceLT,Int.reduceToNat,Int.reduceEq,Int.reduceNe,Int.reduceLT,Int.reduceLE,or_true,true_or,and_self,or_self,false_implies,true_implies]
              exact step2
            refine w_M_pairsNow_20 ?_
            simp (disch := omega) only [cm_,aq_,ay_,ag_,b8_,af_,cg_,ba_,bc_,bl_,am_,ac_,b2_,bq_,bs_,a0_,ao_,a2_,az_,dw_,d6_,ea_,d3_,b5_,b1_,fl_,fn_,fh_,fu_,fp_,fz_,fq_,fk_,fr_,ft_,f0_,c5_,bd_,c3_,cx_,cr_,eb_,d5_,cf_,ch_,ci_,an_,fy_,fv_,cq_,Int.toNat_natCast,f3_,di_,dm_,dn_,gv_,g4_,gu_,f4_,Int.add_zero,Int.zero_add,Int.ediv_one,Nat.reduceAdd,Nat.reduceMul,Int.reduceNeg,Nat.reduceLeDiff,List.length_cons,List.length_nil,true_and,and_true,Nat.zero_add,eq_self,Nat.reduceEqDiff,Int.reduceAdd,Int.reduceSub,Int.reduceMul,Nat.reduceLT,Int.reduceToNat,Int.reduceEq,Int.reduceNe,Int.reduceLT,Int.reduceLE,or_true,true_or,and_self,or_self,false_implies,true_implies]
            refine ⟨fun q => by omega, fun _ => ⟨by omega, fun q => by omega, fun _ => ⟨by omega, fun c3 => no (fun q => c3 q.1), fun c3 => ?_⟩⟩⟩
            refine con_MbearsOf (by omega) hG ?_
            simp (disch := omega) only [cm_,aq_,ay_,ag_,b8_,af_,cg_,ba_,bc_,bl_,am_,ac_,b2_,bq_,bs_,a0_,ao_,a2_,az_,dw_,d6_,ea_,d3_,b5_,b1_,fl_,fn_,fh_,fu_,fp_,fz_,fq_,fk_,fr_,ft_,f0_,c5_,bd_,c3_,cx_,cr_,eb_,d5_,cf_,ch_,ci_,an_,fy_,fv_,cq_,Int.toNat_natCast,f3_,di_,dm_,dn_,gv_,g4_,gu_,f4_,Int.add_zero,Int.zero_add,Int.ediv_one,Nat.reduceAdd,Nat.reduceMul,Int.reduceNeg,Nat.reduceLeDiff,List.length_cons,List.length_nil,true_and,and_true,Nat.zero_add,eq_self,Nat.reduceEqDiff,Int.reduceAdd,Int.reduceSub,Int.reduceMul,Nat.reduceLT,Int.reduceToNat,Int.reduceEq,Int.reduceNe,Int.reduceLT,Int.reduceLE,or_true,true_or,and_self,or_self,false_implies,true_implies]
            refine con_MbearsOf (by omega) hG ?_
            simp (disch := omega) only [cm_,aq_,ay_,ag_,b8_,af_,cg_,ba_,bc_,bl_,am_,ac_,b2_,bq_,bs_,a0_,ao_,a2_,az_,dw_,d6_,ea_,d3_,b5_,b1_,fl_,fn_,fh_,fu_,fp_,fz_,fq_,fk_,fr_,ft_,f0_,c5_,bd_,c3_,cx_,cr_,eb_,d5_,cf_,ch_,ci_,an_,fy_,fv_,cq_,Int.toNat_natCast,f3_,di_,dm_,dn_,gv_,g4_,gu_,f4_,Int.add_zero,Int.zero_add,Int.ediv_one,Nat.reduceAdd,Nat.reduceMul,Int.reduceNeg,Nat.reduceLeDiff,List.length_cons,List.length_nil,true_and,and_true,Nat.zero_add,eq_self,Nat.reduceEqDiff,Int.reduceAdd,Int.reduceSub,Int.reduceMul,Nat.reduceLT,Int.reduceToNat,Int.reduceEq,Int.reduceNe,Int.reduceLT,Int.reduceLE,or_true,true_or,and_self,or_self,false_implies,true_implies]
            refine ⟨fun c4 => no (fun q => c4 q.2), fun c4 => ?_⟩
            rw [if_pos (decide_eq_true ⟨by omega, by omega⟩)] at step2
            refine w_M_pairsNow_68 ?_
            simp (disch := omega) only [cm_,aq_,ay_,ag_,b8_,af_,cg_,ba_,bc_,bl_,am_,ac_,b2_,bq_,bs_,a0_,ao_,a2_,az_,dw_,d6_,ea_,d3_,b5_,b1_,fl_,fn_,fh_,fu_,fp_,fz_,fq_,fk_,fr_,ft_,f0_,c5_,bd_,c3_,cx_,cr_,eb_,d5_,cf_,ch_,ci_,an_,fy_,fv_,cq_,Int.toNat_natCast,f3_,di_,dm_,dn_,gv_,g4_,gu_,f4_,Int.add_zero,Int.zero_add,Int.ediv_one,Nat.reduceAdd,Nat.reduceMul,Int.reduceNeg,Nat.reduceLeDiff,List.length_cons,List.length_nil,true_and,and_true,Nat.zero_add,eq_self,Nat.reduceEqDiff,Int.reduceAdd,Int.reduceSub,Int.reduceMul,Nat.reduceLT,Int.reduceToNat,Int.reduceEq,Int.reduceNe,Int.reduceLT,Int.reduceLE,or_true,true_or,and_self,or_self,false_implies,true_implies]
            exact step2
        exact inner a 0 (by omega)
      · have hod : odN R a = 0 := by rw [odN, if_neg c]
        rw [hod] at last
        refine w_M_pairsNow_20 ?_
        simp (disch := omega) only [cm_,aq_,ay_,ag_,b8_,af_,cg_,ba_,bc_,bl_,am_,ac_,b2_,bq_,bs_,a0_,ao_,a2_,az_,dw_,d6_,ea_,d3_,b5_,b1_,fl_,fn_,fh_,fu_,fp_,fz_,fq_,fk_,fr_,ft_,f0_,c5_,bd_,c3_,cx_,cr_,eb_,d5_,cf_,ch_,ci_,an_,fy_,fv_,cq_,Int.toNat_natCast,f3_,di_,dm_,dn_,gv_,g4_,gu_,f4_,Int.add_zero,Int.zero_add,Int.ediv_one,Nat.reduceAdd,Nat.reduceMul,Int.reduceNeg,Nat.reduceLeDiff,List.length_cons,List.length_nil,true_and,and_true,Nat.zero_add,eq_self,Nat.reduceEqDiff,Int.reduceAdd,Int.reduceSub,Int.reduceMul,Nat.reduceLT,Int.reduceToNat,Int.reduceEq,Int.reduceNe,Int.reduceLT,Int.reduceLE,or_true,true_or,and_self,or_self,false_implies,true_implies]
        refine ⟨fun _ => last _, fun _ => ⟨by omega, fun _ => last _, fun q => by omega⟩⟩
  exact loop _ 0 (Nat.zero_add _) _ none none
end E24
section E25
variable {R I : RR} {im : Int} {P : Nat → RR} {pz : Int} {lt : Nat → Int} {lsz : Int} {tn : Nat → Int} {tsz : Int} {rf : Nat → Int} {bb h : AH} {Q : Option Value → AH → Prop}
theorem M_pairs {w : Int} (hw : inI w) (hI : GI R)  (W : (MW R I im P pz lt lsz tn tsz rf bb h))
    (r2 : ¬ (0 ≤ w ∧ w ≤ 3) → ∀ h, (MW R I im P pz lt lsz tn tsz (rfU rf 2) bb h) → Q (some (.int (zI 1000000002))) h)
    (ok : (0 ≤ w ∧ w ≤ 3) → ∀ h, (MW R I im P pz lt lsz tn tsz rf bb h) → Q (some (.int (zI (pairsA R w)))) h) : Con M_M_pairs [.ref 90, .int (zI w)] h Q := by
  obtain ⟨a0, ib, sm, pl, lo, nu, kp, ig, p0, tk, ki, tu, tf, ga, sd, rfl, hIg, hTu, hPz⟩ := W
  obtain ⟨w1, w2⟩ := id hw
  have hG := hI.1
  have gm := hG.men
  have gn := hG.nM
  have gd := needed_rng hG
  have gs := stN_rng hG (mask (isF R 1) (hb_ R)) 8
  have k2 := fun q => r2 q _ ⟨a0, ib, sm, pl, lo, nu, kp, ig, p0, tk, ki, tu, tf, ga, sd, rfl, hIg, hTu, hPz⟩
  have kk := fun q => ok q _ ⟨a0, ib, sm, pl, lo, nu, kp, ig, p0, tk, ki, tu, tf, ga, sd, rfl, hIg, hTu, hPz⟩
  refine g8_ (L := [some (.ref 90), some (.int (zI w))]) ok_M_pairs (Nat.le_of_ble_eq_true rfl) rfl ?_
  refine w_M_pairs_0 ?_
  by_cases cw : 0 ≤ w ∧ w ≤ 3
  · have kk := kk cw
    simp only [pairsA] at kk
    have : w = 0 ∨ w = 1 ∨ w = 2 ∨ w = 3 := by omega
    rcases this with rfl | rfl | rfl | rfl
    all_goals simp only [Int.reduceEq, if_true, if_false] at kk
    all_goals simp (disch := omega) only [cm_,aq_,ay_,ag_,b8_,af_,cg_,ba_,bc_,bl_,am_,ac_,b2_,bq_,bs_,a0_,ao_,a2_,az_,dw_,d6_,ea_,d3_,b5_,b1_,fl_,fn_,fh_,fu_,fp_,fz_,fq_,fk_,fr_,ft_,f0_,c5_,bd_,c3_,cx_,cr_,eb_,d5_,cf_,ch_,ci_,an_,fy_,fv_,cq_,Int.toNat_natCast,f3_,di_,dm_,dn_,gv_,g4_,gu_,f4_,Int.add_zero,Int.zero_add,Int.ediv_one,Nat.reduceAdd,Nat.reduceMul,Int.reduceNeg,Nat.reduceLeDiff,List.length_cons,List.length_nil,true_and,and_true,Nat.zero_add,eq_self,Nat.reduceEqDiff,Int.reduceAdd,Int.reduceSub,Int.reduceMul,Nat.reduceLT,Int.reduceToNat,Int.reduceEq,Int.reduceNe,Int.reduceLT,Int.reduceLE,or_true,true_or,and_self,or_self,false_implies,true_implies]
    all_goals first | refine ⟨?_, fun q => absurd q (by omega)⟩ | skip
    · refine w_M_pairs_36 ?_
      simp (disch := omega) only [cm_,aq_,ay_,ag_,b8_,af_,cg_,ba_,bc_,bl_,am_,ac_,b2_,bq_,bs_,a0_,ao_,a2_,az_,dw_,d6_,ea_,d3_,b5_,b1_,fl_,fn_,fh_,fu_,fp_,fz_,fq_,fk_,fr_,ft_,f0_,c5_,bd_,c3_,cx_,cr_,eb_,d5_,cf_,ch_,ci_,an_,fy_,fv_,cq_,Int.toNat_natCast,f3_,di_,dm_,dn_,gv_,g4_,gu_,f4_,Int.add_zero,Int.zero_add,Int.ediv_one,Nat.reduceAdd,Nat.reduceMul,Int.reduceNeg,Nat.reduceLeDiff,List.length_cons,List.length_nil,true_and,and_true,Nat.zero_add,eq_self,Nat.reduceEqDiff,Int.reduceAdd,Int.reduceSub,Int.reduceMul,Nat.reduceLT,Int.reduceToNat,Int.reduceEq,Int.reduceNe,Int.reduceLT,Int.reduceLE,or_true,true_or,and_self,or_self,false_implies,true_implies]
      refine con_MpairsNow hG ?_
      simp (disch := omega) only [cm_,aq_,ay_,ag_,b8_,af_,cg_,ba_,bc_,bl_,am_,ac_,b2_,bq_,bs_,a0_,ao_,a2_,az_,dw_,d6_,ea_,d3_,b5_,b1_,fl_,fn_,fh_,fu_,fp_,fz_,fq_,fk_,fr_,ft_,f0_,c5_,bd_,c3_,cx_,cr_,eb_,d5_,cf_,ch_,ci_,an_,fy_,fv_,cq_,Int.toNat_natCast,f3_,di_,dm_,dn_,gv_,g4_,gu_,f4_,Int.add_zero,Int.zero_add,Int.ediv_one,Nat.reduceAdd,Nat.reduceMul,Int.reduceNeg,Nat.reduceLeDiff,List.length_cons,List.length_nil,true_and,and_true,Nat.zero_add,eq_self,Nat.reduceEqDiff,Int.reduceAdd,Int.reduceSub,Int.reduceMul,Nat.reduceLT,Int.reduceToNat,Int.reduceEq,Int.reduceNe,Int.reduceLT,Int.reduceLE,or_true,true_or,and_self,or_self,false_implies,true_implies]
      exact kk
    · refine w_M_pairs_41 ?_
      simp (disch := omega) only [cm_,aq_,ay_,ag_,b8_,af_,cg_,ba_,bc_,bl_,am_,ac_,b2_,bq_,bs_,a0_,ao_,a2_,az_,dw_,d6_,ea_,d3_,b5_,b1_,fl_,fn_,fh_,fu_,fp_,fz_,fq_,fk_,fr_,ft_,f0_,c5_,bd_,c3_,cx_,cr_,eb_,d5_,cf_,ch_,ci_,an_,fy_,fv_,cq_,Int.toNat_natCast,f3_,di_,dm_,dn_,gv_,g4_,gu_,f4_,Int.add_zero,Int.zero_add,Int.ediv_one,Nat.reduceAdd,Nat.reduceMul,Int.reduceNeg,Nat.reduceLeDiff,List.length_cons,List.length_nil,true_and,and_true,Nat.zero_add,eq_self,Nat.reduceEqDiff,Int.reduceAdd,Int.reduceSub,Int.reduceMul,Nat.reduceLT,Int.reduceToNat,Int.reduceEq,Int.reduceNe,Int.reduceLT,Int.reduceLE,or_true,true_or,and_self,or_self,false_implies,true_implies]
      refine con_MleastPoles hG ?_
      simp (disch := omega) only [cm_,aq_,ay_,ag_,b8_,af_,cg_,ba_,bc_,bl_,am_,ac_,b2_,bq_,bs_,a0_,ao_,a2_,az_,dw_,d6_,ea_,d3_,b5_,b1_,fl_,fn_,fh_,fu_,fp_,fz_,fq_,fk_,fr_,ft_,f0_,c5_,bd_,c3_,cx_,cr_,eb_,d5_,cf_,ch_,ci_,an_,fy_,fv_,cq_,Int.toNat_natCast,f3_,di_,dm_,dn_,gv_,g4_,gu_,f4_,Int.add_zero,Int.zero_add,Int.ediv_one,Nat.reduceAdd,Nat.reduceMul,Int.reduceNeg,Nat.reduceLeDiff,List.length_cons,List.length_nil,true_and,and_true,Nat.zero_add,eq_self,Nat.reduceEqDiff,Int.reduceAdd,Int.reduceSub,Int.reduceMul,Nat.reduceLT,Int.reduceToNat,Int.reduceEq,Int.reduceNe,Int.reduceLT,Int.reduceLE,or_true,true_or,and_self,or_self,false_implies,true_implies]
      exact kk
    · refine w_M_pairs_46 ?_
      simp (disch := omega) only [cm_,aq_,ay_,ag_,b8_,af_,cg_,ba_,bc_,bl_,am_,ac_,b2_,bq_,bs_,a0_,ao_,a2_,az_,dw_,d6_,ea_,d3_,b5_,b1_,fl_,fn_,fh_,fu_,fp_,fz_,fq_,fk_,fr_,ft_,f0_,c5_,bd_,c3_,cx_,cr_,eb_,d5_,cf_,ch_,ci_,an_,fy_,fv_,cq_,Int.toNat_natCast,f3_,di_,dm_,dn_,gv_,g4_,gu_,f4_,Int.add_zero,Int.zero_add,Int.ediv_one,Nat.reduceAdd,Nat.reduceMul,Int.reduceNeg,Nat.reduceLeDiff,List.length_cons,List.length_nil,true_and,and_true,Nat.zero_add,eq_self,Nat.reduceEqDiff,Int.reduceAdd,Int.reduceSub,Int.reduceMul,Nat.reduceLT,Int.reduceToNat,Int.reduceEq,Int.reduceNe,Int.reduceLT,Int.reduceLE,or_true,true_or,and_self,or_self,false_implies,true_implies]
      refine con_Mowing hG ?_
      simp (disch := omega) only [cm_,aq_,ay_,ag_,b8_,af_,cg_,ba_,bc_,bl_,am_,ac_,b2_,bq_,bs_,a0_,ao_,a2_,az_,dw_,d6_,ea_,d3_,b5_,b1_,fl_,fn_,fh_,fu_,fp_,fz_,fq_,fk_,fr_,ft_,f0_,c5_,bd_,c3_,cx_,cr_,eb_,d5_,cf_,ch_,ci_,an_,fy_,fv_,cq_,Int.toNat_natCast,f3_,di_,dm_,dn_,gv_,g4_,gu_,f4_,Int.add_zero,Int.zero_add,Int.ediv_one,Nat.reduceAdd,Nat.reduceMul,Int.reduceNeg,Nat.reduceLeDiff,List.length_cons,List.length_nil,true_and,and_true,Nat.zero_add,eq_self,Nat.reduceEqDiff,Int.reduceAdd,Int.reduceSub,Int.reduceMul,Nat.reduceLT,Int.reduceToNat,Int.reduceEq,Int.reduceNe,Int.reduceLT,Int.reduceLE,or_true,true_or,and_self,or_self,false_implies,true_implies]
      exact kk
    · refine w_M_pairs_51 ?_
      simp (disch := omega) only [cm_,aq_,ay_,ag_,b8_,af_,cg_,ba_,bc_,bl_,am_,ac_,b2_,bq_,bs_,a0_,ao_,a2_,az_,dw_,d6_,ea_,d3_,b5_,b1_,fl_,fn_,fh_,fu_,fp_,fz_,fq_,fk_,fr_,ft_,f0_,c5_,bd_,c3_,cx_,cr_,eb_,d5_,cf_,ch_,ci_,an_,fy_,fv_,cq_,Int.toNat_natCast,f3_,di_,dm_,dn_,gv_,g4_,gu_,f4_,Int.add_zero,Int.zero_add,Int.ediv_one,Nat.reduceAdd,Nat.reduceMul,Int.reduceNeg,Nat.reduceLeDiff,List.length_cons,List.length_nil,true_and,and_true,Nat.zero_add,eq_self,Nat.reduceEqDiff,Int.reduceAdd,Int.reduceSub,Int.reduceMul,Nat.reduceLT,Int.reduceToNat,Int.reduceEq,Int.reduceNe,Int.reduceLT,Int.reduceLE,or_true,true_or,and_self,or_self,false_implies,true_implies]
      refine con_MallBear hG ?_
      simp (disch := omega) only [cm_,aq_,ay_,ag_,b8_,af_,cg_,ba_,bc_,bl_,am_,ac_,b2_,bq_,bs_,a0_,ao_,a2_,az_,dw_,d6_,ea_,d3_,b5_,b1_,fl_,fn_,fh_,fu_,fp_,fz_,fq_,fk_,fr_,ft_,f0_,c5_,bd_,c3_,cx_,cr_,eb_,d5_,cf_,ch_,ci_,an_,fy_,fv_,cq_,Int.toNat_natCast,f3_,di_,dm_,dn_,gv_,g4_,gu_,f4_,Int.add_zero,Int.zero_add,Int.ediv_one,Nat.reduceAdd,Nat.reduceMul,Int.reduceNeg,Nat.reduceLeDiff,List.length_cons,List.length_nil,true_and,and_true,Nat.zero_add,eq_self,Nat.reduceEqDiff,Int.reduceAdd,Int.reduceSub,Int.reduceMul,Nat.reduceLT,Int.reduceToNat,Int.reduceEq,Int.reduceNe,Int.reduceLT,Int.reduceLE,or_true,true_or,and_self,or_self,false_implies,true_implies]
      refine con_MneededHere hG ?_
      simp (disch := omega) only [cm_,aq_,ay_,ag_,b8_,af_,cg_,ba_,bc_,bl_,am_,ac_,b2_,bq_,bs_,a0_,ao_,a2_,az_,dw_,d6_,ea_,d3_,b5_,b1_,fl_,fn_,fh_,fu_,fp_,fz_,fq_,fk_,fr_,ft_,f0_,c5_,bd_,c3_,cx_,cr_,eb_,d5_,cf_,ch_,ci_,an_,fy_,fv_,cq_,Int.toNat_natCast,f3_,di_,dm_,dn_,gv_,g4_,gu_,f4_,Int.add_zero,Int.zero_add,Int.ediv_one,Nat.reduceAdd,Nat.reduceMul,Int.reduceNeg,Nat.reduceLeDiff,List.length_cons,List.length_nil,true_and,and_true,Nat.zero_add,eq_self,Nat.reduceEqDiff,Int.reduceAdd,Int.reduceSub,Int.reduceMul,Nat.reduceLT,Int.reduceToNat,Int.reduceEq,Int.reduceNe,Int.reduceLT,Int.reduceLE,or_true,true_or,and_self,or_self,false_implies,true_implies]
      exact kk
  · simp (disch := omega) only [cm_,aq_,ay_,ag_,b8_,af_,cg_,ba_,bc_,bl_,am_,ac_,b2_,bq_,bs_,a0_,ao_,a2_,az_,dw_,d6_,ea_,d3_,b5_,b1_,fl_,fn_,fh_,fu_,fp_,fz_,fq_,fk_,fr_,ft_,f0_,c5_,bd_,c3_,cx_,cr_,eb_,d5_,cf_,ch_,ci_,an_,fy_,fv_,cq_,Int.toNat_natCast,f3_,di_,dm_,dn_,gv_,g4_,gu_,f4_,Int.add_zero,Int.zero_add,Int.ediv_one,Nat.reduceAdd,Nat.reduceMul,Int.reduceNeg,Nat.reduceLeDiff,List.length_cons,List.length_nil,true_and,and_true,Nat.zero_add,eq_self,Nat.reduceEqDiff,Int.reduceAdd,Int.reduceSub,Int.reduceMul,Nat.reduceLT,Int.reduceToNat,Int.reduceEq,Int.reduceNe,Int.reduceLT,Int.reduceLE,or_true,true_or,and_self,or_self,false_implies,true_implies]
    repeat' (first | with_reducible refine And.intro ?_ ?_ | with_reducible intro _ | ((first | with_reducible refine w_M_pairs_36 ?_ | with_reducible refine w_M_pairs_41 ?_ | with_reducible refine w_M_pairs_46 ?_ | with_reducible refine w_M_pairs_51 ?_ | with_reducible refine w_M_pairs_61 ?_); simp (disch := omega) only [cm_,aq_,ay_,ag_,b8_,af_,cg_,ba_,bc_,bl_,am_,ac_,b2_,bq_,bs_,a0_,ao_,a2_,az_,dw_,d6_,ea_,d3_,b5_,b1_,fl_,fn_,fh_,fu_,fp_,fz_,fq_,fk_,fr_,ft_,f0_,c5_,bd_,c3_,cx_,cr_,eb_,d5_,cf_,ch_,ci_,an_,fy_,fv_,cq_,Int.toNat_natCast,f3_,di_,dm_,dn_,gv_,g4_,gu_,f4_,Int.add_zero,Int.zero_add,Int.ediv_one,Nat.reduceAdd,Nat.reduceMul,Int.reduceNeg,Nat.reduceLeDiff,List.length_cons,List.length_nil,true_and,and_true,Nat.zero_add,eq_self,Nat.reduceEqDiff,Int.reduceAdd,Int.reduceSub,Int.reduceMul,Nat.reduceLT,Int.reduceToNat,Int.reduceEq,Int.reduceNe,Int.reduceLT,Int.reduceLE,or_true,true_or,and_self,or_self,false_implies,true_implies]))
    all_goals first | omega | skip
    all_goals refine con_Mrefuse (k := 2) (by omega) ?_
    all_goals simp (disch := omega) only [cm_,aq_,ay_,ag_,b8_,af_,cg_,ba_,bc_,bl_,am_,ac_,b2_,bq_,bs_,a0_,ao_,a2_,az_,dw_,d6_,ea_,d3_,b5_,b1_,fl_,fn_,fh_,fu_,fp_,fz_,fq_,fk_,fr_,ft_,f0_,c5_,bd_,c3_,cx_,cr_,eb_,d5_,cf_,ch_,ci_,an_,fy_,fv_,cq_,Int.toNat_natCast,f3_,di_,dm_,dn_,gv_,g4_,gu_,f4_,Int.add_zero,Int.zero_add,Int.ediv_one,Nat.reduceAdd,Nat.reduceMul,Int.reduceNeg,Nat.reduceLeDiff,List.length_cons,List.length_nil,true_and,and_true,Nat.zero_add,eq_self,Nat.reduceEqDiff,Int.reduceAdd,Int.reduceSub,Int.reduceMul,Nat.reduceLT,Int.reduceToNat,Int.reduceEq,Int.reduceNe,Int.reduceLT,Int.reduceLE,or_true,true_or,and_self,or_self,false_implies,true_implies]
    all_goals exact k2 cw
end E25
end
/-! twoM -/
section
/-! ===== the reference: two who offend or not ===== -/
theorem twG_rng {R : RR} (hG : GR R) {o t p w n : Nat} (hp : p < 4) : -24 ≤ twG g6_ R o t n p w ∧ twG g6_ R o t n p w ≤ 3 := by
  have g1 : GR (twR R o t p) := (hG.setFa (x := ((p / 2 : Nat) : Int)) o (by omega)).setFa (x := ((p % 2 : Nat) : Int)) t (by omega)
  have := (g1.dsX n).wo w
  simp only [twG]
  split <;> omega
section E26
variable {R I : RR} {im : Int} {P : Nat → RR} {pz : Int} {lt : Nat → Int} {lsz : Int} {tn : Nat → Int} {tsz : Int} {rf : Nat → Int} {bb h : AH} {Q : Option Value → AH → Prop}
theorem M_two {o t n : Int} (ho : inI o) (ht : inI t) (hn : inI n) (hI : GI R)  (W : (MW R I im P pz lt lsz tn tsz rf bb h))
    (r1 : ¬ (g7_ R o ∧ g7_ R t ∧ o ≠ t) → ∀ h, (MW R I im P pz lt lsz tn tsz (rfU rf 1) bb h) → Q (some (.int (zI (-1)))) h)
    (r4 : (g7_ R o ∧ g7_ R t ∧ o ≠ t) → n < 0 → ∀ h, (MW R I im P pz lt lsz tn tsz (rfU rf 4) bb h) → Q (some (.int (zI (-4)))) h)
    (r6 : (g7_ R o ∧ g7_ R t ∧ o ≠ t) → ¬ n < 0 → 60 < n → ∀ h, (MW R I im P pz lt lsz tn tsz (rfU rf 6) bb h) → Q (some (.int (zI (-6)))) h)
    (r3 : (g7_ R o ∧ g7_ R t ∧ o ≠ t) → ¬ n < 0 → ¬ 60 < n → ¬ (rFa R o.toNat = 0 ∧ rFa R t.toNat = 0) → ∀ h, (MW R I im P pz lt lsz tn tsz (rfU rf 3) bb h) → Q (some (.int (zI (-3)))) h)
    (ok : (g7_ R o ∧ g7_ R t ∧ o ≠ t) → ¬ n < 0 → ¬ 60 < n → (rFa R o.toNat = 0 ∧ rFa R t.toNat = 0) → ∀ h, (MW R I im P pz lt lsz tn tsz rf bb h) → Q (some (.int (zI (twF g6_ R o.toNat t.toNat n.toNat)))) h) : Con M_M_two [.ref 90, .int (zI o), .int (zI t), .int (zI n)] h Q := by
  obtain ⟨a0, ib, sm, pl, lo, nu, kp, ig, p0, tk, ki, tu, tf, ga, sd, rfl, hIg, hTu, hPz⟩ := W
  have hG := hI.1
  have gm := hG.men
  have gn := hG.nM
  have k1 := fun q => r1 q _ ⟨a0, ib, sm, pl, lo, nu, kp, ig, p0, tk, ki, tu, tf, ga, sd, rfl, hIg, hTu, hPz⟩
  have k4 := fun q q2 => r4 q q2 _ ⟨a0, ib, sm, pl, lo, nu, kp, ig, p0, tk, ki, tu, tf, ga, sd, rfl, hIg, hTu, hPz⟩
  have k6 := fun q q2 q3 => r6 q q2 q3 _ ⟨a0, ib, sm, pl, lo, nu, kp, ig, p0, tk, ki, tu, tf, ga, sd, rfl, hIg, hTu, hPz⟩
  have k3 := fun q q2 q3 q4 => r3 q q2 q3 q4 _ ⟨a0, ib, sm, pl, lo, nu, kp, ig, p0, tk, ki, tu, tf, ga, sd, rfl, hIg, hTu, hPz⟩
  refine g8_ (L := [some (.ref 90), some (.int (zI o)), some (.int (zI t)), some (.int (zI n)), none, none, none, none]) ok_M_two (Nat.le_of_ble_eq_true rfl) rfl ?_
  refine w_M_two_0 ?_
  have one : ¬ (g7_ R o ∧ g7_ R t ∧ o ≠ t) → J M_M_two 36 [some (.ref 90), some (.int (zI o)), some (.int (zI t)), some (.int (zI n)), none, none, none, none] [] (HM R rf lt lsz a0 ib sm pl lo nu kp ig (im) p0 tk ki tu (pz) tf tn tsz ga sd bb) Q := by
    intro q
    refine w_M_two_36 ?_
    simp (disch := omega) only [cm_,aq_,ay_,ag_,b8_,af_,ba_,bc_,bx_,bh_,bl_,am_,ae_,ac_,b2_,bq_,ed_,bs_,ao_,a2_,az_,aw_,dw_,d6_,ea_,d3_,b5_,fl_,fn_,fh_,fu_,fp_,fz_,fq_,fk_,fr_,ft_,fs_,f0_,c5_,bt_,bd_,c3_,ct_,cx_,co_,cr_,cf_,ch_,ci_,an_,cl_,dr_,cd_,a9_,a8_,a7_,ce_,fy_,fv_,cq_,Int.toNat_natCast,f3_,di_,dm_,dn_,gv_,g4_,gx_,gf_,gu_,gs_,f9_,f4_,Int.add_zero,Int.zero_add,Int.ediv_one,Nat.reduceAdd,Nat.reduceMul,Int.reduceNeg,Nat.reduceLeDiff,List.length_cons,List.length_nil,true_and,and_true,Nat.zero_add,eq_self,Nat.reduceEqDiff,Int.reduceAdd,Int.reduceSub,Int.reduceMul,not_true_eq_false,not_false_eq_true,Nat.reduceLT,Int.reduceToNat,Int.reduceEq,Int.reduceNe,Int.reduceLT,Int.reduceLE,and_false,false_and,false_implies,true_implies]
    refine w_M_two_37 ?_
    simp (disch := omega) only [cm_,aq_,ay_,ag_,b8_,af_,ba_,bc_,bx_,bh_,bl_,am_,ae_,ac_,b2_,bq_,ed_,bs_,ao_,a2_,az_,aw_,dw_,d6_,ea_,d3_,b5_,fl_,fn_,fh_,fu_,fp_,fz_,fq_,fk_,fr_,ft_,fs_,f0_,c5_,bt_,bd_,c3_,ct_,cx_,co_,cr_,cf_,ch_,ci_,an_,cl_,dr_,cd_,a9_,a8_,a7_,ce_,fy_,fv_,cq_,Int.toNat_natCast,f3_,di_,dm_,dn_,gv_,g4_,gx_,gf_,gu_,gs_,f9_,f4_,Int.add_zero,Int.zero_add,Int.ediv_one,Nat.reduceAdd,Nat.reduceMul,Int.reduceNeg,Nat.reduceLeDiff,List.length_cons,List.length_nil,true_and,and_true,Nat.zero_add,eq_self,Nat.reduceEqDiff,Int.reduceAdd,Int.reduceSub,Int.reduceMul,not_true_eq_false,not_false_eq_true,Nat.reduceLT,Int.reduceToNat,Int.reduceEq,Int.reduceNe,Int.reduceLT,Int.reduceLE,and_false,false_and,false_implies,true_implies]
    refine w_M_two_67 ?_
    simp (disch := omega) only [cm_,aq_,ay_,ag_,b8_,af_,ba_,bc_,bx_,bh_,bl_,am_,ae_,ac_,b2_,bq_,ed_,bs_,ao_,a2_,az_,aw_,dw_,d6_,ea_,d3_,b5_,fl_,fn_,fh_,fu_,fp_,fz_,fq_,fk_,fr_,ft_,fs_,f0_,c5_,bt_,bd_,c3_,ct_,cx_,co_,cr_,cf_,ch_,ci_,an_,cl_,dr_,cd_,a9_,a8_,a7_,ce_,fy_,fv_,cq_,Int.toNat_natCast,f3_,di_,dm_,dn_,gv_,g4_,gx_,gf_,gu_,gs_,f9_,f4_,Int.add_zero,Int.zero_add,Int.ediv_one,Nat.reduceAdd,Nat.reduceMul,Int.reduceNeg,Nat.reduceLeDiff,List.length_cons,List.length_nil,true_and,and_true,Nat.zero_add,eq_self,Nat.reduceEqDiff,Int.reduceAdd,Int.reduceSub,Int.reduceMul,not_true_eq_false,not_false_eq_true,Nat.reduceLT,Int.reduceToNat,Int.reduceEq,Int.reduceNe,Int.reduceLT,Int.reduceLE,and_false,false_and,false_implies,true_implies]
    refine w_M_two_69 ?_
    simp (disch := omega) only [cm_,aq_,ay_,ag_,b8_,af_,ba_,bc_,bx_,bh_,bl_,am_,ae_,ac_,b2_,bq_,ed_,bs_,ao_,a2_,az_,aw_,dw_,d6_,ea_,d3_,b5_,fl_,fn_,fh_,fu_,fp_,fz_,fq_,fk_,fr_,ft_,fs_,f0_,c5_,bt_,bd_,c3_,ct_,cx_,co_,cr_,cf_,ch_,ci_,an_,cl_,dr_,cd_,a9_,a8_,a7_,ce_,fy_,fv_,cq_,Int.toNat_natCast,f3_,di_,dm_,dn_,gv_,g4_,gx_,gf_,gu_,gs_,f9_,f4_,Int.add_zero,Int.zero_add,Int.ediv_one,Nat.reduceAdd,Nat.reduceMul,Int.reduceNeg,Nat.reduceLeDiff,List.length_cons,List.length_nil,true_and,and_true,Nat.zero_add,eq_self,Nat.reduceEqDiff,Int.reduceAdd,Int.reduceSub,Int.reduceMul,not_true_eq_false,not_false_eq_true,Nat.reduceLT,Int.reduceToNat,Int.reduceEq,Int.reduceNe,Int.reduceLT,Int.reduceLE,and_false,false_and,false_implies,true_implies]
    refine con_Mrefuse (k := 1) (by omega) ?_
    simp (disch := omega) only [cm_,aq_,ay_,ag_,b8_,af_,ba_,bc_,bx_,bh_,bl_,am_,ae_,ac_,b2_,bq_,ed_,bs_,ao_,a2_,az_,aw_,dw_,d6_,ea_,d3_,b5_,fl_,fn_,fh_,fu_,fp_,fz_,fq_,fk_,fr_,ft_,fs_,f0_,c5_,bt_,bd_,c3_,ct_,cx_,co_,cr_,cf_,ch_,ci_,an_,cl_,dr_,cd_,a9_,a8_,a7_,ce_,fy_,fv_,cq_,Int.toNat_natCast,f3_,di_,dm_,dn_,gv_,g4_,gx_,gf_,gu_,gs_,f9_,f4_,Int.add_zero,Int.zero_add,Int.ediv_one,Nat.reduceAdd,Nat.reduceMul,Int.reduceNeg,Nat.reduceLeDiff,List.length_cons,List.length_nil,true_and,and_true,Nat.zero_add,eq_self,Nat.reduceEqDiff,Int.reduceAdd,Int.reduceSub,Int.reduceMul,not_true_eq_false,not_false_eq_true,Nat.reduceLT,Int.reduceToNat,Int.reduceEq,Int.reduceNe,Int.reduceLT,Int.reduceLE,and_false,false_and,false_implies,true_implies]
    exact k1 q
  simp (disch := omega) only [cm_,aq_,ay_,ag_,b8_,af_,ba_,bc_,bx_,bh_,bl_,am_,ae_,ac_,b2_,bq_,ed_,bs_,ao_,a2_,az_,aw_,dw_,d6_,ea_,d3_,b5_,fl_,fn_,fh_,fu_,fp_,fz_,fq_,fk_,fr_,ft_,fs_,f0_,c5_,bt_,bd_,c3_,ct_,cx_,co_,cr_,cf_,ch_,ci_,an_,cl_,dr_,cd_,a9_,a8_,a7_,ce_,fy_,fv_,cq_,Int.toNat_natCast,f3_,di_,dm_,dn_,gv_,g4_,gx_,gf_,gu_,gs_,f9_,f4_,Int.add_zero,Int.zero_add,Int.ediv_one,Nat.reduceAdd,Nat.reduceMul,Int.reduceNeg,Nat.reduceLeDiff,List.length_cons,List.length_nil,true_and,and_true,Nat.zero_add,eq_self,Nat.reduceEqDiff,Int.reduceAdd,Int.reduceSub,Int.reduceMul,not_true_eq_false,not_false_eq_true,Nat.reduceLT,Int.reduceToNat,Int.reduceEq,Int.reduceNe,Int.reduceLT,Int.reduceLE,and_false,false_and,false_implies,true_implies]
  refine con_MisMan ho hG (fun c1 => ?_) (fun c1 => ?_)
  · simp (disch := omega) only [cm_,aq_,ay_,ag_,b8_,af_,ba_,bc_,bx_,bh_,bl_,am_,ae_,ac_,b2_,bq_,ed_,bs_,ao_,a2_,az_,aw_,dw_,d6_,ea_,d3_,b5_,fl_,fn_,fh_,fu_,fp_,fz_,fq_,fk_,fr_,ft_,fs_,f0_,c5_,bt_,bd_,c3_,ct_,cx_,co_,cr_,cf_,ch_,ci_,an_,cl_,dr_,cd_,a9_,a8_,a7_,ce_,fy_,fv_,cq_,Int.toNat_natCast,f3_,di_,dm_,dn_,gv_,g4_,gx_,gf_,gu_,gs_,f9_,f4_,Int.add_zero,Int.zero_add,Int.ediv_one,Nat.reduceAdd,Nat.reduceMul,Int.reduceNeg,Nat.reduceLeDiff,List.length_cons,List.length_nil,true_and,and_true,Nat.zero_add,eq_self,Nat.reduceEqDiff,Int.reduceAdd,Int.reduceSub,Int.reduceMul,not_true_eq_false,not_false_eq_true,Nat.reduceLT,Int.reduceToNat,Int.reduceEq,Int.reduceNe,Int.reduceLT,Int.reduceLE,and_false,false_and,false_implies,true_implies]
    refine con_MisMan ht hG (fun c2 => ?_) (fun c2 => ?_)
    · have e1 : o = (o.toNat : Int) := by unfold g7_ at c1; omega
      have e2 : t = (t.toNat : Int) := by unfold g7_ at c2; omega
      have o8 : o.toNat < 8 := by unfold g7_ at c1; omega
      have t8 : t.toNat < 8 := by unfold g7_ at c2; omega
      have f1 := hG.fa o.toNat
      have f2 := hG.fa t.toNat
      simp (disch := omega) only [cm_,aq_,ay_,ag_,b8_,af_,ba_,bc_,bx_,bh_,bl_,am_,ae_,ac_,b2_,bq_,ed_,bs_,ao_,a2_,az_,aw_,dw_,d6_,ea_,d3_,b5_,fl_,fn_,fh_,fu_,fp_,fz_,fq_,fk_,fr_,ft_,fs_,f0_,c5_,bt_,bd_,c3_,ct_,cx_,co_,cr_,cf_,ch_,ci_,an_,cl_,dr_,cd_,a9_,a8_,a7_,ce_,fy_,fv_,cq_,Int.toNat_natCast,f3_,di_,dm_,dn_,gv_,g4_,gx_,gf_,gu_,gs_,f9_,f4_,Int.add_zero,Int.zero_add,Int.ediv_one,Nat.reduceAdd,Nat.reduceMul,Int.reduceNeg,Nat.reduceLeDiff,List.length_cons,List.length_nil,true_and,and_true,Nat.zero_add,eq_self,Nat.reduceEqDiff,Int.reduceAdd,Int.reduceSub,Int.reduceMul,not_true_eq_false,not_false_eq_true,Nat.reduceLT,Int.reduceToNat,Int.reduceEq,Int.reduceNe,Int.reduceLT,Int.reduceLE,and_false,false_and,false_implies,true_implies]
      refine ⟨fun c3 => one (fun q => q.2.2 (by omega)), fun c3 => ?_⟩
      have cc : g7_ R o ∧ g7_ R t ∧ o ≠ t := ⟨c1, c2, by omega⟩
      refine con_MwrongNumber hn (by unfold inI; omega) (by unfold inI; omega) (fun c4 => ?_) (fun c4 c5 => ?_) (fun c4 c5 => ?_)
      · simp (disch := omega) only [cm_,aq_,ay_,ag_,b8_,af_,ba_,bc_,bx_,bh_,bl_,am_,ae_,ac_,b2_,bq_,ed_,bs_,ao_,a2_,az_,aw_,dw_,d6_,ea_,d3_,b5_,fl_,fn_,fh_,fu_,fp_,fz_,fq_,fk_,fr_,ft_,fs_,f0_,c5_,bt_,bd_,c3_,ct_,cx_,co_,cr_,cf_,ch_,ci_,an_,cl_,dr_,cd_,a9_,a8_,a7_,ce_,fy_,fv_,cq_,Int.toNat_natCast,f3_,di_,dm_,dn_,gv_,g4_,gx_,gf_,gu_,gs_,f9_,f4_,Int.add_zero,Int.zero_add,Int.ediv_one,Nat.reduceAdd,Nat.reduceMul,Int.reduceNeg,Nat.reduceLeDiff,List.length_cons,List.length_nil,true_and,and_true,Nat.zero_add,eq_self,Nat.reduceEqDiff,Int.reduceAdd,Int.reduceSub,Int.reduceMul,not_true_eq_false,not_false_eq_true,Nat.reduceLT,Int.reduceToNat,Int.reduceEq,Int.reduceNe,Int.reduceLT,Int.reduceLE,and_false,false_and,false_implies,true_implies]
        refine w_M_two_37 ?_
        simp (disch := omega) only [cm_,aq_,ay_,ag_,b8_,af_,ba_,bc_,bx_,bh_,bl_,am_,ae_,ac_,b2_,bq_,ed_,bs_,ao_,a2_,az_,aw_,dw_,d6_,ea_,d3_,b5_,fl_,fn_,fh_,fu_,fp_,fz_,fq_,fk_,fr_,ft_,fs_,f0_,c5_,bt_,bd_,c3_,ct_,cx_,co_,cr_,cf_,ch_,ci_,an_,cl_,dr_,cd_,a9_,a8_,a7_,ce_,fy_,fv_,cq_,Int.toNat_natCast,f3_,di_,dm_,dn_,gv_,g4_,gx_,gf_,gu_,gs_,f9_,f4_,Int.add_zero,Int.zero_add,Int.ediv_one,Nat.reduceAdd,Nat.reduceMul,Int.reduceNeg,Nat.reduceLeDiff,List.length_cons,List.length_nil,true_and,and_true,Nat.zero_add,eq_self,Nat.reduceEqDiff,Int.reduceAdd,Int.reduceSub,Int.reduceMul,not_true_eq_false,not_false_eq_true,Nat.reduceLT,Int.reduceToNat,Int.reduceEq,Int.reduceNe,Int.reduceLT,Int.reduceLE,and_false,false_and,false_implies,true_implies]
        refine w_M_two_67 ?_
        simp (disch := omega) only [cm_,aq_,ay_,ag_,b8_,af_,ba_,bc_,bx_,bh_,bl_,am_,ae_,ac_,b2_,bq_,ed_,bs_,ao_,a2_,az_,aw_,dw_,d6_,ea_,d3_,b5_,fl_,fn_,fh_,fu_,fp_,fz_,fq_,fk_,fr_,ft_,fs_,f0_,c5_,bt_,bd_,c3_,ct_,cx_,co_,cr_,cf_,ch_,ci_,an_,cl_,dr_,cd_,a9_,a8_,a7_,ce_,fy_,fv_,cq_,Int.toNat_natCast,f3_,di_,dm_,dn_,gv_,g4_,gx_,gf_,gu_,gs_,f9_,f4_,Int.add_zero,Int.zero_add,Int.ediv_one,Nat.reduceAdd,Nat.reduceMul,Int.reduceNeg,Nat.reduceLeDiff,List.length_cons,List.length_nil,true_and,and_true,Nat.zero_add,eq_self,Nat.reduceEqDiff,Int.reduceAdd,Int.reduceSub,Int.reduceMul,not_true_eq_false,not_false_eq_true,Nat.reduceLT,Int.reduceToNat,Int.reduceEq,Int.reduceNe,Int.reduceLT,Int.reduceLE,and_false,false_and,false_implies,true_implies]
        refine w_M_two_69 ?_
        simp (disch := omega) only [cm_,aq_,ay_,ag_,b8_,af_,ba_,bc_,bx_,bh_,bl_,am_,ae_,ac_,b2_,bq_,ed_,bs_,ao_,a2_,az_,aw_,dw_,d6_,ea_,d3_,b5_,fl_,fn_,fh_,fu_,fp_,fz_,fq_,fk_,fr_,ft_,fs_,f0_,c5_,bt_,bd_,c3_,ct_,cx_,co_,cr_,cf_,ch_,ci_,an_,cl_,dr_,cd_,a9_,a8_,a7_,ce_,fy_,fv_,cq_,Int.toNat_natCast,f3_,di_,dm_,dn_,gv_,g4_,gx_,gf_,gu_,gs_,f9_,f4_,Int.add_zero,Int.zero_add,Int.ediv_one,Nat.reduceAdd,Nat.reduceMul,Int.reduceNeg,Nat.reduceLeDiff,List.length_cons,List.length_nil,true_and,and_true,Nat.zero_add,eq_self,Nat.reduceEqDiff,Int.reduceAdd,Int.reduceSub,Int.reduceMul,not_true_eq_false,not_false_eq_true,Nat.reduceLT,Int.reduceToNat,Int.reduceEq,Int.reduceNe,Int.reduceLT,Int.reduceLE,and_false,false_and,false_implies,true_implies]
        refine con_Mrefuse (k := 4) (by omega) ?_
        simp (disch := omega) only [cm_,aq_,ay_,ag_,b8_,af_,ba_,bc_,bx_,bh_,bl_,am_,ae_,ac_,b2_,bq_,ed_,bs_,ao_,a2_,az_,aw_,dw_,d6_,ea_,d3_,b5_,fl_,fn_,fh_,fu_,fp_,fz_,fq_,fk_,fr_,ft_,fs_,f0_,c5_,bt_,bd_,c3_,ct_,cx_,co_,cr_,cf_,ch_,ci_,an_,cl_,dr_,cd_,a9_,a8_,a7_,ce_,fy_,fv_,cq_,Int.toNat_natCast,f3_,di_,dm_,dn_,gv_,g4_,gx_,gf_,gu_,gs_,f9_,f4_,Int.add_zero,Int.zero_add,Int.ediv_one,Nat.reduceAdd,Nat.reduceMul,Int.reduceNeg,Nat.reduceLeDiff,List.length_cons,List.length_nil,true_and,and_true,Nat.zero_add,eq_self,Nat.reduceEqDiff,Int.reduceAdd,Int.reduceSub,Int.reduceMul,not_true_eq_false,not_false_eq_true,Nat.reduceLT,Int.reduceToNat,Int.reduceEq,Int.reduceNe,Int.reduceLT,Int.reduceLE,and_false,false_and,false_implies,true_implies]
        exact k4 cc c4
      · simp (disch := omega) only [cm_,aq_,ay_,ag_,b8_,af_,ba_,bc_,bx_,bh_,bl_,am_,ae_,ac_,b2_,bq_,ed_,bs_,ao_,a2_,az_,aw_,dw_,d6_,ea_,d3_,b5_,fl_,fn_,fh_,fu_,fp_,fz_,fq_,fk_,fr_,ft_,fs_,f0_,c5_,bt_,bd_,c3_,ct_,cx_,co_,cr_,cf_,ch_,ci_,an_,cl_,dr_,cd_,a9_,a8_,a7_,ce_,fy_,fv_,cq_,Int.toNat_natCast,f3_,di_,dm_,dn_,gv_,g4_,gx_,gf_,gu_,gs_,f9_,f4_,Int.add_zero,Int.zero_add,Int.ediv_one,Nat.reduceAdd,Nat.reduceMul,Int.reduceNeg,Nat.reduceLeDiff,List.length_cons,List.length_nil,true_and,and_true,Nat.zero_add,eq_self,Nat.reduceEqDiff,Int.reduceAdd,Int.reduceSub,Int.reduceMul,not_true_eq_false,not_false_eq_true,Nat.reduceLT,Int.reduceToNat,Int.reduceEq,Int.reduceNe,Int.reduceLT,Int.reduceLE,and_false,false_and,false_implies,true_implies]
        refine w_M_two_37 ?_
        simp (disch := omega) only [cm_,aq_,ay_,ag_,b8_,af_,ba_,bc_,bx_,bh_,bl_,am_,ae_,ac_,b2_,bq_,ed_,bs_,ao_,a2_,az_,aw_,dw_,d6_,ea_,d3_,b5_,fl_,fn_,fh_,fu_,fp_,fz_,fq_,fk_,fr_,ft_,fs_,f0_,c5_,bt_,bd_,c3_,ct_,cx_,co_,cr_,cf_,ch_,ci_,an_,cl_,dr_,cd_,a9_,a8_,a7_,ce_,fy_,fv_,cq_,Int.toNat_natCast,f3_,di_,dm_,dn_,gv_,g4_,gx_,gf_,gu_,gs_,f9_,f4_,Int.add_zero,Int.zero_add,Int.ediv_one,Nat.reduceAdd,Nat.reduceMul,Int.reduceNeg,Nat.reduceLeDiff,List.length_cons,List.length_nil,true_and,and_true,Nat.zero_add,eq_self,Nat.reduceEqDiff,Int.reduceAdd,Int.reduceSub,Int.reduceMul,not_true_eq_false,not_false_eq_true,Nat.reduceLT,Int.reduceToNat,Int.reduceEq,Int.reduceNe,Int.reduceLT,Int.reduceLE,and_false,false_and,false_implies,true_implies]
        refine w_M_two_67 ?_
        simp (disch := omega) only [cm_,aq_,ay_,ag_,b8_,af_,ba_,bc_,bx_,bh_,bl_,am_,ae_,ac_,b2_,bq_,ed_,bs_,ao_,a2_,az_,aw_,dw_,d6_,ea_,d3_,b5_,fl_,fn_,fh_,fu_,fp_,fz_,fq_,fk_,fr_,ft_,fs_,f0_,c5_,bt_,bd_,c3_,ct_,cx_,co_,cr_,cf_,ch_,ci_,an_,cl_,dr_,cd_,a9_,a8_,a7_,ce_,fy_,fv_,cq_,Int.toNat_natCast,f3_,di_,dm_,dn_,gv_,g4_,gx_,gf_,gu_,gs_,f9_,f4_,Int.add_zero,Int.zero_add,Int.ediv_one,Nat.reduceAdd,Nat.reduceMul,Int.reduceNeg,Nat.reduceLeDiff,List.length_cons,List.length_nil,true_and,and_true,Nat.zero_add,eq_self,Nat.reduceEqDiff,Int.reduceAdd,Int.reduceSub,Int.reduceMul,not_true_eq_false,not_false_eq_true,Nat.reduceLT,Int.reduceToNat,Int.reduceEq,Int.reduceNe,Int.reduceLT,Int.reduceLE,and_false,false_and,false_implies,true_implies]
        refine w_M_two_69 ?_
        simp (disch := omega) only [cm_,aq_,ay_,ag_,b8_,af_,ba_,bc_,bx_,bh_,bl_,am_,ae_,ac_,b2_,bq_,ed_,bs_,ao_,a2_,az_,aw_,dw_,d6_,ea_,d3_,b5_,fl_,fn_,fh_,fu_,fp_,fz_,fq_,fk_,fr_,ft_,fs_,f0_,c5_,bt_,bd_,c3_,ct_,cx_,co_,cr_,cf_,ch_,ci_,an_,cl_,dr_,cd_,a9_,a8_,a7_,ce_,fy_,fv_,cq_,Int.toNat_natCast,f3_,di_,dm_,dn_,gv_,g4_,gx_,gf_,gu_,gs_,f9_,f4_,Int.add_zero,Int.zero_add,Int.ediv_one,Nat.reduceAdd,Nat.reduceMul,Int.reduceNeg,Nat.reduceLeDiff,List.length_cons,List.length_nil,true_and,and_true,Nat.zero_add,eq_self,Nat.reduceEqDiff,Int.reduceAdd,Int.reduceSub,Int.reduceMul,not_true_eq_false,not_false_eq_true,Nat.reduceLT,Int.reduceToNat,Int.reduceEq,Int.reduceNe,Int.reduceLT,Int.reduceLE,and_false,false_and,false_implies,true_implies]
        refine con_Mrefuse (k := 6) (by omega) ?_
        simp (disch := omega) only [cm_,aq_,ay_,ag_,b8_,af_,ba_,bc_,bx_,bh_,bl_,am_,ae_,ac_,b2_,bq_,ed_,bs_,ao_,a2_,az_,aw_,dw_,d6_,ea_,d3_,b5_,fl_,fn_,fh_,fu_,fp_,fz_,fq_,fk_,fr_,ft_,fs_,f0_,c5_,bt_,bd_,c3_,ct_,cx_,co_,cr_,cf_,ch_,ci_,an_,cl_,dr_,cd_,a9_,a8_,a7_,ce_,fy_,fv_,cq_,Int.toNat_natCast,f3_,di_,dm_,dn_,gv_,g4_,gx_,gf_,gu_,gs_,f9_,f4_,Int.add_zero,Int.zero_add,Int.ediv_one,Nat.reduceAdd,Nat.reduceMul,Int.reduceNeg,Nat.reduceLeDiff,List.length_cons,List.length_nil,true_and,and_true,Nat.zero_add,eq_self,Nat.reduceEqDiff,Int.reduceAdd,Int.reduceSub,Int.reduceMul,not_true_eq_false,not_false_eq_true,Nat.reduceLT,Int.reduceToNat,Int.reduceEq,Int.reduceNe,Int.reduceLT,Int.reduceLE,and_false,false_and,false_implies,true_implies]
        exact k6 cc c4 c5
      · have bad : ¬ (rFa R o.toNat = 0 ∧ rFa R t.toNat = 0) → J M_M_two 62 [some (.ref 90), some (.int (zI o)), some (.int (zI t)), some (.int (zI n)), some (.int (zI 0)), none, none, none] [] (HM R rf lt lsz a0 ib sm pl lo nu kp ig (im) p0 tk ki tu (pz) tf tn tsz ga sd bb) Q := by
          intro q
          refine w_M_two_62 ?_
          simp (disch := omega) only [cm_,aq_,ay_,ag_,b8_,af_,ba_,bc_,bx_,bh_,bl_,am_,ae_,ac_,b2_,bq_,ed_,bs_,ao_,a2_,az_,aw_,dw_,d6_,ea_,d3_,b5_,fl_,fn_,fh_,fu_,fp_,fz_,fq_,fk_,fr_,ft_,fs_,f0_,c5_,bt_,bd_,c3_,ct_,cx_,co_,cr_,cf_,ch_,ci_,an_,cl_,dr_,cd_,a9_,a8_,a7_,ce_,fy_,fv_,cq_,Int.toNat_natCast,f3_,di_,dm_,dn_,gv_,g4_,gx_,gf_,gu_,gs_,f9_,f4_,Int.add_zero,Int.zero_add,Int.ediv_one,Nat.reduceAdd,Nat.reduceMul,Int.reduceNeg,Nat.reduceLeDiff,List.length_cons,List.length_nil,true_and,and_true,Nat.zero_add,eq_self,Nat.reduceEqDiff,Int.reduceAdd,Int.reduceSub,Int.reduceMul,not_true_eq_false,not_false_eq_true,Nat.reduceLT,Int.reduceToNat,Int.reduceEq,Int.reduceNe,Int.reduceLT,Int.reduceLE,and_false,false_and,false_implies,true_implies]
          refine w_M_two_69 ?_
          simp (disch := omega) only [cm_,aq_,ay_,ag_,b8_,af_,ba_,bc_,bx_,bh_,bl_,am_,ae_,ac_,b2_,bq_,ed_,bs_,ao_,a2_,az_,aw_,dw_,d6_,ea_,d3_,b5_,fl_,fn_,fh_,fu_,fp_,fz_,fq_,fk_,fr_,ft_,fs_,f0_,c5_,bt_,bd_,c3_,ct_,cx_,co_,cr_,cf_,ch_,ci_,an_,cl_,dr_,cd_,a9_,a8_,a7_,ce_,fy_,fv_,cq_,Int.toNat_natCast,f3_,di_,dm_,dn_,gv_,g4_,gx_,gf_,gu_,gs_,f9_,f4_,Int.add_zero,Int.zero_add,Int.ediv_one,Nat.reduceAdd,Nat.reduceMul,Int.reduceNeg,Nat.reduceLeDiff,List.length_cons,List.length_nil,true_and,and_true,Nat.zero_add,eq_self,Nat.reduceEqDiff,Int.reduceAdd,Int.reduceSub,Int.reduceMul,not_true_eq_false,not_false_eq_true,Nat.reduceLT,Int.reduceToNat,Int.reduceEq,Int.reduceNe,Int.reduceLT,Int.reduceLE,and_false,false_and,false_implies,true_implies]
          refine con_Mrefuse (k := 3) (by omega) ?_
          simp (disch := omega) only [cm_,aq_,ay_,ag_,b8_,af_,ba_,bc_,bx_,bh_,bl_,am_,ae_,ac_,b2_,bq_,ed_,bs_,ao_,a2_,az_,aw_,dw_,d6_,ea_,d3_,b5_,fl_,fn_,fh_,fu_,fp_,fz_,fq_,fk_,fr_,ft_,fs_,f0_,c5_,bt_,bd_,c3_,ct_,cx_,co_,cr_,cf_,ch_,ci_,an_,cl_,dr_,cd_,a9_,a8_,a7_,ce_,fy_,fv_,cq_,Int.toNat_natCast,f3_,di_,dm_,dn_,gv_,g4_,gx_,gf_,gu_,gs_,f9_,f4_,Int.add_zero,Int.zero_add,Int.ediv_one,Nat.reduceAdd,Nat.reduceMul,Int.reduceNeg,Nat.reduceLeDiff,List.length_cons,List.length_nil,true_and,and_true,Nat.zero_add,eq_self,Nat.reduceEqDiff,Int.reduceAdd,Int.reduceSub,Int.reduceMul,not_true_eq_false,not_false_eq_true,Nat.reduceLT,Int.reduceToNat,Int.reduceEq,Int.reduceNe,Int.reduceLT,Int.reduceLE,and_false,false_and,false_implies,true_implies]
          exact k3 cc c4 c5 q
        simp (disch := omega) only [cm_,aq_,ay_,ag_,b8_,af_,ba_,bc_,bx_,bh_,bl_,am_,ae_,ac_,b2_,bq_,ed_,bs_,ao_,a2_,az_,aw_,dw_,d6_,ea_,d3_,b5_,fl_,fn_,fh_,fu_,fp_,fz_,fq_,fk_,fr_,ft_,fs_,f0_,c5_,bt_,bd_,c3_,ct_,cx_,co_,cr_,cf_,ch_,ci_,an_,cl_,dr_,cd_,a9_,a8_,a7_,ce_,fy_,fv_,cq_,Int.toNat_natCast,f3_,di_,dm_,dn_,gv_,g4_,gx_,gf_,gu_,gs_,f9_,f4_,Int.add_zero,Int.zero_add,Int.ediv_one,Nat.reduceAdd,Nat.reduceMul,Int.reduceNeg,Nat.reduceLeDiff,List.length_cons,List.length_nil,true_and,and_true,Nat.zero_add,eq_self,Nat.reduceEqDiff,Int.reduceAdd,Int.reduceSub,Int.reduceMul,not_true_eq_false,not_false_eq_true,Nat.reduceLT,Int.reduceToNat,Int.reduceEq,Int.reduceNe,Int.reduceLT,Int.reduceLE,and_false,false_and,false_implies,true_implies]
        refine w_M_two_37 ?_
        rw [e1, e2] at bad ⊢
        simp (disch := omega) only [cm_,aq_,ay_,ag_,b8_,af_,ba_,bc_,bx_,bh_,bl_,am_,ae_,ac_,b2_,bq_,ed_,bs_,ao_,a2_,az_,aw_,dw_,d6_,ea_,d3_,b5_,fl_,fn_,fh_,fu_,fp_,fz_,fq_,fk_,fr_,ft_,fs_,f0_,c5_,bt_,bd_,c3_,ct_,cx_,co_,cr_,cf_,ch_,ci_,an_,cl_,dr_,cd_,a9_,a8_,a7_,ce_,fy_,fv_,cq_,Int.toNat_natCast,f3_,di_,dm_,dn_,gv_,g4_,gx_,gf_,gu_,gs_,f9_,f4_,Int.add_zero,Int.zero_add,Int.ediv_one,Nat.reduceAdd,Nat.reduceMul,Int.reduceNeg,Nat.reduceLeDiff,List.length_cons,List.length_nil,true_and,and_true,Nat.zero_add,eq_self,Nat.reduceEqDiff,Int.reduceAdd,Int.reduceSub,Int.reduceMul,not_true_eq_false,not_false_eq_true,Nat.reduceLT,Int.reduceToNat,Int.reduceEq,Int.reduceNe,Int.reduceLT,Int.reduceLE,and_false,false_and,false_implies,true_implies]
        refine ⟨by omega, fun c6 => bad (fun q => c6 q.1), fun c6 => ⟨by omega, fun c7 => ?_, fun c7 => bad (fun q => c7 q.2)⟩⟩
        have c6 : rFa R o.toNat = 0 := by omega
        have c7 : rFa R t.toNat = 0 := by omega
        refine w_M_two_67 ?_
        simp (disch := omega) only [cm_,aq_,ay_,ag_,b8_,af_,ba_,bc_,bx_,bh_,bl_,am_,ae_,ac_,b2_,bq_,ed_,bs_,ao_,a2_,az_,aw_,dw_,d6_,ea_,d3_,b5_,fl_,fn_,fh_,fu_,fp_,fz_,fq_,fk_,fr_,ft_,fs_,f0_,c5_,bt_,bd_,c3_,ct_,cx_,co_,cr_,cf_,ch_,ci_,an_,cl_,dr_,cd_,a9_,a8_,a7_,ce_,fy_,fv_,cq_,Int.toNat_natCast,f3_,di_,dm_,dn_,gv_,g4_,gx_,gf_,gu_,gs_,f9_,f4_,Int.add_zero,Int.zero_add,Int.ediv_one,Nat.reduceAdd,Nat.reduceMul,Int.reduceNeg,Nat.reduceLeDiff,List.length_cons,List.length_nil,true_and,and_true,Nat.zero_add,eq_self,Nat.reduceEqDiff,Int.reduceAdd,Int.reduceSub,Int.reduceMul,not_true_eq_false,not_false_eq_true,Nat.reduceLT,Int.reduceToNat,Int.reduceEq,Int.reduceNe,Int.reduceLT,Int.reduceLE,and_false,false_and,false_implies,true_implies]
        refine w_M_two_69 ?_
        simp (disch := omega) only [cm_,aq_,ay_,ag_,b8_,af_,ba_,bc_,bx_,bh_,bl_,am_,ae_,ac_,b2_,bq_,ed_,bs_,ao_,a2_,az_,aw_,dw_,d6_,ea_,d3_,b5_,fl_,fn_,fh_,fu_,fp_,fz_,fq_,fk_,fr_,ft_,fs_,f0_,c5_,bt_,bd_,c3_,ct_,cx_,co_,cr_,cf_,ch_,ci_,an_,cl_,dr_,cd_,a9_,a8_,a7_,ce_,fy_,fv_,cq_,Int.toNat_natCast,f3_,di_,dm_,dn_,gv_,g4_,gx_,gf_,gu_,gs_,f9_,f4_,Int.add_zero,Int.zero_add,Int.ediv_one,Nat.reduceAdd,Nat.reduceMul,Int.reduceNeg,Nat.reduceLeDiff,List.length_cons,List.length_nil,true_and,and_true,Nat.zero_add,eq_self,Nat.reduceEqDiff,Int.reduceAdd,Int.reduceSub,Int.reduceMul,not_true_eq_false,not_false_eq_true,Nat.reduceLT,Int.reduceToNat,Int.reduceEq,Int.reduceNe,Int.reduceLT,Int.reduceLE,and_false,false_and,false_implies,true_implies]
        have kk := ok cc c4 c5 ⟨c6, c7⟩
        obtain ⟨b, hb⟩ : ∃ b : Nat, b = o.toNat := ⟨_, rfl⟩
        obtain ⟨c, hc⟩ : ∃ c : Nat, c = t.toNat := ⟨_, rfl⟩
        have bc : b ≠ c := by omega
        have hnn : n = (n.toNat : Int) := by omega
        rw [← hb, ← hc] at kk ⊢
        rw [← hb] at c6
        rw [← hc] at c7
        have hIk : ∀ k, k < 4 → GI (twR R b c k) := by
          intro k hk
          have i1 := hI.setFa (x := ((k / 2 : Nat) : Int)) b (by omega) (by omega) (by omega)
          have i2 := i1.setFa (x := ((k % 2 : Nat) : Int)) c (by omega) (by omega) (by
            show upI (rFa R) b ((k / 2 : Nat) : Int) c ≠ 2
            simp only [upI]
            rw [if_neg (by omega)]
            omega)
          exact i2
        have kk : ∀ x g tk, Q (some (.int (zI (twF g6_ R b c n.toNat)))) (HM R rf lt lsz a0 ib sm pl lo nu (x) ig (im) (49) (tk) (.ref 101) tu (pz) tf tn tsz (g) sd bb) := fun x g tk => kk _ ⟨_, _, _, _, _, _, _, _, _, _, _, _, _, _, _, rfl, hIg, hTu, hPz⟩
        refine w_M_two_83 ?_
        simp (disch := omega) only [cm_,aq_,ay_,ag_,b8_,af_,ba_,bc_,bx_,bh_,bl_,am_,ae_,ac_,b2_,bq_,ed_,bs_,ao_,a2_,az_,aw_,dw_,d6_,ea_,d3_,b5_,fl_,fn_,fh_,fu_,fp_,fz_,fq_,fk_,fr_,ft_,fs_,f0_,c5_,bt_,bd_,c3_,ct_,cx_,co_,cr_,cf_,ch_,ci_,an_,cl_,dr_,cd_,a9_,a8_,a7_,ce_,fy_,fv_,cq_,Int.toNat_natCast,f3_,di_,dm_,dn_,gv_,g4_,gx_,gf_,gu_,gs_,f9_,f4_,Int.add_zero,Int.zero_add,Int.ediv_one,Nat.reduceAdd,Nat.reduceMul,Int.reduceNeg,Nat.reduceLeDiff,List.length_cons,List.length_nil,true_and,and_true,Nat.zero_add,eq_self,Nat.reduceEqDiff,Int.reduceAdd,Int.reduceSub,Int.reduceMul,not_true_eq_false,not_false_eq_true,Nat.reduceLT,Int.reduceToNat,Int.reduceEq,Int.reduceNe,Int.reduceLT,Int.reduceLE,and_false,false_and,false_implies,true_implies]
        refine con_Mthink (fun x hx => ?_)
        simp (disch := omega) only [cm_,aq_,ay_,ag_,b8_,af_,ba_,bc_,bx_,bh_,bl_,am_,ae_,ac_,b2_,bq_,ed_,bs_,ao_,a2_,az_,aw_,dw_,d6_,ea_,d3_,b5_,fl_,fn_,fh_,fu_,fp_,fz_,fq_,fk_,fr_,ft_,fs_,f0_,c5_,bt_,bd_,c3_,ct_,cx_,co_,cr_,cf_,ch_,ci_,an_,cl_,dr_,cd_,a9_,a8_,a7_,ce_,fy_,fv_,cq_,Int.toNat_natCast,f3_,di_,dm_,dn_,gv_,g4_,gx_,gf_,gu_,gs_,f9_,f4_,Int.add_zero,Int.zero_add,Int.ediv_one,Nat.reduceAdd,Nat.reduceMul,Int.reduceNeg,Nat.reduceLeDiff,List.length_cons,List.length_nil,true_and,and_true,Nat.zero_add,eq_self,Nat.reduceEqDiff,Int.reduceAdd,Int.reduceSub,Int.reduceMul,not_true_eq_false,not_false_eq_true,Nat.reduceLT,Int.reduceToNat,Int.reduceEq,Int.reduceNe,Int.reduceLT,Int.reduceLE,and_false,false_and,false_implies,true_implies]
        rw [hnn]
        have second : ∀ g : Nat → Int, (∀ j, j < 4 → g (2 * j) = twG g6_ R b c n.toNat j b ∧ g (2 * j + 1) = twG g6_ R b c n.toNat j c) → ∀ k i : Nat, i + k = 4 → (firstN (twP g6_ R b c n.toNat) i k = firstN (twP g6_ R b c n.toNat) 0 4) → ∀ y z tk, J M_M_two 192 [some (.ref 90), some (.int (zI b)), some (.int (zI c)), some (.int (zI (n.toNat : Int))), some (.int (zI 0)), some (.int (zI i)), y, z] [] (HM R rf lt lsz a0 ib sm pl lo nu (x) ig (im) (49) (tk) (.ref 101) tu (pz) tf tn tsz (g) sd bb) Q := by
          intro g hg k
          induction k with
          | zero =>
            intro i hi he y z tk
            have e : i = 4 := by omega
            subst e
            have kk := kk x g tk
            simp only [twF] at kk
            rw [← he, show firstN (twP g6_ R b c n.toNat) 4 0 = -9 from rfl, if_pos rfl] at kk
            refine w_M_two_192 ?_
            simp (disch := omega) only [cm_,aq_,ay_,ag_,b8_,af_,ba_,bc_,bx_,bh_,bl_,am_,ae_,ac_,b2_,bq_,ed_,bs_,ao_,a2_,az_,aw_,dw_,d6_,ea_,d3_,b5_,fl_,fn_,fh_,fu_,fp_,fz_,fq_,fk_,fr_,ft_,fs_,f0_,c5_,bt_,bd_,c3_,ct_,cx_,co_,cr_,cf_,ch_,ci_,an_,cl_,dr_,cd_,a9_,a8_,a7_,ce_,fy_,fv_,cq_,Int.toNat_natCast,f3_,di_,dm_,dn_,gv_,g4_,gx_,gf_,gu_,gs_,f9_,f4_,Int.add_zero,Int.zero_add,Int.ediv_one,Nat.reduceAdd,Nat.reduceMul,Int.reduceNeg,Nat.reduceLeDiff,List.length_cons,List.length_nil,true_and,and_true,Nat.zero_add,eq_self,Nat.reduceEqDiff,Int.reduceAdd,Int.reduceSub,Int.reduceMul,not_true_eq_false,not_false_eq_true,Nat.reduceLT,Int.reduceToNat,Int.reduceEq,Int.reduceNe,Int.reduceLT,Int.reduceLE,and_false,false_and,false_implies,true_implies]
            refine w_M_two_293 ?_
            simp (disch := omega) only [cm_,aq_,ay_,ag_,b8_,af_,ba_,bc_,bx_,bh_,bl_,am_,ae_,ac_,b2_,bq_,ed_,bs_,ao_,a2_,az_,aw_,dw_,d6_,ea_,d3_,b5_,fl_,fn_,fh_,fu_,fp_,fz_,fq_,fk_,fr_,ft_,fs_,f0_,c5_,bt_,bd_,c3_,ct_,cx_,co_,cr_,cf_,ch_,ci_,an_,cl_,dr_,cd_,a9_,a8_,a7_,ce_,fy_,fv_,cq_,Int.toNat_natCast,f3_,di_,dm_,dn_,gv_,g4_,gx_,gf_,gu_,gs_,f9_,f4_,Int.add_zero,Int.zero_add,Int.ediv_one,Nat.reduceAdd,Nat.reduceMul,Int.reduceNeg,Nat.reduceLeDiff,List.length_cons,List.length_nil,true_and,and_true,Nat.zero_add,eq_self,Nat.reduceEqDiff,Int.reduceAdd,Int.reduceSub,Int.reduceMul,not_true_eq_false,not_false_eq_true,Nat.reduceLT,Int.reduceToNat,Int.reduceEq,Int.reduceNe,Int.reduceLT,Int.reduceLE,and_false,false_and,false_implies,true_implies]
            exact kk
          | succ k ih =>
            intro i hi he y z tk
            have cases4 : i = 0 ∨ i = 1 ∨ i = 2 ∨ i = 3 := by omega
            have x4 : i ^^^ 2 < 4 := by rcases cases4 with rfl | rfl | rfl | rfl <;> decide
            have y4 : i ^^^ 1 < 4 := by rcases cases4 with rfl | rfl | rfl | rfl <;> decide
            have hx' : 2 * (1 - (i : Int) / 2) + ((i : Int) - (i : Int) / 2 * 2) = ((i ^^^ 2 : Nat) : Int) := by rcases cases4 with rfl | rfl | rfl | rfl <;> decide
            have hy' : 2 * ((i : Int) / 2) + 1 - ((i : Int) - (i : Int) / 2 * 2) = ((i ^^^ 1 : Nat) : Int) := by rcases cases4 with rfl | rfl | rfl | rfl <;> decide
            have vp : 10 * ((i : Int) / 2) + ((i : Int) - (i : Int) / 2 * 2) = 10 * ((i : Int) / 2) + (i : Int) % 2 := by omega
            have kk := kk x g tk
            have twd : twP g6_ R b c n.toNat i = decide (twG g6_ R b c n.toNat (i ^^^ 2) b ≤ twG g6_ R b c n.toNat i b ∧ twG g6_ R b c n.toNat (i ^^^ 1) c ≤ twG g6_ R b c n.toNat i c) := rfl
            obtain ⟨X, hX⟩ : ∃ X, X = i ^^^ 2 := ⟨_, rfl⟩
            obtain ⟨Y, hY⟩ : ∃ Y, Y = i ^^^ 1 := ⟨_, rfl⟩
            rw [← hX] at x4 hx' twd
            rw [← hY] at y4 hy' twd
            have r0 := twG_rng hG (o := b) (t := c) (p := i) (w := b) (n := n.toNat) (by omega)
            have r1 := twG_rng hG (o := b) (t := c) (p := X) (w := b) (n := n.toNat) (by omega)
            have s0 := twG_rng hG (o := b) (t := c) (p := i) (w := c) (n := n.toNat) (by omega)
            have s1 := twG_rng hG (o := b) (t := c) (p := Y) (w := c) (n := n.toNat) (by omega)
            have d3 : 2 * (i : Int) = ((2 * i : Nat) : Int) := by omega
            have d4 : ((2 * i : Nat) : Int) + 1 = ((2 * i + 1 : Nat) : Int) := by omega
            have d5 : 2 * (X : Int) = ((2 * X : Nat) : Int) := by omega
            have d6 : 2 * (Y : Int) + 1 = ((2 * Y + 1 : Nat) : Int) := by omega
            have g0 := hg i (by omega)
            have g1 := (hg X (by omega)).1
            have g2 := (hg Y (by omega)).2
            have step := ih (i + 1) (by omega)
            have he0 := he
            simp only [twF] at kk
            rw [← he0] at kk
            simp only [firstN] at he
            have no : ¬ twP g6_ R b c n.toNat i = true → ∀ y z tk, J M_M_two 287 [some (.ref 90), some (.int (zI b)), some (.int (zI c)), some (.int (zI (n.toNat : Int))), some (.int (zI 0)), some (.int (zI i)), y, z] [] (HM R rf lt lsz a0 ib sm pl lo nu (x) ig (im) (49) (tk) (.ref 101) tu (pz) tf tn tsz (g) sd bb) Q := by
              intro q y z tk
              rw [if_neg q] at he
              refine w_M_two_287 ?_
              simp (disch := omega) only [cm_,aq_,ay_,ag_,b8_,af_,ba_,bc_,bx_,bh_,bl_,am_,ae_,ac_,b2_,bq_,ed_,bs_,ao_,a2_,az_,aw_,dw_,d6_,ea_,d3_,b5_,fl_,fn_,fh_,fu_,fp_,fz_,fq_,fk_,fr_,ft_,fs_,f0_,c5_,bt_,bd_,c3_,ct_,cx_,co_,cr_,cf_,ch_,ci_,an_,cl_,dr_,cd_,a9_,a8_,a7_,ce_,fy_,fv_,cq_,Int.toNat_natCast,f3_,di_,dm_,dn_,gv_,g4_,gx_,gf_,gu_,gs_,f9_,f4_,Int.add_zero,Int.zero_add,Int.ediv_one,Nat.reduceAdd,Nat.reduceMul,Int.reduceNeg,Nat.reduceLeDiff,List.length_cons,List.length_nil,true_and,and_true,Nat.zero_add,eq_self,Nat.reduceEqDiff,Int.reduceAdd,Int.reduceSub,Int.reduceMul,not_true_eq_false,not_false_eq_true,Nat.reduceLT,Int.reduceToNat,Int.reduceEq,Int.reduceNe,Int.reduceLT,Int.reduceLE,and_false,false_and,false_implies,true_implies]
              exact step he _ _ _
            refine w_M_two_192 ?_
            simp (disch := omega) only [cm_,aq_,ay_,ag_,b8_,af_,ba_,bc_,bx_,bh_,bl_,am_,ae_,ac_,b2_,bq_,ed_,bs_,ao_,a2_,az_,aw_,dw_,d6_,ea_,d3_,b5_,fl_,fn_,fh_,fu_,fp_,fz_,fq_,fk_,fr_,ft_,fs_,f0_,c5_,bt_,bd_,c3_,ct_,cx_,co_,cr_,cf_,ch_,ci_,an_,cl_,dr_,cd_,a9_,a8_,a7_,ce_,fy_,fv_,cq_,Int.toNat_natCast,f3_,di_,dm_,dn_,gv_,g4_,gx_,gf_,gu_,gs_,f9_,f4_,Int.add_zero,Int.zero_add,Int.ediv_one,Nat.reduceAdd,Nat.reduceMul,Int.reduceNeg,Nat.reduceLeDiff,List.length_cons,List.length_nil,true_and,and_true,Nat.zero_add,eq_self,Nat.reduceEqDiff,Int.reduceAdd,Int.reduceSub,Int.reduceMul,not_true_eq_false,not_false_eq_true,Nat.reduceLT,Int.reduceToNat,Int.reduceEq,Int.reduceNe,Int.reduceLT,Int.reduceLE,and_false,false_and,false_implies,true_implies,hx',hy',vp,d3,d4,d5,d6,g0.1,g0.2,g1,g2]
            refine ⟨fun q => by omega, fun _ => ⟨by omega, by omega, fun c8 => no (fun q => ?_) _ _ _, fun c8 => ⟨by omega, by omega, fun c9 => no (fun q => ?_) _ _ _, fun c9 => ?_⟩⟩⟩
            · rw [twd] at q
              have := of_decide_eq_true q
              omega
            · rw [twd] at q
              have := of_decide_eq_true q
              omega
            · have eF : firstN (twP g6_ R b c n.toNat) i (k + 1) = (i : Int) := by
                simp only [firstN]
                rw [if_pos (by rw [twd]; exact decide_eq_true ⟨by omega, by omega⟩)]
              rw [eF, if_neg (by omega)] at kk
              exact kk
        have first : ∀ k i : Nat, i + k = 4 → ∀ y z g tk, (∀ j, j < i → g (2 * j) = twG g6_ R b c n.toNat j b ∧ g (2 * j + 1) = twG g6_ R b c n.toNat j c) → J M_M_two 90 [some (.ref 90), some (.int (zI b)), some (.int (zI c)), some (.int (zI (n.toNat : Int))), some (.int (zI 0)), some (.int (zI i)), y, z] [] (HM R rf lt lsz a0 ib sm pl lo nu (x) ig (im) (49) (tk) (.ref 101) tu (pz) tf tn tsz (g) sd bb) Q := by
          intro k
          induction k with
          | zero =>
            intro i hi y z g tk hg
            have e : i = 4 := by omega
            subst e
            refine w_M_two_90 ?_
            simp (disch := omega) only [cm_,aq_,ay_,ag_,b8_,af_,ba_,bc_,bx_,bh_,bl_,am_,ae_,ac_,b2_,bq_,ed_,bs_,ao_,a2_,az_,aw_,dw_,d6_,ea_,d3_,b5_,fl_,fn_,fh_,fu_,fp_,fz_,fq_,fk_,fr_,ft_,fs_,f0_,c5_,bt_,bd_,c3_,ct_,cx_,co_,cr_,cf_,ch_,ci_,an_,cl_,dr_,cd_,a9_,a8_,a7_,ce_,fy_,fv_,cq_,Int.toNat_natCast,f3_,di_,dm_,dn_,gv_,g4_,gx_,gf_,gu_,gs_,f9_,f4_,Int.add_zero,Int.zero_add,Int.ediv_one,Nat.reduceAdd,Nat.reduceMul,Int.reduceNeg,Nat.reduceLeDiff,List.length_cons,List.length_nil,true_and,and_true,Nat.zero_add,eq_self,Nat.reduceEqDiff,Int.reduceAdd,Int.reduceSub,Int.reduceMul,not_true_eq_false,not_false_eq_true,Nat.reduceLT,Int.reduceToNat,Int.reduceEq,Int.reduceNe,Int.reduceLT,Int.reduceLE,and_false,false_and,false_implies,true_implies]
            refine w_M_two_189 ?_
            simp (disch := omega) only [cm_,aq_,ay_,ag_,b8_,af_,ba_,bc_,bx_,bh_,bl_,am_,ae_,ac_,b2_,bq_,ed_,bs_,ao_,a2_,az_,aw_,dw_,d6_,ea_,d3_,b5_,fl_,fn_,fh_,fu_,fp_,fz_,fq_,fk_,fr_,ft_,fs_,f0_,c5_,bt_,bd_,c3_,ct_,cx_,co_,cr_,cf_,ch_,ci_,an_,cl_,dr_,cd_,a9_,a8_,a7_,ce_,fy_,fv_,cq_,Int.toNat_natCast,f3_,di_,dm_,dn_,gv_,g4_,gx_,gf_,gu_,gs_,f9_,f4_,Int.add_zero,Int.zero_add,Int.ediv_one,Nat.reduceAdd,Nat.reduceMul,Int.reduceNeg,Nat.reduceLeDiff,List.length_cons,List.length_nil,true_and,and_true,Nat.zero_add,eq_self,Nat.reduceEqDiff,Int.reduceAdd,Int.reduceSub,Int.reduceMul,not_true_eq_false,not_false_eq_true,Nat.reduceLT,Int.reduceToNat,Int.reduceEq,Int.reduceNe,Int.reduceLT,Int.reduceLE,and_false,false_and,false_implies,true_implies]
            exact second g hg 4 0 rfl rfl _ _ _
          | succ k ih =>
            intro i hi y z g tk hg
            have d1 : (i : Int) / 2 = ((i / 2 : Nat) : Int) := by omega
            have d2 : (i : Int) - ((i / 2 : Nat) : Int) * 2 = ((i % 2 : Nat) : Int) := by omega
            have hB := hIk i (by omega)
            have gk := (hB.1.dsX n.toNat).king
            have gb := (hB.1.dsX n.toNat).wo b
            have gc := (hB.1.dsX n.toNat).wo c
            refine w_M_two_90 ?_
            simp (disch := omega) only [cm_,aq_,ay_,ag_,b8_,af_,ba_,bc_,bx_,bh_,bl_,am_,ae_,ac_,b2_,bq_,ed_,bs_,ao_,a2_,az_,aw_,dw_,d6_,ea_,d3_,b5_,fl_,fn_,fh_,fu_,fp_,fz_,fq_,fk_,fr_,ft_,fs_,f0_,c5_,bt_,bd_,c3_,ct_,cx_,co_,cr_,cf_,ch_,ci_,an_,cl_,dr_,cd_,a9_,a8_,a7_,ce_,fy_,fv_,cq_,Int.toNat_natCast,f3_,di_,dm_,dn_,gv_,g4_,gx_,gf_,gu_,gs_,f9_,f4_,Int.add_zero,Int.zero_add,Int.ediv_one,Nat.reduceAdd,Nat.reduceMul,Int.reduceNeg,Nat.reduceLeDiff,List.length_cons,List.length_nil,true_and,and_true,Nat.zero_add,eq_self,Nat.reduceEqDiff,Int.reduceAdd,Int.reduceSub,Int.reduceMul,not_true_eq_false,not_false_eq_true,Nat.reduceLT,Int.reduceToNat,Int.reduceEq,Int.reduceNe,Int.reduceLT,Int.reduceLE,and_false,false_and,false_implies,true_implies,d1,d2]
            refine ⟨fun q => by omega, fun _ => ⟨by omega, by omega, ?_⟩⟩
            have d3 : 2 * (i : Int) = ((2 * i : Nat) : Int) := by omega
            have d4 : ((2 * i : Nat) : Int) + 1 = ((2 * i + 1 : Nat) : Int) := by omega
            refine con_MgoDays (R := twR R b c i) (by omega) hB ?_
            have fin : ∀ v : Int, 0 ≤ v → v ≤ 3 → (v = if hd_ (g6_ (twR R b c i) n.toNat) = 12 then 3 else 0) → J M_M_two 135 [some (.ref 90), some (.int (zI b)), some (.int (zI c)), some (.int (zI (n.toNat : Int))), some (.int (zI 0)), some (.int (zI i)), y, z] [.int (zI v)] (HM (g6_ (twR R b c i) n.toNat) rf lt lsz a0 ib sm pl lo nu (x) ig (im) (49) (tk) (.ref 101) tu (pz) tf tn tsz (g) sd bb) Q := by
              intro v v1 v2 hv
              refine w_M_two_135 ?_
              simp (disch := omega) only [cm_,aq_,ay_,ag_,b8_,af_,ba_,bc_,bx_,bh_,bl_,am_,ae_,ac_,b2_,bq_,ed_,bs_,ao_,a2_,az_,aw_,dw_,d6_,ea_,d3_,b5_,fl_,fn_,fh_,fu_,fp_,fz_,fq_,fk_,fr_,ft_,fs_,f0_,c5_,bt_,bd_,c3_,ct_,cx_,co_,cr_,cf_,ch_,ci_,an_,cl_,dr_,cd_,a9_,a8_,a7_,ce_,fy_,fv_,cq_,Int.toNat_natCast,f3_,di_,dm_,dn_,gv_,g4_,gx_,gf_,gu_,gs_,f9_,f4_,Int.add_zero,Int.zero_add,Int.ediv_one,Nat.reduceAdd,Nat.reduceMul,Int.reduceNeg,Nat.reduceLeDiff,List.length_cons,List.length_nil,true_and,and_true,Nat.zero_add,eq_self,Nat.reduceEqDiff,Int.reduceAdd,Int.reduceSub,Int.reduceMul,not_true_eq_false,not_false_eq_true,Nat.reduceLT,Int.reduceToNat,Int.reduceEq,Int.reduceNe,Int.reduceLT,Int.reduceLE,and_false,false_and,false_implies,true_implies,d3,d4]
              refine ⟨by omega, by omega, by omega, by omega, ?_⟩
              refine con_Magain hx (hB.dsX n.toNat).2.2 hI.2.2 ?_
              simp (disch := omega) only [cm_,aq_,ay_,ag_,b8_,af_,ba_,bc_,bx_,bh_,bl_,am_,ae_,ac_,b2_,bq_,ed_,bs_,ao_,a2_,az_,aw_,dw_,d6_,ea_,d3_,b5_,fl_,fn_,fh_,fu_,fp_,fz_,fq_,fk_,fr_,ft_,fs_,f0_,c5_,bt_,bd_,c3_,ct_,cx_,co_,cr_,cf_,ch_,ci_,an_,cl_,dr_,cd_,a9_,a8_,a7_,ce_,fy_,fv_,cq_,Int.toNat_natCast,f3_,di_,dm_,dn_,gv_,g4_,gx_,gf_,gu_,gs_,f9_,f4_,Int.add_zero,Int.zero_add,Int.ediv_one,Nat.reduceAdd,Nat.reduceMul,Int.reduceNeg,Nat.reduceLeDiff,List.length_cons,List.length_nil,true_and,and_true,Nat.zero_add,eq_self,Nat.reduceEqDiff,Int.reduceAdd,Int.reduceSub,Int.reduceMul,not_true_eq_false,not_false_eq_true,Nat.reduceLT,Int.reduceToNat,Int.reduceEq,Int.reduceNe,Int.reduceLT,Int.reduceLE,and_false,false_and,false_implies,true_implies]
              refine ih (i + 1) (by omega) _ _ _ _ (fun j hj => ?_)
              simp only [upI]
              by_cases hji : j = i
              · subst hji
                rw [if_neg (by omega), if_pos rfl, if_pos rfl]
                simp only [twG]
                rw [← hv]
                exact ⟨rfl, rfl⟩
              · rw [if_neg (by omega), if_neg (by omega), if_neg (by omega), if_neg (by omega)]
                exact hg j (by omega)
            simp (disch := omega) only [cm_,aq_,ay_,ag_,b8_,af_,ba_,bc_,bx_,bh_,bl_,am_,ae_,ac_,b2_,bq_,ed_,bs_,ao_,a2_,az_,aw_,dw_,d6_,ea_,d3_,b5_,fl_,fn_,fh_,fu_,fp_,fz_,fq_,fk_,fr_,ft_,fs_,f0_,c5_,bt_,bd_,c3_,ct_,cx_,co_,cr_,cf_,ch_,ci_,an_,cl_,dr_,cd_,a9_,a8_,a7_,ce_,fy_,fv_,cq_,Int.toNat_natCast,f3_,di_,dm_,dn_,gv_,g4_,gx_,gf_,gu_,gs_,f9_,f4_,Int.add_zero,Int.zero_add,Int.ediv_one,Nat.reduceAdd,Nat.reduceMul,Int.reduceNeg,Nat.reduceLeDiff,List.length_cons,List.length_nil,true_and,and_true,Nat.zero_add,eq_self,Nat.reduceEqDiff,Int.reduceAdd,Int.reduceSub,Int.reduceMul,not_true_eq_false,not_false_eq_true,Nat.reduceLT,Int.reduceToNat,Int.reduceEq,Int.reduceNe,Int.reduceLT,Int.reduceLE,and_false,false_and,false_implies,true_implies]
            refine ⟨fun c8 => ?_, fun c8 => ?_⟩
            · refine w_M_two_134 ?_
              simp (disch := omega) only [cm_,aq_,ay_,ag_,b8_,af_,ba_,bc_,bx_,bh_,bl_,am_,ae_,ac_,b2_,bq_,ed_,bs_,ao_,a2_,az_,aw_,dw_,d6_,ea_,d3_,b5_,fl_,fn_,fh_,fu_,fp_,fz_,fq_,fk_,fr_,ft_,fs_,f0_,c5_,bt_,bd_,c3_,ct_,cx_,co_,cr_,cf_,ch_,ci_,an_,cl_,dr_,cd_,a9_,a8_,a7_,ce_,fy_,fv_,cq_,Int.toNat_natCast,f3_,di_,dm_,dn_,gv_,g4_,gx_,gf_,gu_,gs_,f9_,f4_,Int.add_zero,Int.zero_add,Int.ediv_one,Nat.reduceAdd,Nat.reduceMul,Int.reduceNeg,Nat.reduceLeDiff,List.length_cons,List.length_nil,true_and,and_true,Nat.zero_add,eq_self,Nat.reduceEqDiff,Int.reduceAdd,Int.reduceSub,Int.reduceMul,not_true_eq_false,not_false_eq_true,Nat.reduceLT,Int.reduceToNat,Int.reduceEq,Int.reduceNe,Int.reduceLT,Int.reduceLE,and_false,false_and,false_implies,true_implies]
              exact fin 0 (by omega) (by omega) (by rw [if_neg (by omega)])
            · exact fin 3 (by omega) (by omega) (by rw [if_pos (by omega)])
        exact first 4 0 rfl _ _ _ _ (fun j q => by omega)
    · simp (disch := omega) only [cm_,aq_,ay_,ag_,b8_,af_,ba_,bc_,bx_,bh_,bl_,am_,ae_,ac_,b2_,bq_,ed_,bs_,ao_,a2_,az_,aw_,dw_,d6_,ea_,d3_,b5_,fl_,fn_,fh_,fu_,fp_,fz_,fq_,fk_,fr_,ft_,fs_,f0_,c5_,bt_,bd_,c3_,ct_,cx_,co_,cr_,cf_,ch_,ci_,an_,cl_,dr_,cd_,a9_,a8_,a7_,ce_,fy_,fv_,cq_,Int.toNat_natCast,f3_,di_,dm_,dn_,gv_,g4_,gx_,gf_,gu_,gs_,f9_,f4_,Int.add_zero,Int.zero_add,Int.ediv_one,Nat.reduceAdd,Nat.reduceMul,Int.reduceNeg,Nat.reduceLeDiff,List.length_cons,List.length_nil,true_and,and_true,Nat.zero_add,eq_self,Nat.reduceEqDiff,Int.reduceAdd,Int.reduceSub,Int.reduceMul,not_true_eq_false,not_false_eq_true,Nat.reduceLT,Int.reduceToNat,Int.reduceEq,Int.reduceNe,Int.reduceLT,Int.reduceLE,and_false,false_and,false_implies,true_implies]
      exact one (fun q => c2 q.2.1)
  · simp (disch := omega) only [cm_,aq_,ay_,ag_,b8_,af_,ba_,bc_,bx_,bh_,bl_,am_,ae_,ac_,b2_,bq_,ed_,bs_,ao_,a2_,az_,aw_,dw_,d6_,ea_,d3_,b5_,fl_,fn_,fh_,fu_,fp_,fz_,fq_,fk_,fr_,ft_,fs_,f0_,c5_,bt_,bd_,c3_,ct_,cx_,co_,cr_,cf_,ch_,ci_,an_,cl_,dr_,cd_,a9_,a8_,a7_,ce_,fy_,fv_,cq_,Int.toNat_natCast,f3_,di_,dm_,dn_,gv_,g4_,gx_,gf_,gu_,gs_,f9_,f4_,Int.add_zero,Int.zero_add,Int.ediv_one,Nat.reduceAdd,Nat.reduceMul,Int.reduceNeg,Nat.reduceLeDiff,List.length_cons,List.length_nil,true_and,and_true,Nat.zero_add,eq_self,Nat.reduceEqDiff,Int.reduceAdd,Int.reduceSub,Int.reduceMul,not_true_eq_false,not_false_eq_true,Nat.reduceLT,Int.reduceToNat,Int.reduceEq,Int.reduceNe,Int.reduceLT,Int.reduceLE,and_false,false_and,false_implies,true_implies]
    exact one (fun q => c1 q.1)
end E26
end
/-! fallsM -/
section
/-! ===== the reference: mean, snow by odds ===== -/
section E27
variable {h : AH} {Q : Option Value → AH → Prop}
theorem con_Mdivisor {a b : Nat} (ha : a < 1099511627776) (hb : b < 1099511627776) (hQ : Q (some (.long (zJ (Nat.gcd a b : Nat)))) h) : Con M_M_divisor [.long (zJ a), .long (zJ b)] h Q := by
  refine g8_ (L := [some (.long (zJ a)), none, some (.long (zJ b)), none, none, none, none, none, none, none]) ok_M_divisor (Nat.le_of_ble_eq_true rfl) rfl ?_
  refine w_M_divisor_0 ?_
  simp (disch := omega) only [cm_,aq_,a1_,ay_,ag_,aj_,b8_,af_,bm_,ah_,ba_,bc_,b3_,c0_,bp_,bw_,b0_,bi_,br_,bz_,ac_,b2_,bq_,ed_,bs_,b6_,a2_,az_,a4_,aw_,dw_,d6_,ea_,d3_,bn_,b5_,d9_,d7_,fl_,fn_,fh_,fw_,fu_,fp_,fz_,fq_,fk_,fr_,f0_,c5_,bt_,bd_,c3_,ct_,cx_,co_,cr_,cz_,cj_,cf_,ch_,an_,cd_,a9_,a8_,a7_,ce_,Int.toNat_natCast,b9_,f3_,di_,dm_,dn_,en_,es_,eo_,er_,ep_,f2_,cc_,f1_,gv_,gu_,f4_,Int.add_zero,Int.zero_add,Int.ediv_one,Nat.reduceAdd,Nat.reduceMul,Int.reduceNeg,Nat.reduceLeDiff,List.length_cons,List.length_nil,true_and,and_true,Nat.zero_add,eq_self,Nat.reduceEqDiff,Int.reduceAdd,Int.reduceSub,Int.reduceMul,not_true_eq_false,not_false_eq_true,Nat.reduceLT,Int.reduceToNat,Int.reduceEq,Int.reduceNe,Int.reduceLT,Int.reduceLE,false_implies,true_implies]
  have loop : ∀ (k g s : Nat), s < k → g < 1099511627776 → s < 1099511627776 → Nat.gcd g s = Nat.gcd a b → ∀ x y, J M_M_divisor 6 [some (.long (zJ a)), none, some (.long (zJ b)), none, some (.long (zJ g)), none, some (.long (zJ s)), none, x, y] [] h Q := by
    intro k
    induction k with
    | zero => intro g s hk; omega
    | succ k ih =>
      intro g s hk hg hs he x y
      rcases Nat.eq_zero_or_pos s with e | hp
      · subst e
        rw [Nat.gcd_zero_right] at he
        rw [← he] at hQ
        refine w_M_divisor_6 ?_
        simp (disch := omega) only [cm_,aq_,a1_,ay_,ag_,aj_,b8_,af_,bm_,ah_,ba_,bc_,b3_,c0_,bp_,bw_,b0_,bi_,br_,bz_,ac_,b2_,bq_,ed_,bs_,b6_,a2_,az_,a4_,aw_,dw_,d6_,ea_,d3_,bn_,b5_,d9_,d7_,fl_,fn_,fh_,fw_,fu_,fp_,fz_,fq_,fk_,fr_,f0_,c5_,bt_,bd_,c3_,ct_,cx_,co_,cr_,cz_,cj_,cf_,ch_,an_,cd_,a9_,a8_,a7_,ce_,Int.toNat_natCast,b9_,f3_,di_,dm_,dn_,en_,es_,eo_,er_,ep_,f2_,cc_,f1_,gv_,gu_,f4_,Int.add_zero,Int.zero_add,Int.ediv_one,Nat.reduceAdd,Nat.reduceMul,Int.reduceNeg,Nat.reduceLeDiff,List.length_cons,List.length_nil,true_and,and_true,Nat.zero_add,eq_self,Nat.reduceEqDiff,Int.reduceAdd,Int.reduceSub,Int.reduceMul,not_true_eq_false,not_false_eq_true,Nat.reduceLT,Int.reduceToNat,Int.reduceEq,Int.reduceNe,Int.reduceLT,Int.reduceLE,false_implies,true_implies]
        refine ⟨fun _ => ?_, fun q => absurd rfl q⟩
        refine w_M_divisor_31 ?_
        simp (disch := omega) only [cm_,aq_,a1_,ay_,ag_,aj_,b8_,af_,bm_,ah_,ba_,bc_,b3_,c0_,bp_,bw_,b0_,bi_,br_,bz_,ac_,b2_,bq_,ed_,bs_,b6_,a2_,az_,a4_,aw_,dw_,d6_,ea_,d3_,bn_,b5_,d9_,d7_,fl_,fn_,fh_,fw_,fu_,fp_,fz_,fq_,fk_,fr_,f0_,c5_,bt_,bd_,c3_,ct_,cx_,co_,cr_,cz_,cj_,cf_,ch_,an_,cd_,a9_,a8_,a7_,ce_,Int.toNat_natCast,b9_,f3_,di_,dm_,dn_,en_,es_,eo_,er_,ep_,f2_,cc_,f1_,gv_,gu_,f4_,Int.add_zero,Int.zero_add,Int.ediv_one,Nat.reduceAdd,Nat.reduceMul,Int.reduceNeg,Nat.reduceLeDiff,List.length_cons,List.length_nil,true_and,and_true,Nat.zero_add,eq_self,Nat.reduceEqDiff,Int.reduceAdd,Int.reduceSub,Int.reduceMul,not_true_eq_false,not_false_eq_true,Nat.reduceLT,Int.reduceToNat,Int.reduceEq,Int.reduceNe,Int.reduceLT,Int.reduceLE,false_implies,true_implies]
        exact hQ
      · have hr : g % s < s := Nat.mod_lt _ hp
        have he2 : Nat.gcd s (g % s) = Nat.gcd a b := by rw [← he, Nat.gcd_comm g s, Nat.gcd_rec s g, Nat.gcd_comm]
        have em : zJ ((g : Int) - (g : Int) / (s : Int) * (s : Int)) = zJ ((g % s : Nat) : Int) := by
          congr 1
          rw [Int.natCast_emod, Int.emod_def, Int.mul_comm]
        refine w_M_divisor_6 ?_
        simp (disch := omega) only [cm_,aq_,a1_,ay_,ag_,aj_,b8_,af_,bm_,ah_,ba_,bc_,b3_,c0_,bp_,bw_,b0_,bi_,br_,bz_,ac_,b2_,bq_,ed_,bs_,b6_,a2_,az_,a4_,aw_,dw_,d6_,ea_,d3_,bn_,b5_,d9_,d7_,fl_,fn_,fh_,fw_,fu_,fp_,fz_,fq_,fk_,fr_,f0_,c5_,bt_,bd_,c3_,ct_,cx_,co_,cr_,cz_,cj_,cf_,ch_,an_,cd_,a9_,a8_,a7_,ce_,Int.toNat_natCast,b9_,f3_,di_,dm_,dn_,en_,es_,eo_,er_,ep_,f2_,cc_,f1_,gv_,gu_,f4_,Int.add_zero,Int.zero_add,Int.ediv_one,Nat.reduceAdd,Nat.reduceMul,Int.reduceNeg,Nat.reduceLeDiff,List.length_cons,List.length_nil,true_and,and_true,Nat.zero_add,eq_self,Nat.reduceEqDiff,Int.reduceAdd,Int.reduceSub,Int.reduceMul,not_true_eq_false,not_false_eq_true,Nat.reduceLT,Int.reduceToNat,Int.reduceEq,Int.reduceNe,Int.reduceLT,Int.reduceLE,false_implies,true_implies,em]
        refine ⟨fun q => by omega, fun _ => ?_⟩
        exact ih s (g % s) (by omega) hs (by omega) he2 _ _
  exact loop (b + 1) a b (by omega) ha hb rfl _ _
theorem con_MpartOf {a b : Nat} {p : Int} (ha : a < 1099511627776) (hb : b < 1099511627776) (hp : p = 0 ∨ p = 1) (hab : a ≠ 0 → b ≠ 0) (hQ : Q (some (.long (zJ (ltF a b p)))) h) : Con M_M_partOf [.long (zJ a), .long (zJ b), .int (zI p)] h Q := by
  simp only [ltF] at hQ
  refine g8_ (L := [some (.long (zJ a)), none, some (.long (zJ b)), none, some (.int (zI p)), none, none]) ok_M_partOf (Nat.le_of_ble_eq_true rfl) rfl ?_
  refine w_M_partOf_0 ?_
  simp (disch := omega) only [cm_,aq_,a1_,ay_,ag_,aj_,b8_,af_,bm_,ah_,ba_,bc_,b3_,c0_,bp_,bw_,b0_,bi_,br_,bz_,ac_,b2_,bq_,ed_,bs_,b6_,a2_,az_,a4_,aw_,dw_,d6_,ea_,d3_,bn_,b5_,d9_,d7_,fl_,fn_,fh_,fw_,fu_,fp_,fz_,fq_,fk_,fr_,f0_,c5_,bt_,bd_,c3_,ct_,cx_,co_,cr_,cz_,cj_,cf_,ch_,an_,cd_,a9_,a8_,a7_,ce_,Int.toNat_natCast,b9_,f3_,di_,dm_,dn_,en_,es_,eo_,er_,ep_,f2_,cc_,f1_,gv_,gu_,f4_,Int.add_zero,Int.zero_add,Int.ediv_one,Nat.reduceAdd,Nat.reduceMul,Int.reduceNeg,Nat.reduceLeDiff,List.length_cons,List.length_nil,true_and,and_true,Nat.zero_add,eq_self,Nat.reduceEqDiff,Int.reduceAdd,Int.reduceSub,Int.reduceMul,not_true_eq_false,not_false_eq_true,Nat.reduceLT,Int.reduceToNat,Int.reduceEq,Int.reduceNe,Int.reduceLT,Int.reduceLE,false_implies,true_implies]
  by_cases c : a = 0
  · rw [if_pos (Or.inl c)] at hQ
    refine ⟨fun q => by omega, fun _ => ?_⟩
    exact hQ
  · have hb0 := hab c
    rw [if_neg (by omega)] at hQ
    have hg : 0 < Nat.gcd a b := Nat.gcd_pos_of_pos_left _ (by omega)
    have hg2 : Nat.gcd a b ≤ a := Nat.le_of_dvd (by omega) (Nat.gcd_dvd_left a b)
    rw [Int.natCast_ediv, Int.natCast_ediv] at hQ
    refine ⟨fun _ => ?_, fun q => by omega⟩
    refine w_M_partOf_10 ?_
    simp (disch := omega) only [cm_,aq_,a1_,ay_,ag_,aj_,b8_,af_,bm_,ah_,ba_,bc_,b3_,c0_,bp_,bw_,b0_,bi_,br_,bz_,ac_,b2_,bq_,ed_,bs_,b6_,a2_,az_,a4_,aw_,dw_,d6_,ea_,d3_,bn_,b5_,d9_,d7_,fl_,fn_,fh_,fw_,fu_,fp_,fz_,fq_,fk_,fr_,f0_,c5_,bt_,bd_,c3_,ct_,cx_,co_,cr_,cz_,cj_,cf_,ch_,an_,cd_,a9_,a8_,a7_,ce_,Int.toNat_natCast,b9_,f3_,di_,dm_,dn_,en_,es_,eo_,er_,ep_,f2_,cc_,f1_,gv_,gu_,f4_,Int.add_zero,Int.zero_add,Int.ediv_one,Nat.reduceAdd,Nat.reduceMul,Int.reduceNeg,Nat.reduceLeDiff,List.length_cons,List.length_nil,true_and,and_true,Nat.zero_add,eq_self,Nat.reduceEqDiff,Int.reduceAdd,Int.reduceSub,Int.reduceMul,not_true_eq_false,not_false_eq_true,Nat.reduceLT,Int.reduceToNat,Int.reduceEq,Int.reduceNe,Int.reduceLT,Int.reduceLE,false_implies,true_implies]
    refine con_Mdivisor ha hb ?_
    simp (disch := omega) only [cm_,aq_,a1_,ay_,ag_,aj_,b8_,af_,bm_,ah_,ba_,bc_,b3_,c0_,bp_,bw_,b0_,bi_,br_,bz_,ac_,b2_,bq_,ed_,bs_,b6_,a2_,az_,a4_,aw_,dw_,d6_,ea_,d3_,bn_,b5_,d9_,d7_,fl_,fn_,fh_,fw_,fu_,fp_,fz_,fq_,fk_,fr_,f0_,c5_,bt_,bd_,c3_,ct_,cx_,co_,cr_,cz_,cj_,cf_,ch_,an_,cd_,a9_,a8_,a7_,ce_,Int.toNat_natCast,b9_,f3_,di_,dm_,dn_,en_,es_,eo_,er_,ep_,f2_,cc_,f1_,gv_,gu_,f4_,Int.add_zero,Int.zero_add,Int.ediv_one,Nat.reduceAdd,Nat.reduceMul,Int.reduceNeg,Nat.reduceLeDiff,List.length_cons,List.length_nil,true_and,and_true,Nat.zero_add,eq_self,Nat.reduceEqDiff,Int.reduceAdd,Int.reduceSub,Int.reduceMul,not_true_eq_false,not_false_eq_true,Nat.reduceLT,Int.reduceToNat,Int.reduceEq,Int.reduceNe,Int.reduceLT,Int.reduceLE,false_implies,true_implies]
    refine ⟨fun c2 => ?_, fun c2 => ?_⟩
    · rw [if_neg (by omega)] at hQ
      refine w_M_partOf_29 ?_
      simp (disch := omega) only [cm_,aq_,a1_,ay_,ag_,aj_,b8_,af_,bm_,ah_,ba_,bc_,b3_,c0_,bp_,bw_,b0_,bi_,br_,bz_,ac_,b2_,bq_,ed_,bs_,b6_,a2_,az_,a4_,aw_,dw_,d6_,ea_,d3_,bn_,b5_,d9_,d7_,fl_,fn_,fh_,fw_,fu_,fp_,fz_,fq_,fk_,fr_,f0_,c5_,bt_,bd_,c3_,ct_,cx_,co_,cr_,cz_,cj_,cf_,ch_,an_,cd_,a9_,a8_,a7_,ce_,Int.toNat_natCast,b9_,f3_,di_,dm_,dn_,en_,es_,eo_,er_,ep_,f2_,cc_,f1_,gv_,gu_,f4_,Int.add_zero,Int.zero_add,Int.ediv_one,Nat.reduceAdd,Nat.reduceMul,Int.reduceNeg,Nat.reduceLeDiff,List.length_cons,List.length_nil,true_and,and_true,Nat.zero_add,eq_self,Nat.reduceEqDiff,Int.reduceAdd,Int.reduceSub,Int.reduceMul,not_true_eq_false,not_false_eq_true,Nat.reduceLT,Int.reduceToNat,Int.reduceEq,Int.reduceNe,Int.reduceLT,Int.reduceLE,false_implies,true_implies]
      refine w_M_partOf_33 ?_
      simp (disch := omega) only [cm_,aq_,a1_,ay_,ag_,aj_,b8_,af_,bm_,ah_,ba_,bc_,b3_,c0_,bp_,bw_,b0_,bi_,br_,bz_,ac_,b2_,bq_,ed_,bs_,b6_,a2_,az_,a4_,aw_,dw_,d6_,ea_,d3_,bn_,b5_,d9_,d7_,fl_,fn_,fh_,fw_,fu_,fp_,fz_,fq_,fk_,fr_,f0_,c5_,bt_,bd_,c3_,ct_,cx_,co_,cr_,cz_,cj_,cf_,ch_,an_,cd_,a9_,a8_,a7_,ce_,Int.toNat_natCast,b9_,f3_,di_,dm_,dn_,en_,es_,eo_,er_,ep_,f2_,cc_,f1_,gv_,gu_,f4_,Int.add_zero,Int.zero_add,Int.ediv_one,Nat.reduceAdd,Nat.reduceMul,Int.reduceNeg,Nat.reduceLeDiff,List.length_cons,List.length_nil,true_and,and_true,Nat.zero_add,eq_self,Nat.reduceEqDiff,Int.reduceAdd,Int.reduceSub,Int.reduceMul,not_true_eq_false,not_false_eq_true,Nat.reduceLT,Int.reduceToNat,Int.reduceEq,Int.reduceNe,Int.reduceLT,Int.reduceLE,false_implies,true_implies]
      exact hQ
    · rw [if_pos (by omega)] at hQ
      refine w_M_partOf_33 ?_
      simp (disch := omega) only [cm_,aq_,a1_,ay_,ag_,aj_,b8_,af_,bm_,ah_,ba_,bc_,b3_,c0_,bp_,bw_,b0_,bi_,br_,bz_,ac_,b2_,bq_,ed_,bs_,b6_,a2_,az_,a4_,aw_,dw_,d6_,ea_,d3_,bn_,b5_,d9_,d7_,fl_,fn_,fh_,fw_,fu_,fp_,fz_,fq_,fk_,fr_,f0_,c5_,bt_,bd_,c3_,ct_,cx_,co_,cr_,cz_,cj_,cf_,ch_,an_,cd_,a9_,a8_,a7_,ce_,Int.toNat_natCast,b9_,f3_,di_,dm_,dn_,en_,es_,eo_,er_,ep_,f2_,cc_,f1_,gv_,gu_,f4_,Int.add_zero,Int.zero_add,Int.ediv_one,Nat.reduceAdd,Nat.reduceMul,Int.reduceNeg,Nat.reduceLeDiff,List.length_cons,List.length_nil,true_and,and_true,Nat.zero_add,eq_self,Nat.reduceEqDiff,Int.reduceAdd,Int.reduceSub,Int.reduceMul,not_true_eq_false,not_false_eq_true,Nat.reduceLT,Int.reduceToNat,Int.reduceEq,Int.reduceNe,Int.reduceLT,Int.reduceLE,false_implies,true_implies]
      exact hQ
end E27
def zroN (f : Nat) : Nat → Nat
  | 0 => 0
  | d + 1 => zroN f d + (if f.testBit d = true then 0 else 1)
theorem zro_eq {f n : Nat} (hn : n ≤ 7) (hf : f < 2 ^ n) : zroN f n = n - pop8 f := by
  have h : ∀ n : Fin 8, ∀ f : Fin 128, f.val < 2 ^ n.val → zroN f.val n.val = n.val - pop8 f.val := by decide +kernel
  have h2 : 2 ^ n ≤ 2 ^ 7 := Nat.pow_le_pow_right (by omega) hn
  exact h ⟨n, by omega⟩ ⟨f, by omega⟩ hf
theorem GI.fl {R : RR} (h : GI R) (f d : Nat) : GI (flR dayX R f d) := by
  induction d with
  | zero => exact h
  | succ d ih =>
    have := ih.1.snow
    simp only [flR]
    split
    · exact (ih.setSnow (by omega)).dX
    · exact ih.dX
section E28
variable {R I : RR} {im : Int} {P : Nat → RR} {pz : Int} {lt : Nat → Int} {lsz : Int} {tn : Nat → Int} {tsz : Int} {rf : Nat → Int} {bb h : AH} {Q : Option Value → AH → Prop}
theorem M_mean {w : Int} (hw : inI w) (hI : GI R)  (W : (MW R I im P pz lt lsz tn tsz rf bb h))
    (r2 : ¬ (w = 0 ∨ w = 1) → ∀ h, (MW R I im P pz lt lsz tn tsz (rfU rf 2) bb h) → Q (some (.long (zJ 4000000000000000002))) h)
    (ok : (w = 0 ∨ w = 1) → ∀ h, (MW R I im P pz lt lsz tn tsz rf bb h) → Q (some (.long (zJ (ltF (slAn (rSl R) (kgN R) (12 - kgN R)).toNat (12 - kgN R) w)))) h) : Con M_M_mean [.ref 90, .int (zI w)] h Q := by
  obtain ⟨a0, ib, sm, pl, lo, nu, kp, ig, p0, tk, ki, tu, tf, ga, sd, rfl, hIg, hTu, hPz⟩ := W
  have hG := hI.1
  obtain ⟨w1, w2⟩ := id hw
  have ka := hG.kg
  have kb := slAn_rng hG.sl (kgN R) (12 - kgN R)
  have k2 := fun q => r2 q _ ⟨a0, ib, sm, pl, lo, nu, kp, ig, p0, tk, ki, tu, tf, ga, sd, rfl, hIg, hTu, hPz⟩
  have kk := fun q => ok q _ ⟨a0, ib, sm, pl, lo, nu, kp, ig, p0, tk, ki, tu, tf, ga, sd, rfl, hIg, hTu, hPz⟩
  refine g8_ (L := [some (.ref 90), some (.int (zI w))]) ok_M_mean (Nat.le_of_ble_eq_true rfl) rfl ?_
  refine w_M_mean_0 ?_
  simp (disch := omega) only [cm_,aq_,a1_,ay_,ag_,aj_,b8_,af_,bm_,ah_,ba_,bc_,b3_,c0_,bp_,bw_,b0_,bi_,br_,bz_,ac_,b2_,bq_,ed_,bs_,b6_,a2_,az_,a4_,aw_,dw_,d6_,ea_,d3_,bn_,b5_,d9_,d7_,fl_,fn_,fh_,fw_,fu_,fp_,fz_,fq_,fk_,fr_,f0_,c5_,bt_,bd_,c3_,ct_,cx_,co_,cr_,cz_,cj_,cf_,ch_,an_,cd_,a9_,a8_,a7_,ce_,Int.toNat_natCast,b9_,f3_,di_,dm_,dn_,en_,es_,eo_,er_,ep_,f2_,cc_,f1_,gv_,gu_,f4_,Int.add_zero,Int.zero_add,Int.ediv_one,Nat.reduceAdd,Nat.reduceMul,Int.reduceNeg,Nat.reduceLeDiff,List.length_cons,List.length_nil,true_and,and_true,Nat.zero_add,eq_self,Nat.reduceEqDiff,Int.reduceAdd,Int.reduceSub,Int.reduceMul,not_true_eq_false,not_false_eq_true,Nat.reduceLT,Int.reduceToNat,Int.reduceEq,Int.reduceNe,Int.reduceLT,Int.reduceLE,false_implies,true_implies]
  refine con_Min hw (by unfold inI; omega) (by unfold inI; omega) (fun c => ?_) (fun c => ?_)
  · have kk := kk (by omega)
    have z0 : kgN R = 12 → slAn (rSl R) (kgN R) (12 - kgN R) = 0 := by
      intro q
      rw [q]
      rfl
    simp (disch := omega) only [cm_,aq_,a1_,ay_,ag_,aj_,b8_,af_,bm_,ah_,ba_,bc_,b3_,c0_,bp_,bw_,b0_,bi_,br_,bz_,ac_,b2_,bq_,ed_,bs_,b6_,a2_,az_,a4_,aw_,dw_,d6_,ea_,d3_,bn_,b5_,d9_,d7_,fl_,fn_,fh_,fw_,fu_,fp_,fz_,fq_,fk_,fr_,f0_,c5_,bt_,bd_,c3_,ct_,cx_,co_,cr_,cz_,cj_,cf_,ch_,an_,cd_,a9_,a8_,a7_,ce_,Int.toNat_natCast,b9_,f3_,di_,dm_,dn_,en_,es_,eo_,er_,ep_,f2_,cc_,f1_,gv_,gu_,f4_,Int.add_zero,Int.zero_add,Int.ediv_one,Nat.reduceAdd,Nat.reduceMul,Int.reduceNeg,Nat.reduceLeDiff,List.length_cons,List.length_nil,true_and,and_true,Nat.zero_add,eq_self,Nat.reduceEqDiff,Int.reduceAdd,Int.reduceSub,Int.reduceMul,not_true_eq_false,not_false_eq_true,Nat.reduceLT,Int.reduceToNat,Int.reduceEq,Int.reduceNe,Int.reduceLT,Int.reduceLE,false_implies,true_implies]
    refine con_MslopesLeft hG ?_
    simp (disch := omega) only [cm_,aq_,a1_,ay_,ag_,aj_,b8_,af_,bm_,ah_,ba_,bc_,b3_,c0_,bp_,bw_,b0_,bi_,br_,bz_,ac_,b2_,bq_,ed_,bs_,b6_,a2_,az_,a4_,aw_,dw_,d6_,ea_,d3_,bn_,b5_,d9_,d7_,fl_,fn_,fh_,fw_,fu_,fp_,fz_,fq_,fk_,fr_,f0_,c5_,bt_,bd_,c3_,ct_,cx_,co_,cr_,cz_,cj_,cf_,ch_,an_,cd_,a9_,a8_,a7_,ce_,Int.toNat_natCast,b9_,f3_,di_,dm_,dn_,en_,es_,eo_,er_,ep_,f2_,cc_,f1_,gv_,gu_,f4_,Int.add_zero,Int.zero_add,Int.ediv_one,Nat.reduceAdd,Nat.reduceMul,Int.reduceNeg,Nat.reduceLeDiff,List.length_cons,List.length_nil,true_and,and_true,Nat.zero_add,eq_self,Nat.reduceEqDiff,Int.reduceAdd,Int.reduceSub,Int.reduceMul,not_true_eq_false,not_false_eq_true,Nat.reduceLT,Int.reduceToNat,Int.reduceEq,Int.reduceNe,Int.reduceLT,Int.reduceLE,false_implies,true_implies]
    rw [show slAn (rSl R) (kgN R) (12 - kgN R) = ((slAn (rSl R) (kgN R) (12 - kgN R)).toNat : Int) by omega, show 12 - hd_ R = ((12 - kgN R : Nat) : Int) by omega]
    refine con_MpartOf (by omega) (by omega) (by omega) (fun q => by omega) ?_
    simp (disch := omega) only [cm_,aq_,a1_,ay_,ag_,aj_,b8_,af_,bm_,ah_,ba_,bc_,b3_,c0_,bp_,bw_,b0_,bi_,br_,bz_,ac_,b2_,bq_,ed_,bs_,b6_,a2_,az_,a4_,aw_,dw_,d6_,ea_,d3_,bn_,b5_,d9_,d7_,fl_,fn_,fh_,fw_,fu_,fp_,fz_,fq_,fk_,fr_,f0_,c5_,bt_,bd_,c3_,ct_,cx_,co_,cr_,cz_,cj_,cf_,ch_,an_,cd_,a9_,a8_,a7_,ce_,Int.toNat_natCast,b9_,f3_,di_,dm_,dn_,en_,es_,eo_,er_,ep_,f2_,cc_,f1_,gv_,gu_,f4_,Int.add_zero,Int.zero_add,Int.ediv_one,Nat.reduceAdd,Nat.reduceMul,Int.reduceNeg,Nat.reduceLeDiff,List.length_cons,List.length_nil,true_and,and_true,Nat.zero_add,eq_self,Nat.reduceEqDiff,Int.reduceAdd,Int.reduceSub,Int.reduceMul,not_true_eq_false,not_false_eq_true,Nat.reduceLT,Int.reduceToNat,Int.reduceEq,Int.reduceNe,Int.reduceLT,Int.reduceLE,false_implies,true_implies]
    refine w_M_mean_46 ?_
    simp (disch := omega) only [cm_,aq_,a1_,ay_,ag_,aj_,b8_,af_,bm_,ah_,ba_,bc_,b3_,c0_,bp_,bw_,b0_,bi_,br_,bz_,ac_,b2_,bq_,ed_,bs_,b6_,a2_,az_,a4_,aw_,dw_,d6_,ea_,d3_,bn_,b5_,d9_,d7_,fl_,fn_,fh_,fw_,fu_,fp_,fz_,fq_,fk_,fr_,f0_,c5_,bt_,bd_,c3_,ct_,cx_,co_,cr_,cz_,cj_,cf_,ch_,an_,cd_,a9_,a8_,a7_,ce_,Int.toNat_natCast,b9_,f3_,di_,dm_,dn_,en_,es_,eo_,er_,ep_,f2_,cc_,f1_,gv_,gu_,f4_,Int.add_zero,Int.zero_add,Int.ediv_one,Nat.reduceAdd,Nat.reduceMul,Int.reduceNeg,Nat.reduceLeDiff,List.length_cons,List.length_nil,true_and,and_true,Nat.zero_add,eq_self,Nat.reduceEqDiff,Int.reduceAdd,Int.reduceSub,Int.reduceMul,not_true_eq_false,not_false_eq_true,Nat.reduceLT,Int.reduceToNat,Int.reduceEq,Int.reduceNe,Int.reduceLT,Int.reduceLE,false_implies,true_implies]
    exact kk
  · simp (disch := omega) only [cm_,aq_,a1_,ay_,ag_,aj_,b8_,af_,bm_,ah_,ba_,bc_,b3_,c0_,bp_,bw_,b0_,bi_,br_,bz_,ac_,b2_,bq_,ed_,bs_,b6_,a2_,az_,a4_,aw_,dw_,d6_,ea_,d3_,bn_,b5_,d9_,d7_,fl_,fn_,fh_,fw_,fu_,fp_,fz_,fq_,fk_,fr_,f0_,c5_,bt_,bd_,c3_,ct_,cx_,co_,cr_,cz_,cj_,cf_,ch_,an_,cd_,a9_,a8_,a7_,ce_,Int.toNat_natCast,b9_,f3_,di_,dm_,dn_,en_,es_,eo_,er_,ep_,f2_,cc_,f1_,gv_,gu_,f4_,Int.add_zero,Int.zero_add,Int.ediv_one,Nat.reduceAdd,Nat.reduceMul,Int.reduceNeg,Nat.reduceLeDiff,List.length_cons,List.length_nil,true_and,and_true,Nat.zero_add,eq_self,Nat.reduceEqDiff,Int.reduceAdd,Int.reduceSub,Int.reduceMul,not_true_eq_false,not_false_eq_true,Nat.reduceLT,Int.reduceToNat,Int.reduceEq,Int.reduceNe,Int.reduceLT,Int.reduceLE,false_implies,true_implies]
    refine w_M_mean_35 ?_
    simp (disch := omega) only [cm_,aq_,a1_,ay_,ag_,aj_,b8_,af_,bm_,ah_,ba_,bc_,b3_,c0_,bp_,bw_,b0_,bi_,br_,bz_,ac_,b2_,bq_,ed_,bs_,b6_,a2_,az_,a4_,aw_,dw_,d6_,ea_,d3_,bn_,b5_,d9_,d7_,fl_,fn_,fh_,fw_,fu_,fp_,fz_,fq_,fk_,fr_,f0_,c5_,bt_,bd_,c3_,ct_,cx_,co_,cr_,cz_,cj_,cf_,ch_,an_,cd_,a9_,a8_,a7_,ce_,Int.toNat_natCast,b9_,f3_,di_,dm_,dn_,en_,es_,eo_,er_,ep_,f2_,cc_,f1_,gv_,gu_,f4_,Int.add_zero,Int.zero_add,Int.ediv_one,Nat.reduceAdd,Nat.reduceMul,Int.reduceNeg,Nat.reduceLeDiff,List.length_cons,List.length_nil,true_and,and_true,Nat.zero_add,eq_self,Nat.reduceEqDiff,Int.reduceAdd,Int.reduceSub,Int.reduceMul,not_true_eq_false,not_false_eq_true,Nat.reduceLT,Int.reduceToNat,Int.reduceEq,Int.reduceNe,Int.reduceLT,Int.reduceLE,false_implies,true_implies]
    refine con_Mrefuse (k := 2) (by omega) ?_
    simp (disch := omega) only [cm_,aq_,a1_,ay_,ag_,aj_,b8_,af_,bm_,ah_,ba_,bc_,b3_,c0_,bp_,bw_,b0_,bi_,br_,bz_,ac_,b2_,bq_,ed_,bs_,b6_,a2_,az_,a4_,aw_,dw_,d6_,ea_,d3_,bn_,b5_,d9_,d7_,fl_,fn_,fh_,fw_,fu_,fp_,fz_,fq_,fk_,fr_,f0_,c5_,bt_,bd_,c3_,ct_,cx_,co_,cr_,cz_,cj_,cf_,ch_,an_,cd_,a9_,a8_,a7_,ce_,Int.toNat_natCast,b9_,f3_,di_,dm_,dn_,en_,es_,eo_,er_,ep_,f2_,cc_,f1_,gv_,gu_,f4_,Int.add_zero,Int.zero_add,Int.ediv_one,Nat.reduceAdd,Nat.reduceMul,Int.reduceNeg,Nat.reduceLeDiff,List.length_cons,List.length_nil,true_and,and_true,Nat.zero_add,eq_self,Nat.reduceEqDiff,Int.reduceAdd,Int.reduceSub,Int.reduceMul,not_true_eq_false,not_false_eq_true,Nat.reduceLT,Int.reduceToNat,Int.reduceEq,Int.reduceNe,Int.reduceLT,Int.reduceLE,false_implies,true_implies]
    refine w_M_mean_46 ?_
    simp (disch := omega) only [cm_,aq_,a1_,ay_,ag_,aj_,b8_,af_,bm_,ah_,ba_,bc_,b3_,c0_,bp_,bw_,b0_,bi_,br_,bz_,ac_,b2_,bq_,ed_,bs_,b6_,a2_,az_,a4_,aw_,dw_,d6_,ea_,d3_,bn_,b5_,d9_,d7_,fl_,fn_,fh_,fw_,fu_,fp_,fz_,fq_,fk_,fr_,f0_,c5_,bt_,bd_,c3_,ct_,cx_,co_,cr_,cz_,cj_,cf_,ch_,an_,cd_,a9_,a8_,a7_,ce_,Int.toNat_natCast,b9_,f3_,di_,dm_,dn_,en_,es_,eo_,er_,ep_,f2_,cc_,f1_,gv_,gu_,f4_,Int.add_zero,Int.zero_add,Int.ediv_one,Nat.reduceAdd,Nat.reduceMul,Int.reduceNeg,Nat.reduceLeDiff,List.length_cons,List.length_nil,true_and,and_true,Nat.zero_add,eq_self,Nat.reduceEqDiff,Int.reduceAdd,Int.reduceSub,Int.reduceMul,not_true_eq_false,not_false_eq_true,Nat.reduceLT,Int.reduceToNat,Int.reduceEq,Int.reduceNe,Int.reduceLT,Int.reduceLE,false_implies,true_implies]
    exact k2 (by omega)
theorem M_falls {n t v w : Int} (hn : inI n) (ht : inI t) (hv : inI v) (hw : inI w) (hI : GI R)  (W : (MW R I im P pz lt lsz tn tsz rf bb h))
    (r4 : (n < 0 ∨ t < 2 ∨ v < 0) → ∀ h, (MW R I im P pz lt lsz tn tsz (rfU rf 4) bb h) → Q (some (.long (zJ 4000000000000000004))) h)
    (r6 : ¬ (n < 0 ∨ t < 2 ∨ v < 0) → (7 < n ∨ 20 < t ∨ 12 < v) → ∀ h, (MW R I im P pz lt lsz tn tsz (rfU rf 6) bb h) → Q (some (.long (zJ 4000000000000000006))) h)
    (r2 : ¬ (n < 0 ∨ t < 2 ∨ v < 0) → ¬ (7 < n ∨ 20 < t ∨ 12 < v) → ¬ (w = 0 ∨ w = 1) → ∀ h, (MW R I im P pz lt lsz tn tsz (rfU rf 2) bb h) → Q (some (.long (zJ 4000000000000000002))) h)
    (ok : ¬ (n < 0 ∨ t < 2 ∨ v < 0) → ¬ (7 < n ∨ 20 < t ∨ 12 < v) → (w = 0 ∨ w = 1) → ∀ h, (MW R I im P pz lt lsz tn tsz rf bb h) → Q (some (.long (zJ (ltF (wyN dayX R n.toNat t v (2 ^ n.toNat)).toNat (t.toNat ^ n.toNat) w)))) h) : Con M_M_falls [.ref 90, .int (zI n), .int (zI t), .int (zI v), .int (zI w)] h Q := by
  obtain ⟨a0, ib, sm, pl, lo, nu, kp, ig, p0, tk, ki, tu, tf, ga, sd, rfl, hIg, hTu, hPz⟩ := W
  have hG := hI.1
  obtain ⟨n1, n2⟩ := id hn
  obtain ⟨t1, t2⟩ := id ht
  obtain ⟨v1, v2⟩ := id hv
  have k4 := fun q => r4 q _ ⟨a0, ib, sm, pl, lo, nu, kp, ig, p0, tk, ki, tu, tf, ga, sd, rfl, hIg, hTu, hPz⟩
  have k6 := fun q q2 => r6 q q2 _ ⟨a0, ib, sm, pl, lo, nu, kp, ig, p0, tk, ki, tu, tf, ga, sd, rfl, hIg, hTu, hPz⟩
  have k2 := fun q q2 q3 => r2 q q2 q3 _ ⟨a0, ib, sm, pl, lo, nu, kp, ig, p0, tk, ki, tu, tf, ga, sd, rfl, hIg, hTu, hPz⟩
  refine g8_ (L := [some (.ref 90), some (.int (zI n)), some (.int (zI t)), some (.int (zI v)), some (.int (zI w)), none, none, none, none, none, none, none, none, none]) ok_M_falls (Nat.le_of_ble_eq_true rfl) rfl ?_
  refine w_M_falls_0 ?_
  by_cases c4 : n < 0 ∨ t < 2 ∨ v < 0
  · have go : J M_M_falls 18 [some (.ref 90), some (.int (zI n)), some (.int (zI t)), some (.int (zI v)), some (.int (zI w)), none, none, none, none, none, none, none, none, none] [] (HM R rf lt lsz a0 ib sm pl lo nu kp ig (im) p0 tk ki tu (pz) tf tn tsz ga sd bb) Q := by
      refine w_M_falls_18 ?_
      simp (disch := omega) only [cm_,aq_,a1_,ay_,ag_,aj_,b8_,af_,bm_,ah_,ba_,bc_,b3_,c0_,bp_,bw_,b0_,bi_,br_,bz_,ac_,b2_,bq_,ed_,bs_,b6_,a2_,az_,a4_,aw_,dw_,d6_,ea_,d3_,bn_,b5_,d9_,d7_,fl_,fn_,fh_,fw_,fu_,fp_,fz_,fq_,fk_,fr_,f0_,c5_,bt_,bd_,c3_,ct_,cx_,co_,cr_,cz_,cj_,cf_,ch_,an_,cd_,a9_,a8_,a7_,ce_,Int.toNat_natCast,b9_,f3_,di_,dm_,dn_,en_,es_,eo_,er_,ep_,f2_,cc_,f1_,gv_,gu_,f4_,Int.add_zero,Int.zero_add,Int.ediv_one,Nat.reduceAdd,Nat.reduceMul,Int.reduceNeg,Nat.reduceLeDiff,List.length_cons,List.length_nil,true_and,and_true,Nat.zero_add,eq_self,Nat.reduceEqDiff,Int.reduceAdd,Int.reduceSub,Int.reduceMul,not_true_eq_false,not_false_eq_true,Nat.reduceLT,Int.reduceToNat,Int.reduceEq,Int.reduceNe,Int.reduceLT,Int.reduceLE,false_implies,true_implies]
      refine w_M_falls_47 ?_
      simp (disch := omega) only [cm_,aq_,a1_,ay_,ag_,aj_,b8_,af_,bm_,ah_,ba_,bc_,b3_,c0_,bp_,bw_,b0_,bi_,br_,bz_,ac_,b2_,bq_,ed_,bs_,b6_,a2_,az_,a4_,aw_,dw_,d6_,ea_,d3_,bn_,b5_,d9_,d7_,fl_,fn_,fh_,fw_,fu_,fp_,fz_,fq_,fk_,fr_,f0_,c5_,bt_,bd_,c3_,ct_,cx_,co_,cr_,cz_,cj_,cf_,ch_,an_,cd_,a9_,a8_,a7_,ce_,Int.toNat_natCast,b9_,f3_,di_,dm_,dn_,en_,es_,eo_,er_,ep_,f2_,cc_,f1_,gv_,gu_,f4_,Int.add_zero,Int.zero_add,Int.ediv_one,Nat.reduceAdd,Nat.reduceMul,Int.reduceNeg,Nat.reduceLeDiff,List.length_cons,List.length_nil,true_and,and_true,Nat.zero_add,eq_self,Nat.reduceEqDiff,Int.reduceAdd,Int.reduceSub,Int.reduceMul,not_true_eq_false,not_false_eq_true,Nat.reduceLT,Int.reduceToNat,Int.reduceEq,Int.reduceNe,Int.reduceLT,Int.reduceLE,false_implies,true_implies]
      refine con_MwrongBit (by unfold inI; omega) hw (by unfold inI; omega) (fun q => by omega) (fun _ => ?_)
      simp (disch := omega) only [cm_,aq_,a1_,ay_,ag_,aj_,b8_,af_,bm_,ah_,ba_,bc_,b3_,c0_,bp_,bw_,b0_,bi_,br_,bz_,ac_,b2_,bq_,ed_,bs_,b6_,a2_,az_,a4_,aw_,dw_,d6_,ea_,d3_,bn_,b5_,d9_,d7_,fl_,fn_,fh_,fw_,fu_,fp_,fz_,fq_,fk_,fr_,f0_,c5_,bt_,bd_,c3_,ct_,cx_,co_,cr_,cz_,cj_,cf_,ch_,an_,cd_,a9_,a8_,a7_,ce_,Int.toNat_natCast,b9_,f3_,di_,dm_,dn_,en_,es_,eo_,er_,ep_,f2_,cc_,f1_,gv_,gu_,f4_,Int.add_zero,Int.zero_add,Int.ediv_one,Nat.reduceAdd,Nat.reduceMul,Int.reduceNeg,Nat.reduceLeDiff,List.length_cons,List.length_nil,true_and,and_true,Nat.zero_add,eq_self,Nat.reduceEqDiff,Int.reduceAdd,Int.reduceSub,Int.reduceMul,not_true_eq_false,not_false_eq_true,Nat.reduceLT,Int.reduceToNat,Int.reduceEq,Int.reduceNe,Int.reduceLT,Int.reduceLE,false_implies,true_implies]
      refine con_Mrefuse (k := 4) (by omega) ?_
      simp (disch := omega) only [cm_,aq_,a1_,ay_,ag_,aj_,b8_,af_,bm_,ah_,ba_,bc_,b3_,c0_,bp_,bw_,b0_,bi_,br_,bz_,ac_,b2_,bq_,ed_,bs_,b6_,a2_,az_,a4_,aw_,dw_,d6_,ea_,d3_,bn_,b5_,d9_,d7_,fl_,fn_,fh_,fw_,fu_,fp_,fz_,fq_,fk_,fr_,f0_,c5_,bt_,bd_,c3_,ct_,cx_,co_,cr_,cz_,cj_,cf_,ch_,an_,cd_,a9_,a8_,a7_,ce_,Int.toNat_natCast,b9_,f3_,di_,dm_,dn_,en_,es_,eo_,er_,ep_,f2_,cc_,f1_,gv_,gu_,f4_,Int.add_zero,Int.zero_add,Int.ediv_one,Nat.reduceAdd,Nat.reduceMul,Int.reduceNeg,Nat.reduceLeDiff,List.length_cons,List.length_nil,true_and,and_true,Nat.zero_add,eq_self,Nat.reduceEqDiff,Int.reduceAdd,Int.reduceSub,Int.reduceMul,not_true_eq_false,not_false_eq_true,Nat.reduceLT,Int.reduceToNat,Int.reduceEq,Int.reduceNe,Int.reduceLT,Int.reduceLE,false_implies,true_implies]
      exact k4 c4
    simp (disch := omega) only [cm_,aq_,a1_,ay_,ag_,aj_,b8_,af_,bm_,ah_,ba_,bc_,b3_,c0_,bp_,bw_,b0_,bi_,br_,bz_,ac_,b2_,bq_,ed_,bs_,b6_,a2_,az_,a4_,aw_,dw_,d6_,ea_,d3_,bn_,b5_,d9_,d7_,fl_,fn_,fh_,fw_,fu_,fp_,fz_,fq_,fk_,fr_,f0_,c5_,bt_,bd_,c3_,ct_,cx_,co_,cr_,cz_,cj_,cf_,ch_,an_,cd_,a9_,a8_,a7_,ce_,Int.toNat_natCast,b9_,f3_,di_,dm_,dn_,en_,es_,eo_,er_,ep_,f2_,cc_,f1_,gv_,gu_,f4_,Int.add_zero,Int.zero_add,Int.ediv_one,Nat.reduceAdd,Nat.reduceMul,Int.reduceNeg,Nat.reduceLeDiff,List.length_cons,List.length_nil,true_and,and_true,Nat.zero_add,eq_self,Nat.reduceEqDiff,Int.reduceAdd,Int.reduceSub,Int.reduceMul,not_true_eq_false,not_false_eq_true,Nat.reduceLT,Int.reduceToNat,Int.reduceEq,Int.reduceNe,Int.reduceLT,Int.reduceLE,false_implies,true_implies]
    refine ⟨fun _ => go, fun _ => ⟨fun _ => go, fun _ => ⟨fun _ => by omega, fun _ => go⟩⟩⟩
  · by_cases c6 : 7 < n ∨ 20 < t ∨ 12 < v
    · have go : J M_M_falls 41 [some (.ref 90), some (.int (zI n)), some (.int (zI t)), some (.int (zI v)), some (.int (zI w)), none, none, none, none, none, none, none, none, none] [] (HM R rf lt lsz a0 ib sm pl lo nu kp ig (im) p0 tk ki tu (pz) tf tn tsz ga sd bb) Q := by
        refine w_M_falls_41 ?_
        simp (disch := omega) only [cm_,aq_,a1_,ay_,ag_,aj_,b8_,af_,bm_,ah_,ba_,bc_,b3_,c0_,bp_,bw_,b0_,bi_,br_,bz_,ac_,b2_,bq_,ed_,bs_,b6_,a2_,az_,a4_,aw_,dw_,d6_,ea_,d3_,bn_,b5_,d9_,d7_,fl_,fn_,fh_,fw_,fu_,fp_,fz_,fq_,fk_,fr_,f0_,c5_,bt_,bd_,c3_,ct_,cx_,co_,cr_,cz_,cj_,cf_,ch_,an_,cd_,a9_,a8_,a7_,ce_,Int.toNat_natCast,b9_,f3_,di_,dm_,dn_,en_,es_,eo_,er_,ep_,f2_,cc_,f1_,gv_,gu_,f4_,Int.add_zero,Int.zero_add,Int.ediv_one,Nat.reduceAdd,Nat.reduceMul,Int.reduceNeg,Nat.reduceLeDiff,List.length_cons,List.length_nil,true_and,and_true,Nat.zero_add,eq_self,Nat.reduceEqDiff,Int.reduceAdd,Int.reduceSub,Int.reduceMul,not_true_eq_false,not_false_eq_true,Nat.reduceLT,Int.reduceToNat,Int.reduceEq,Int.reduceNe,Int.reduceLT,Int.reduceLE,false_implies,true_implies]
        refine w_M_falls_47 ?_
        simp (disch := omega) only [cm_,aq_,a1_,ay_,ag_,aj_,b8_,af_,bm_,ah_,ba_,bc_,b3_,c0_,bp_,bw_,b0_,bi_,br_,bz_,ac_,b2_,bq_,ed_,bs_,b6_,a2_,az_,a4_,aw_,dw_,d6_,ea_,d3_,bn_,b5_,d9_,d7_,fl_,fn_,fh_,fw_,fu_,fp_,fz_,fq_,fk_,fr_,f0_,c5_,bt_,bd_,c3_,ct_,cx_,co_,cr_,cz_,cj_,cf_,ch_,an_,cd_,a9_,a8_,a7_,ce_,Int.toNat_natCast,b9_,f3_,di_,dm_,dn_,en_,es_,eo_,er_,ep_,f2_,cc_,f1_,gv_,gu_,f4_,Int.add_zero,Int.zero_add,Int.ediv_one,Nat.reduceAdd,Nat.reduceMul,Int.reduceNeg,Nat.reduceLeDiff,List.length_cons,List.length_nil,true_and,and_true,Nat.zero_add,eq_self,Nat.reduceEqDiff,Int.reduceAdd,Int.reduceSub,Int.reduceMul,not_true_eq_false,not_false_eq_true,Nat.reduceLT,Int.reduceToNat,Int.reduceEq,Int.reduceNe,Int.reduceLT,Int.reduceLE,false_implies,true_implies]
        refine con_MwrongBit (by unfold inI; omega) hw (by unfold inI; omega) (fun q => by omega) (fun _ => ?_)
        simp (disch := omega) only [cm_,aq_,a1_,ay_,ag_,aj_,b8_,af_,bm_,ah_,ba_,bc_,b3_,c0_,bp_,bw_,b0_,bi_,br_,bz_,ac_,b2_,bq_,ed_,bs_,b6_,a2_,az_,a4_,aw_,dw_,d6_,ea_,d3_,bn_,b5_,d9_,d7_,fl_,fn_,fh_,fw_,fu_,fp_,fz_,fq_,fk_,fr_,f0_,c5_,bt_,bd_,c3_,ct_,cx_,co_,cr_,cz_,cj_,cf_,ch_,an_,cd_,a9_,a8_,a7_,ce_,Int.toNat_natCast,b9_,f3_,di_,dm_,dn_,en_,es_,eo_,er_,ep_,f2_,cc_,f1_,gv_,gu_,f4_,Int.add_zero,Int.zero_add,Int.ediv_one,Nat.reduceAdd,Nat.reduceMul,Int.reduceNeg,Nat.reduceLeDiff,List.length_cons,List.length_nil,true_and,and_true,Nat.zero_add,eq_self,Nat.reduceEqDiff,Int.reduceAdd,Int.reduceSub,Int.reduceMul,not_true_eq_false,not_false_eq_true,Nat.reduceLT,Int.reduceToNat,Int.reduceEq,Int.reduceNe,Int.reduceLT,Int.reduceLE,false_implies,true_implies]
        refine con_Mrefuse (k := 6) (by omega) ?_
        simp (disch := omega) only [cm_,aq_,a1_,ay_,ag_,aj_,b8_,af_,bm_,ah_,ba_,bc_,b3_,c0_,bp_,bw_,b0_,bi_,br_,bz_,ac_,b2_,bq_,ed_,bs_,b6_,a2_,az_,a4_,aw_,dw_,d6_,ea_,d3_,bn_,b5_,d9_,d7_,fl_,fn_,fh_,fw_,fu_,fp_,fz_,fq_,fk_,fr_,f0_,c5_,bt_,bd_,c3_,ct_,cx_,co_,cr_,cz_,cj_,cf_,ch_,an_,cd_,a9_,a8_,a7_,ce_,Int.toNat_natCast,b9_,f3_,di_,dm_,dn_,en_,es_,eo_,er_,ep_,f2_,cc_,f1_,gv_,gu_,f4_,Int.add_zero,Int.zero_add,Int.ediv_one,Nat.reduceAdd,Nat.reduceMul,Int.reduceNeg,Nat.reduceLeDiff,List.length_cons,List.length_nil,true_and,and_true,Nat.zero_add,eq_self,Nat.reduceEqDiff,Int.reduceAdd,Int.reduceSub,Int.reduceMul,not_true_eq_false,not_false_eq_true,Nat.reduceLT,Int.reduceToNat,Int.reduceEq,Int.reduceNe,Int.reduceLT,Int.reduceLE,false_implies,true_implies]
        exact k6 c4 c6
      simp (disch := omega) only [cm_,aq_,a1_,ay_,ag_,aj_,b8_,af_,bm_,ah_,ba_,bc_,b3_,c0_,bp_,bw_,b0_,bi_,br_,bz_,ac_,b2_,bq_,ed_,bs_,b6_,a2_,az_,a4_,aw_,dw_,d6_,ea_,d3_,bn_,b5_,d9_,d7_,fl_,fn_,fh_,fw_,fu_,fp_,fz_,fq_,fk_,fr_,f0_,c5_,bt_,bd_,c3_,ct_,cx_,co_,cr_,cz_,cj_,cf_,ch_,an_,cd_,a9_,a8_,a7_,ce_,Int.toNat_natCast,b9_,f3_,di_,dm_,dn_,en_,es_,eo_,er_,ep_,f2_,cc_,f1_,gv_,gu_,f4_,Int.add_zero,Int.zero_add,Int.ediv_one,Nat.reduceAdd,Nat.reduceMul,Int.reduceNeg,Nat.reduceLeDiff,List.length_cons,List.length_nil,true_and,and_true,Nat.zero_add,eq_self,Nat.reduceEqDiff,Int.reduceAdd,Int.reduceSub,Int.reduceMul,not_true_eq_false,not_false_eq_true,Nat.reduceLT,Int.reduceToNat,Int.reduceEq,Int.reduceNe,Int.reduceLT,Int.reduceLE,false_implies,true_implies]
      refine ⟨fun _ => by omega, fun _ => ⟨fun _ => by omega, fun _ => ⟨fun _ => ?_, fun _ => by omega⟩⟩⟩
      refine w_M_falls_23 ?_
      simp (disch := omega) only [cm_,aq_,a1_,ay_,ag_,aj_,b8_,af_,bm_,ah_,ba_,bc_,b3_,c0_,bp_,bw_,b0_,bi_,br_,bz_,ac_,b2_,bq_,ed_,bs_,b6_,a2_,az_,a4_,aw_,dw_,d6_,ea_,d3_,bn_,b5_,d9_,d7_,fl_,fn_,fh_,fw_,fu_,fp_,fz_,fq_,fk_,fr_,f0_,c5_,bt_,bd_,c3_,ct_,cx_,co_,cr_,cz_,cj_,cf_,ch_,an_,cd_,a9_,a8_,a7_,ce_,Int.toNat_natCast,b9_,f3_,di_,dm_,dn_,en_,es_,eo_,er_,ep_,f2_,cc_,f1_,gv_,gu_,f4_,Int.add_zero,Int.zero_add,Int.ediv_one,Nat.reduceAdd,Nat.reduceMul,Int.reduceNeg,Nat.reduceLeDiff,List.length_cons,List.length_nil,true_and,and_true,Nat.zero_add,eq_self,Nat.reduceEqDiff,Int.reduceAdd,Int.reduceSub,Int.reduceMul,not_true_eq_false,not_false_eq_true,Nat.reduceLT,Int.reduceToNat,Int.reduceEq,Int.reduceNe,Int.reduceLT,Int.reduceLE,false_implies,true_implies]
      refine ⟨fun _ => go, fun _ => ⟨fun _ => go, fun _ => ⟨fun _ => by omega, fun _ => go⟩⟩⟩
    · have k2 := k2 c4 c6
      have ok := ok c4 c6
      simp (disch := omega) only [cm_,aq_,a1_,ay_,ag_,aj_,b8_,af_,bm_,ah_,ba_,bc_,b3_,c0_,bp_,bw_,b0_,bi_,br_,bz_,ac_,b2_,bq_,ed_,bs_,b6_,a2_,az_,a4_,aw_,dw_,d6_,ea_,d3_,bn_,b5_,d9_,d7_,fl_,fn_,fh_,fw_,fu_,fp_,fz_,fq_,fk_,fr_,f0_,c5_,bt_,bd_,c3_,ct_,cx_,co_,cr_,cz_,cj_,cf_,ch_,an_,cd_,a9_,a8_,a7_,ce_,Int.toNat_natCast,b9_,f3_,di_,dm_,dn_,en_,es_,eo_,er_,ep_,f2_,cc_,f1_,gv_,gu_,f4_,Int.add_zero,Int.zero_add,Int.ediv_one,Nat.reduceAdd,Nat.reduceMul,Int.reduceNeg,Nat.reduceLeDiff,List.length_cons,List.length_nil,true_and,and_true,Nat.zero_add,eq_self,Nat.reduceEqDiff,Int.reduceAdd,Int.reduceSub,Int.reduceMul,not_true_eq_false,not_false_eq_true,Nat.reduceLT,Int.reduceToNat,Int.reduceEq,Int.reduceNe,Int.reduceLT,Int.reduceLE,false_implies,true_implies]
      refine ⟨fun _ => by omega, fun _ => ⟨fun _ => by omega, fun _ => ⟨fun _ => ?_, fun _ => by omega⟩⟩⟩
      refine w_M_falls_23 ?_
      simp (disch := omega) only [cm_,aq_,a1_,ay_,ag_,aj_,b8_,af_,bm_,ah_,ba_,bc_,b3_,c0_,bp_,bw_,b0_,bi_,br_,bz_,ac_,b2_,bq_,ed_,bs_,b6_,a2_,az_,a4_,aw_,dw_,d6_,ea_,d3_,bn_,b5_,d9_,d7_,fl_,fn_,fh_,fw_,fu_,fp_,fz_,fq_,fk_,fr_,f0_,c5_,bt_,bd_,c3_,ct_,cx_,co_,cr_,cz_,cj_,cf_,ch_,an_,cd_,a9_,a8_,a7_,ce_,Int.toNat_natCast,b9_,f3_,di_,dm_,dn_,en_,es_,eo_,er_,ep_,f2_,cc_,f1_,gv_,gu_,f4_,Int.add_zero,Int.zero_add,Int.ediv_one,Nat.reduceAdd,Nat.reduceMul,Int.reduceNeg,Nat.reduceLeDiff,List.length_cons,List.length_nil,true_and,and_true,Nat.zero_add,eq_self,Nat.reduceEqDiff,Int.reduceAdd,Int.reduceSub,Int.reduceMul,not_true_eq_false,not_false_eq_true,Nat.reduceLT,Int.reduceToNat,Int.reduceEq,Int.reduceNe,Int.reduceLT,Int.reduceLE,false_implies,true_implies]
      refine ⟨fun _ => by omega, fun _ => ⟨fun _ => by omega, fun _ => ⟨fun _ => ?_, fun _ => by omega⟩⟩⟩
      refine w_M_falls_46 ?_
      simp (disch := omega) only [cm_,aq_,a1_,ay_,ag_,aj_,b8_,af_,bm_,ah_,ba_,bc_,b3_,c0_,bp_,bw_,b0_,bi_,br_,bz_,ac_,b2_,bq_,ed_,bs_,b6_,a2_,az_,a4_,aw_,dw_,d6_,ea_,d3_,bn_,b5_,d9_,d7_,fl_,fn_,fh_,fw_,fu_,fp_,fz_,fq_,fk_,fr_,f0_,c5_,bt_,bd_,c3_,ct_,cx_,co_,cr_,cz_,cj_,cf_,ch_,an_,cd_,a9_,a8_,a7_,ce_,Int.toNat_natCast,b9_,f3_,di_,dm_,dn_,en_,es_,eo_,er_,ep_,f2_,cc_,f1_,gv_,gu_,f4_,Int.add_zero,Int.zero_add,Int.ediv_one,Nat.reduceAdd,Nat.reduceMul,Int.reduceNeg,Nat.reduceLeDiff,List.length_cons,List.length_nil,true_and,and_true,Nat.zero_add,eq_self,Nat.reduceEqDiff,Int.reduceAdd,Int.reduceSub,Int.reduceMul,not_true_eq_false,not_false_eq_true,Nat.reduceLT,Int.reduceToNat,Int.reduceEq,Int.reduceNe,Int.reduceLT,Int.reduceLE,false_implies,true_implies]
      refine w_M_falls_47 ?_
      simp (disch := omega) only [cm_,aq_,a1_,ay_,ag_,aj_,b8_,af_,bm_,ah_,ba_,bc_,b3_,c0_,bp_,bw_,b0_,bi_,br_,bz_,ac_,b2_,bq_,ed_,bs_,b6_,a2_,az_,a4_,aw_,dw_,d6_,ea_,d3_,bn_,b5_,d9_,d7_,fl_,fn_,fh_,fw_,fu_,fp_,fz_,fq_,fk_,fr_,f0_,c5_,bt_,bd_,c3_,ct_,cx_,co_,cr_,cz_,cj_,cf_,ch_,an_,cd_,a9_,a8_,a7_,ce_,Int.toNat_natCast,b9_,f3_,di_,dm_,dn_,en_,es_,eo_,er_,ep_,f2_,cc_,f1_,gv_,gu_,f4_,Int.add_zero,Int.zero_add,Int.ediv_one,Nat.reduceAdd,Nat.reduceMul,Int.reduceNeg,Nat.reduceLeDiff,List.length_cons,List.length_nil,true_and,and_true,Nat.zero_add,eq_self,Nat.reduceEqDiff,Int.reduceAdd,Int.reduceSub,Int.reduceMul,not_true_eq_false,not_false_eq_true,Nat.reduceLT,Int.reduceToNat,Int.reduceEq,Int.reduceNe,Int.reduceLT,Int.reduceLE,false_implies,true_implies]
      refine con_MwrongBit (by unfold inI; omega) hw (by unfold inI; omega) (fun _ c => ?_) (fun c => ?_)
      · simp (disch := omega) only [cm_,aq_,a1_,ay_,ag_,aj_,b8_,af_,bm_,ah_,ba_,bc_,b3_,c0_,bp_,bw_,b0_,bi_,br_,bz_,ac_,b2_,bq_,ed_,bs_,b6_,a2_,az_,a4_,aw_,dw_,d6_,ea_,d3_,bn_,b5_,d9_,d7_,fl_,fn_,fh_,fw_,fu_,fp_,fz_,fq_,fk_,fr_,f0_,c5_,bt_,bd_,c3_,ct_,cx_,co_,cr_,cz_,cj_,cf_,ch_,an_,cd_,a9_,a8_,a7_,ce_,Int.toNat_natCast,b9_,f3_,di_,dm_,dn_,en_,es_,eo_,er_,ep_,f2_,cc_,f1_,gv_,gu_,f4_,Int.add_zero,Int.zero_add,Int.ediv_one,Nat.reduceAdd,Nat.reduceMul,Int.reduceNeg,Nat.reduceLeDiff,List.length_cons,List.length_nil,true_and,and_true,Nat.zero_add,eq_self,Nat.reduceEqDiff,Int.reduceAdd,Int.reduceSub,Int.reduceMul,not_true_eq_false,not_false_eq_true,Nat.reduceLT,Int.reduceToNat,Int.reduceEq,Int.reduceNe,Int.reduceLT,Int.reduceLE,false_implies,true_implies]
        refine con_Mrefuse (k := 2) (by omega) ?_
        simp (disch := omega) only [cm_,aq_,a1_,ay_,ag_,aj_,b8_,af_,bm_,ah_,ba_,bc_,b3_,c0_,bp_,bw_,b0_,bi_,br_,bz_,ac_,b2_,bq_,ed_,bs_,b6_,a2_,az_,a4_,aw_,dw_,d6_,ea_,d3_,bn_,b5_,d9_,d7_,fl_,fn_,fh_,fw_,fu_,fp_,fz_,fq_,fk_,fr_,f0_,c5_,bt_,bd_,c3_,ct_,cx_,co_,cr_,cz_,cj_,cf_,ch_,an_,cd_,a9_,a8_,a7_,ce_,Int.toNat_natCast,b9_,f3_,di_,dm_,dn_,en_,es_,eo_,er_,ep_,f2_,cc_,f1_,gv_,gu_,f4_,Int.add_zero,Int.zero_add,Int.ediv_one,Nat.reduceAdd,Nat.reduceMul,Int.reduceNeg,Nat.reduceLeDiff,List.length_cons,List.length_nil,true_and,and_true,Nat.zero_add,eq_self,Nat.reduceEqDiff,Int.reduceAdd,Int.reduceSub,Int.reduceMul,not_true_eq_false,not_false_eq_true,Nat.reduceLT,Int.reduceToNat,Int.reduceEq,Int.reduceNe,Int.reduceLT,Int.reduceLE,false_implies,true_implies]
        exact k2 (by omega)
      · have c := c rfl
        have ok := ok (by omega)
        have hnn : n = (n.toNat : Int) := by omega
        have b1 := wyN_rng R (n := n.toNat) (t := t) v (by omega) (by omega) (2 ^ n.toNat)
        have b2 : 2 ^ n.toNat ≤ 2 ^ 7 := Nat.pow_le_pow_right (by omega) (by omega)
        have b3 := powB (a := t) (k := n.toNat) (by omega) (by omega)
        have e1 : wyN dayX R n.toNat t v (2 ^ n.toNat) = ((wyN dayX R n.toNat t v (2 ^ n.toNat)).toNat : Int) := by omega
        have e2 : t ^ n.toNat = ((t.toNat ^ n.toNat : Nat) : Int) := by
          rw [Int.natCast_pow, show ((t.toNat : Nat) : Int) = t by omega]
        have p1 : 0 < t.toNat ^ n.toNat := Nat.pow_pos (by omega)
        have esh : zI 1 <<< (zI (n.toNat : Int) &&& 31) = zI ((2 ^ n.toNat : Nat) : Int) := b9_ (by omega) (by omega)
        have last : ∀ x tk w5 y z, J M_M_falls 222 [some (.ref 90), some (.int (zI (n.toNat : Int))), some (.int (zI t)), some (.int (zI v)), some (.int (zI w)), some (.int (zI 0)), some (.long (zJ (wyN dayX R n.toNat t v (2 ^ n.toNat)))), none, some (.long (zJ (t ^ n.toNat))), none, w5, y, none, z] [] (HM R rf lt lsz a0 ib sm pl lo nu (x) ig (im) (49) (tk) (.ref 101) tu (pz) tf tn tsz ga sd bb) Q := by
          intro x tk w5 y z
          refine w_M_falls_222 ?_
          simp (disch := omega) only [cm_,aq_,a1_,ay_,ag_,aj_,b8_,af_,bm_,ah_,ba_,bc_,b3_,c0_,bp_,bw_,b0_,bi_,br_,bz_,ac_,b2_,bq_,ed_,bs_,b6_,a2_,az_,a4_,aw_,dw_,d6_,ea_,d3_,bn_,b5_,d9_,d7_,fl_,fn_,fh_,fw_,fu_,fp_,fz_,fq_,fk_,fr_,f0_,c5_,bt_,bd_,c3_,ct_,cx_,co_,cr_,cz_,cj_,cf_,ch_,an_,cd_,a9_,a8_,a7_,ce_,Int.toNat_natCast,b9_,f3_,di_,dm_,dn_,en_,es_,eo_,er_,ep_,f2_,cc_,f1_,gv_,gu_,f4_,Int.add_zero,Int.zero_add,Int.ediv_one,Nat.reduceAdd,Nat.reduceMul,Int.reduceNeg,Nat.reduceLeDiff,List.length_cons,List.length_nil,true_and,and_true,Nat.zero_add,eq_self,Nat.reduceEqDiff,Int.reduceAdd,Int.reduceSub,Int.reduceMul,not_true_eq_false,not_false_eq_true,Nat.reduceLT,Int.reduceToNat,Int.reduceEq,Int.reduceNe,Int.reduceLT,Int.reduceLE,false_implies,true_implies]
          rw [e2] at b3 ⊢
          rw [e1]
          refine con_MpartOf (by omega) (by omega) (by omega) (fun _ => by omega) ?_
          simp (disch := omega) only [cm_,aq_,a1_,ay_,ag_,aj_,b8_,af_,bm_,ah_,ba_,bc_,b3_,c0_,bp_,bw_,b0_,bi_,br_,bz_,ac_,b2_,bq_,ed_,bs_,b6_,a2_,az_,a4_,aw_,dw_,d6_,ea_,d3_,bn_,b5_,d9_,d7_,fl_,fn_,fh_,fw_,fu_,fp_,fz_,fq_,fk_,fr_,f0_,c5_,bt_,bd_,c3_,ct_,cx_,co_,cr_,cz_,cj_,cf_,ch_,an_,cd_,a9_,a8_,a7_,ce_,Int.toNat_natCast,b9_,f3_,di_,dm_,dn_,en_,es_,eo_,er_,ep_,f2_,cc_,f1_,gv_,gu_,f4_,Int.add_zero,Int.zero_add,Int.ediv_one,Nat.reduceAdd,Nat.reduceMul,Int.reduceNeg,Nat.reduceLeDiff,List.length_cons,List.length_nil,true_and,and_true,Nat.zero_add,eq_self,Nat.reduceEqDiff,Int.reduceAdd,Int.reduceSub,Int.reduceMul,not_true_eq_false,not_false_eq_true,Nat.reduceLT,Int.reduceToNat,Int.reduceEq,Int.reduceNe,Int.reduceLT,Int.reduceLE,false_implies,true_implies]
          exact ok _ ⟨_, _, _, _, _, _, _, _, _, _, _, _, _, _, _, rfl, hIg, hTu, hPz⟩
        have sets : ∀ x, KP x R → ∀ k f : Nat, f + k = 2 ^ n.toNat → ∀ tk y z, J M_M_falls 111 [some (.ref 90), some (.int (zI (n.toNat : Int))), some (.int (zI t)), some (.int (zI v)), some (.int (zI w)), some (.int (zI 0)), some (.long (zJ (wyN dayX R n.toNat t v f))), none, some (.long (zJ (t ^ n.toNat))), none, some (.int (zI f)), y, none, z] [] (HM R rf lt lsz a0 ib sm pl lo nu (x) ig (im) (49) (tk) (.ref 101) tu (pz) tf tn tsz ga sd bb) Q := by
          intro x hx k
          induction k with
          | zero =>
            intro f hf tk y z
            have e : f = 2 ^ n.toNat := by omega
            subst e
            refine w_M_falls_111 ?_
            simp (disch := omega) only [cm_,aq_,a1_,ay_,ag_,aj_,b8_,af_,bm_,ah_,ba_,bc_,b3_,c0_,bp_,bw_,b0_,bi_,br_,bz_,ac_,b2_,bq_,ed_,bs_,b6_,a2_,az_,a4_,aw_,dw_,d6_,ea_,d3_,bn_,b5_,d9_,d7_,fl_,fn_,fh_,fw_,fu_,fp_,fz_,fq_,fk_,fr_,f0_,c5_,bt_,bd_,c3_,ct_,cx_,co_,cr_,cz_,cj_,cf_,ch_,an_,cd_,a9_,a8_,a7_,ce_,Int.toNat_natCast,b9_,f3_,di_,dm_,dn_,en_,es_,eo_,er_,ep_,f2_,cc_,f1_,gv_,gu_,f4_,Int.add_zero,Int.zero_add,Int.ediv_one,Nat.reduceAdd,Nat.reduceMul,Int.reduceNeg,Nat.reduceLeDiff,List.length_cons,List.length_nil,true_and,and_true,Nat.zero_add,eq_self,Nat.reduceEqDiff,Int.reduceAdd,Int.reduceSub,Int.reduceMul,not_true_eq_false,not_false_eq_true,Nat.reduceLT,Int.reduceToNat,Int.reduceEq,Int.reduceNe,Int.reduceLT,Int.reduceLE,false_implies,true_implies,esh]
            refine ⟨fun _ => last _ _ _ _ _, fun q => by omega⟩
          | succ k ih =>
            intro f hf tk y z
            have inner : ∀ m d : Nat, d + m = n.toNat → J M_M_falls 125 [some (.ref 90), some (.int (zI (n.toNat : Int))), some (.int (zI t)), some (.int (zI v)), some (.int (zI w)), some (.int (zI 0)), some (.long (zJ (wyN dayX R n.toNat t v f))), none, some (.long (zJ (t ^ n.toNat))), none, some (.int (zI f)), some (.long (zJ ((t - 1) ^ zroN f d))), none, some (.int (zI d))] [] (HM (flR dayX R f d) rf lt lsz a0 ib sm pl lo nu (x) ig (im) (49) (tk) (.ref 101) tu (pz) tf tn tsz ga sd bb) Q := by
              intro m
              induction m with
              | zero =>
                intro d hd
                have e : d = n.toNat := by omega
                subst e
                have hF := hI.fl f n.toNat
                have hk := hF.1.king
                have ez := zro_eq (f := f) (n := n.toNat) (by omega) (by omega)
                have step := ih (f + 1) (by omega)
                simp only [wyN] at step
                rw [← ez] at step
                refine w_M_falls_125 ?_
                simp (disch := omega) only [cm_,aq_,a1_,ay_,ag_,aj_,b8_,af_,bm_,ah_,ba_,bc_,b3_,c0_,bp_,bw_,b0_,bi_,br_,bz_,ac_,b2_,bq_,ed_,bs_,b6_,a2_,az_,a4_,aw_,dw_,d6_,ea_,d3_,bn_,b5_,d9_,d7_,fl_,fn_,fh_,fw_,fu_,fp_,fz_,fq_,fk_,fr_,f0_,c5_,bt_,bd_,c3_,ct_,cx_,co_,cr_,cz_,cj_,cf_,ch_,an_,cd_,a9_,a8_,a7_,ce_,Int.toNat_natCast,b9_,f3_,di_,dm_,dn_,en_,es_,eo_,er_,ep_,f2_,cc_,f1_,gv_,gu_,f4_,Int.add_zero,Int.zero_add,Int.ediv_one,Nat.reduceAdd,Nat.reduceMul,Int.reduceNeg,Nat.reduceLeDiff,List.length_cons,List.length_nil,true_and,and_true,Nat.zero_add,eq_self,Nat.reduceEqDiff,Int.reduceAdd,Int.reduceSub,Int.reduceMul,not_true_eq_false,not_false_eq_true,Nat.reduceLT,Int.reduceToNat,Int.reduceEq,Int.reduceNe,Int.reduceLT,Int.reduceLE,false_implies,true_implies]
                refine ⟨fun _ => ?_, fun q => by omega⟩
                refine w_M_falls_193 ?_
                simp (disch := omega) only [cm_,aq_,a1_,ay_,ag_,aj_,b8_,af_,bm_,ah_,ba_,bc_,b3_,c0_,bp_,bw_,b0_,bi_,br_,bz_,ac_,b2_,bq_,ed_,bs_,b6_,a2_,az_,a4_,aw_,dw_,d6_,ea_,d3_,bn_,b5_,d9_,d7_,fl_,fn_,fh_,fw_,fu_,fp_,fz_,fq_,fk_,fr_,f0_,c5_,bt_,bd_,c3_,ct_,cx_,co_,cr_,cz_,cj_,cf_,ch_,an_,cd_,a9_,a8_,a7_,ce_,Int.toNat_natCast,b9_,f3_,di_,dm_,dn_,en_,es_,eo_,er_,ep_,f2_,cc_,f1_,gv_,gu_,f4_,Int.add_zero,Int.zero_add,Int.ediv_one,Nat.reduceAdd,Nat.reduceMul,Int.reduceNeg,Nat.reduceLeDiff,List.length_cons,List.length_nil,true_and,and_true,Nat.zero_add,eq_self,Nat.reduceEqDiff,Int.reduceAdd,Int.reduceSub,Int.reduceMul,not_true_eq_false,not_false_eq_true,Nat.reduceLT,Int.reduceToNat,Int.reduceEq,Int.reduceNe,Int.reduceLT,Int.reduceLE,false_implies,true_implies]
                refine ⟨fun c7 => ?_, fun c7 => ?_⟩
                · rw [if_neg (by omega)] at step
                  refine w_M_falls_208 ?_
                  simp (disch := omega) only [cm_,aq_,a1_,ay_,ag_,aj_,b8_,af_,bm_,ah_,ba_,bc_,b3_,c0_,bp_,bw_,b0_,bi_,br_,bz_,ac_,b2_,bq_,ed_,bs_,b6_,a2_,az_,a4_,aw_,dw_,d6_,ea_,d3_,bn_,b5_,d9_,d7_,fl_,fn_,fh_,fw_,fu_,fp_,fz_,fq_,fk_,fr_,f0_,c5_,bt_,bd_,c3_,ct_,cx_,co_,cr_,cz_,cj_,cf_,ch_,an_,cd_,a9_,a8_,a7_,ce_,Int.toNat_natCast,b9_,f3_,di_,dm_,dn_,en_,es_,eo_,er_,ep_,f2_,cc_,f1_,gv_,gu_,f4_,Int.add_zero,Int.zero_add,Int.ediv_one,Nat.reduceAdd,Nat.reduceMul,Int.reduceNeg,Nat.reduceLeDiff,List.length_cons,List.length_nil,true_and,and_true,Nat.zero_add,eq_self,Nat.reduceEqDiff,Int.reduceAdd,Int.reduceSub,Int.reduceMul,not_true_eq_false,not_false_eq_true,Nat.reduceLT,Int.reduceToNat,Int.reduceEq,Int.reduceNe,Int.reduceLT,Int.reduceLE,false_implies,true_implies]
                  refine w_M_falls_209 ?_
                  simp (disch := omega) only [cm_,aq_,a1_,ay_,ag_,aj_,b8_,af_,bm_,ah_,ba_,bc_,b3_,c0_,bp_,bw_,b0_,bi_,br_,bz_,ac_,b2_,bq_,ed_,bs_,b6_,a2_,az_,a4_,aw_,dw_,d6_,ea_,d3_,bn_,b5_,d9_,d7_,fl_,fn_,fh_,fw_,fu_,fp_,fz_,fq_,fk_,fr_,f0_,c5_,bt_,bd_,c3_,ct_,cx_,co_,cr_,cz_,cj_,cf_,ch_,an_,cd_,a9_,a8_,a7_,ce_,Int.toNat_natCast,b9_,f3_,di_,dm_,dn_,en_,es_,eo_,er_,ep_,f2_,cc_,f1_,gv_,gu_,f4_,Int.add_zero,Int.zero_add,Int.ediv_one,Nat.reduceAdd,Nat.reduceMul,Int.reduceNeg,Nat.reduceLeDiff,List.length_cons,List.length_nil,true_and,and_true,Nat.zero_add,eq_self,Nat.reduceEqDiff,Int.reduceAdd,Int.reduceSub,Int.reduceMul,not_true_eq_false,not_false_eq_true,Nat.reduceLT,Int.reduceToNat,Int.reduceEq,Int.reduceNe,Int.reduceLT,Int.reduceLE,false_implies,true_implies]
                  refine con_Magain hx hF.2.2 hI.2.2 ?_
                  simp (disch := omega) only [cm_,aq_,a1_,ay_,ag_,aj_,b8_,af_,bm_,ah_,ba_,bc_,b3_,c0_,bp_,bw_,b0_,bi_,br_,bz_,ac_,b2_,bq_,ed_,bs_,b6_,a2_,az_,a4_,aw_,dw_,d6_,ea_,d3_,bn_,b5_,d9_,d7_,fl_,fn_,fh_,fw_,fu_,fp_,fz_,fq_,fk_,fr_,f0_,c5_,bt_,bd_,c3_,ct_,cx_,co_,cr_,cz_,cj_,cf_,ch_,an_,cd_,a9_,a8_,a7_,ce_,Int.toNat_natCast,b9_,f3_,di_,dm_,dn_,en_,es_,eo_,er_,ep_,f2_,cc_,f1_,gv_,gu_,f4_,Int.add_zero,Int.zero_add,Int.ediv_one,Nat.reduceAdd,Nat.reduceMul,Int.reduceNeg,Nat.reduceLeDiff,List.length_cons,List.length_nil,true_and,and_true,Nat.zero_add,eq_self,Nat.reduceEqDiff,Int.reduceAdd,Int.reduceSub,Int.reduceMul,not_true_eq_false,not_false_eq_true,Nat.reduceLT,Int.reduceToNat,Int.reduceEq,Int.reduceNe,Int.reduceLT,Int.reduceLE,false_implies,true_implies]
                  exact step _ _ _
                · rw [if_pos (by omega)] at step
                  refine w_M_falls_209 ?_
                  simp (disch := omega) only [cm_,aq_,a1_,ay_,ag_,aj_,b8_,af_,bm_,ah_,ba_,bc_,b3_,c0_,bp_,bw_,b0_,bi_,br_,bz_,ac_,b2_,bq_,ed_,bs_,b6_,a2_,az_,a4_,aw_,dw_,d6_,ea_,d3_,bn_,b5_,d9_,d7_,fl_,fn_,fh_,fw_,fu_,fp_,fz_,fq_,fk_,fr_,f0_,c5_,bt_,bd_,c3_,ct_,cx_,co_,cr_,cz_,cj_,cf_,ch_,an_,cd_,a9_,a8_,a7_,ce_,Int.toNat_natCast,b9_,f3_,di_,dm_,dn_,en_,es_,eo_,er_,ep_,f2_,cc_,f1_,gv_,gu_,f4_,Int.add_zero,Int.zero_add,Int.ediv_one,Nat.reduceAdd,Nat.reduceMul,Int.reduceNeg,Nat.reduceLeDiff,List.length_cons,List.length_nil,true_and,and_true,Nat.zero_add,eq_self,Nat.reduceEqDiff,Int.reduceAdd,Int.reduceSub,Int.reduceMul,not_true_eq_false,not_false_eq_true,Nat.reduceLT,Int.reduceToNat,Int.reduceEq,Int.reduceNe,Int.reduceLT,Int.reduceLE,false_implies,true_implies]
                  refine con_Magain hx hF.2.2 hI.2.2 ?_
                  simp (disch := omega) only [cm_,aq_,a1_,ay_,ag_,aj_,b8_,af_,bm_,ah_,ba_,bc_,b3_,c0_,bp_,bw_,b0_,bi_,br_,bz_,ac_,b2_,bq_,ed_,bs_,b6_,a2_,az_,a4_,aw_,dw_,d6_,ea_,d3_,bn_,b5_,d9_,d7_,fl_,fn_,fh_,fw_,fu_,fp_,fz_,fq_,fk_,fr_,f0_,c5_,bt_,bd_,c3_,ct_,cx_,co_,cr_,cz_,cj_,cf_,ch_,an_,cd_,a9_,a8_,a7_,ce_,Int.toNat_natCast,b9_,f3_,di_,dm_,dn_,en_,es_,eo_,er_,ep_,f2_,cc_,f1_,gv_,gu_,f4_,Int.add_zero,Int.zero_add,Int.ediv_one,Nat.reduceAdd,Nat.reduceMul,Int.reduceNeg,Nat.reduceLeDiff,List.length_cons,List.length_nil,true_and,and_true,Nat.zero_add,eq_self,Nat.reduceEqDiff,Int.reduceAdd,Int.reduceSub,Int.reduceMul,not_true_eq_false,not_false_eq_true,Nat.reduceLT,Int.reduceToNat,Int.reduceEq,Int.reduceNe,Int.reduceLT,Int.reduceLE,false_implies,true_implies]
                  exact step _ _ _
              | succ m ihm =>
                intro d hd
                have hF := hI.fl f d
                have hsn := hF.1.snow
                have step := ihm (d + 1) (by omega)
                simp only [flR, zroN] at step
                refine w_M_falls_125 ?_
                simp (disch := omega) only [cm_,aq_,a1_,ay_,ag_,aj_,b8_,af_,bm_,ah_,ba_,bc_,b3_,c0_,bp_,bw_,b0_,bi_,br_,bz_,ac_,b2_,bq_,ed_,bs_,b6_,a2_,az_,a4_,aw_,dw_,d6_,ea_,d3_,bn_,b5_,d9_,d7_,fl_,fn_,fh_,fw_,fu_,fp_,fz_,fq_,fk_,fr_,f0_,c5_,bt_,bd_,c3_,ct_,cx_,co_,cr_,cz_,cj_,cf_,ch_,an_,cd_,a9_,a8_,a7_,ce_,Int.toNat_natCast,b9_,f3_,di_,dm_,dn_,en_,es_,eo_,er_,ep_,f2_,cc_,f1_,gv_,gu_,f4_,Int.add_zero,Int.zero_add,Int.ediv_one,Nat.reduceAdd,Nat.reduceMul,Int.reduceNeg,Nat.reduceLeDiff,List.length_cons,List.length_nil,true_and,and_true,Nat.zero_add,eq_self,Nat.reduceEqDiff,Int.reduceAdd,Int.reduceSub,Int.reduceMul,not_true_eq_false,not_false_eq_true,Nat.reduceLT,Int.reduceToNat,Int.reduceEq,Int.reduceNe,Int.reduceLT,Int.reduceLE,false_implies,true_implies]
                refine ⟨fun q => by omega, fun _ => ?_⟩
                refine con_MhasBit (b := f) (i := d) (by omega) (by omega) (fun c7 => ?_) (fun c7 => ?_)
                · rw [if_pos c7, if_pos c7] at step
                  rw [show zroN f d + 0 = zroN f d from rfl] at step
                  have e5 : max 0 (min 9 (rSnow (flR dayX R f d) + 4)) = min 9 (rSnow (flR dayX R f d) + 4) := by omega
                  simp (disch := omega) only [cm_,aq_,a1_,ay_,ag_,aj_,b8_,af_,bm_,ah_,ba_,bc_,b3_,c0_,bp_,bw_,b0_,bi_,br_,bz_,ac_,b2_,bq_,ed_,bs_,b6_,a2_,az_,a4_,aw_,dw_,d6_,ea_,d3_,bn_,b5_,d9_,d7_,fl_,fn_,fh_,fw_,fu_,fp_,fz_,fq_,fk_,fr_,f0_,c5_,bt_,bd_,c3_,ct_,cx_,co_,cr_,cz_,cj_,cf_,ch_,an_,cd_,a9_,a8_,a7_,ce_,Int.toNat_natCast,b9_,f3_,di_,dm_,dn_,en_,es_,eo_,er_,ep_,f2_,cc_,f1_,gv_,gu_,f4_,Int.add_zero,Int.zero_add,Int.ediv_one,Nat.reduceAdd,Nat.reduceMul,Int.reduceNeg,Nat.reduceLeDiff,List.length_cons,List.length_nil,true_and,and_true,Nat.zero_add,eq_self,Nat.reduceEqDiff,Int.reduceAdd,Int.reduceSub,Int.reduceMul,not_true_eq_false,not_false_eq_true,Nat.reduceLT,Int.reduceToNat,Int.reduceEq,Int.reduceNe,Int.reduceLT,Int.reduceLE,false_implies,true_implies]
                  refine w_M_falls_151 ?_
                  simp (disch := omega) only [cm_,aq_,a1_,ay_,ag_,aj_,b8_,af_,bm_,ah_,ba_,bc_,b3_,c0_,bp_,bw_,b0_,bi_,br_,bz_,ac_,b2_,bq_,ed_,bs_,b6_,a2_,az_,a4_,aw_,dw_,d6_,ea_,d3_,bn_,b5_,d9_,d7_,fl_,fn_,fh_,fw_,fu_,fp_,fz_,fq_,fk_,fr_,f0_,c5_,bt_,bd_,c3_,ct_,cx_,co_,cr_,cz_,cj_,cf_,ch_,an_,cd_,a9_,a8_,a7_,ce_,Int.toNat_natCast,b9_,f3_,di_,dm_,dn_,en_,es_,eo_,er_,ep_,f2_,cc_,f1_,gv_,gu_,f4_,Int.add_zero,Int.zero_add,Int.ediv_one,Nat.reduceAdd,Nat.reduceMul,Int.reduceNeg,Nat.reduceLeDiff,List.length_cons,List.length_nil,true_and,and_true,Nat.zero_add,eq_self,Nat.reduceEqDiff,Int.reduceAdd,Int.reduceSub,Int.reduceMul,not_true_eq_false,not_false_eq_true,Nat.reduceLT,Int.reduceToNat,Int.reduceEq,Int.reduceNe,Int.reduceLT,Int.reduceLE,false_implies,true_implies,Int.mul_one]
                  refine con_MhasBit (b := f) (i := d) (by omega) (by omega) (fun c8 => ?_) (fun c8 => by rw [c7] at c8; exact absurd c8 (by decide))
                  simp (disch := omega) only [cm_,aq_,a1_,ay_,ag_,aj_,b8_,af_,bm_,ah_,ba_,bc_,b3_,c0_,bp_,bw_,b0_,bi_,br_,bz_,ac_,b2_,bq_,ed_,bs_,b6_,a2_,az_,a4_,aw_,dw_,d6_,ea_,d3_,bn_,b5_,d9_,d7_,fl_,fn_,fh_,fw_,fu_,fp_,fz_,fq_,fk_,fr_,f0_,c5_,bt_,bd_,c3_,ct_,cx_,co_,cr_,cz_,cj_,cf_,ch_,an_,cd_,a9_,a8_,a7_,ce_,Int.toNat_natCast,b9_,f3_,di_,dm_,dn_,en_,es_,eo_,er_,ep_,f2_,cc_,f1_,gv_,gu_,f4_,Int.add_zero,Int.zero_add,Int.ediv_one,Nat.reduceAdd,Nat.reduceMul,Int.reduceNeg,Nat.reduceLeDiff,List.length_cons,List.length_nil,true_and,and_true,Nat.zero_add,eq_self,Nat.reduceEqDiff,Int.reduceAdd,Int.reduceSub,Int.reduceMul,not_true_eq_false,not_false_eq_true,Nat.reduceLT,Int.reduceToNat,Int.reduceEq,Int.reduceNe,Int.reduceLT,Int.reduceLE,false_implies,true_implies]
                  refine w_M_falls_174 ?_
                  simp (disch := omega) only [cm_,aq_,a1_,ay_,ag_,aj_,b8_,af_,bm_,ah_,ba_,bc_,b3_,c0_,bp_,bw_,b0_,bi_,br_,bz_,ac_,b2_,bq_,ed_,bs_,b6_,a2_,az_,a4_,aw_,dw_,d6_,ea_,d3_,bn_,b5_,d9_,d7_,fl_,fn_,fh_,fw_,fu_,fp_,fz_,fq_,fk_,fr_,f0_,c5_,bt_,bd_,c3_,ct_,cx_,co_,cr_,cz_,cj_,cf_,ch_,an_,cd_,a9_,a8_,a7_,ce_,Int.toNat_natCast,b9_,f3_,di_,dm_,dn_,en_,es_,eo_,er_,ep_,f2_,cc_,f1_,gv_,gu_,f4_,Int.add_zero,Int.zero_add,Int.ediv_one,Nat.reduceAdd,Nat.reduceMul,Int.reduceNeg,Nat.reduceLeDiff,List.length_cons,List.length_nil,true_and,and_true,Nat.zero_add,eq_self,Nat.reduceEqDiff,Int.reduceAdd,Int.reduceSub,Int.reduceMul,not_true_eq_false,not_false_eq_true,Nat.reduceLT,Int.reduceToNat,Int.reduceEq,Int.reduceNe,Int.reduceLT,Int.reduceLE,false_implies,true_implies]
                  refine con_Mheld (by unfold inI; omega) (by omega) ?_
                  simp (disch := omega) only [cm_,aq_,a1_,ay_,ag_,aj_,b8_,af_,bm_,ah_,ba_,bc_,b3_,c0_,bp_,bw_,b0_,bi_,br_,bz_,ac_,b2_,bq_,ed_,bs_,b6_,a2_,az_,a4_,aw_,dw_,d6_,ea_,d3_,bn_,b5_,d9_,d7_,fl_,fn_,fh_,fw_,fu_,fp_,fz_,fq_,fk_,fr_,f0_,c5_,bt_,bd_,c3_,ct_,cx_,co_,cr_,cz_,cj_,cf_,ch_,an_,cd_,a9_,a8_,a7_,ce_,Int.toNat_natCast,b9_,f3_,di_,dm_,dn_,en_,es_,eo_,er_,ep_,f2_,cc_,f1_,gv_,gu_,f4_,Int.add_zero,Int.zero_add,Int.ediv_one,Nat.reduceAdd,Nat.reduceMul,Int.reduceNeg,Nat.reduceLeDiff,List.length_cons,List.length_nil,true_and,and_true,Nat.zero_add,eq_self,Nat.reduceEqDiff,Int.reduceAdd,Int.reduceSub,Int.reduceMul,not_true_eq_false,not_false_eq_true,Nat.reduceLT,Int.reduceToNat,Int.reduceEq,Int.reduceNe,Int.reduceLT,Int.reduceLE,false_implies,true_implies,e5]
                  refine con_MdayOn (hF.setSnow (by omega)).1 (hF.setSnow (by omega)).2.1 ?_
                  simp (disch := omega) only [cm_,aq_,a1_,ay_,ag_,aj_,b8_,af_,bm_,ah_,ba_,bc_,b3_,c0_,bp_,bw_,b0_,bi_,br_,bz_,ac_,b2_,bq_,ed_,bs_,b6_,a2_,az_,a4_,aw_,dw_,d6_,ea_,d3_,bn_,b5_,d9_,d7_,fl_,fn_,fh_,fw_,fu_,fp_,fz_,fq_,fk_,fr_,f0_,c5_,bt_,bd_,c3_,ct_,cx_,co_,cr_,cz_,cj_,cf_,ch_,an_,cd_,a9_,a8_,a7_,ce_,Int.toNat_natCast,b9_,f3_,di_,dm_,dn_,en_,es_,eo_,er_,ep_,f2_,cc_,f1_,gv_,gu_,f4_,Int.add_zero,Int.zero_add,Int.ediv_one,Nat.reduceAdd,Nat.reduceMul,Int.reduceNeg,Nat.reduceLeDiff,List.length_cons,List.length_nil,true_and,and_true,Nat.zero_add,eq_self,Nat.reduceEqDiff,Int.reduceAdd,Int.reduceSub,Int.reduceMul,not_true_eq_false,not_false_eq_true,Nat.reduceLT,Int.reduceToNat,Int.reduceEq,Int.reduceNe,Int.reduceLT,Int.reduceLE,false_implies,true_implies]
                  exact step
                · have c7' : ¬ f.testBit d = true := by rw [c7]; decide
                  rw [if_neg c7', if_neg c7', Int.pow_succ] at step
                  have e5 : max 0 (min 9 (rSnow (flR dayX R f d))) = rSnow (flR dayX R f d) := by omega
                  simp (disch := omega) only [cm_,aq_,a1_,ay_,ag_,aj_,b8_,af_,bm_,ah_,ba_,bc_,b3_,c0_,bp_,bw_,b0_,bi_,br_,bz_,ac_,b2_,bq_,ed_,bs_,b6_,a2_,az_,a4_,aw_,dw_,d6_,ea_,d3_,bn_,b5_,d9_,d7_,fl_,fn_,fh_,fw_,fu_,fp_,fz_,fq_,fk_,fr_,f0_,c5_,bt_,bd_,c3_,ct_,cx_,co_,cr_,cz_,cj_,cf_,ch_,an_,cd_,a9_,a8_,a7_,ce_,Int.toNat_natCast,b9_,f3_,di_,dm_,dn_,en_,es_,eo_,er_,ep_,f2_,cc_,f1_,gv_,gu_,f4_,Int.add_zero,Int.zero_add,Int.ediv_one,Nat.reduceAdd,Nat.reduceMul,Int.reduceNeg,Nat.reduceLeDiff,List.length_cons,List.length_nil,true_and,and_true,Nat.zero_add,eq_self,Nat.reduceEqDiff,Int.reduceAdd,Int.reduceSub,Int.reduceMul,not_true_eq_false,not_false_eq_true,Nat.reduceLT,Int.reduceToNat,Int.reduceEq,Int.reduceNe,Int.reduceLT,Int.reduceLE,false_implies,true_implies]
                  refine w_M_falls_147 ?_
                  simp (disch := omega) only [cm_,aq_,a1_,ay_,ag_,aj_,b8_,af_,bm_,ah_,ba_,bc_,b3_,c0_,bp_,bw_,b0_,bi_,br_,bz_,ac_,b2_,bq_,ed_,bs_,b6_,a2_,az_,a4_,aw_,dw_,d6_,ea_,d3_,bn_,b5_,d9_,d7_,fl_,fn_,fh_,fw_,fu_,fp_,fz_,fq_,fk_,fr_,f0_,c5_,bt_,bd_,c3_,ct_,cx_,co_,cr_,cz_,cj_,cf_,ch_,an_,cd_,a9_,a8_,a7_,ce_,Int.toNat_natCast,b9_,f3_,di_,dm_,dn_,en_,es_,eo_,er_,ep_,f2_,cc_,f1_,gv_,gu_,f4_,Int.add_zero,Int.zero_add,Int.ediv_one,Nat.reduceAdd,Nat.reduceMul,Int.reduceNeg,Nat.reduceLeDiff,List.length_cons,List.length_nil,true_and,and_true,Nat.zero_add,eq_self,Nat.reduceEqDiff,Int.reduceAdd,Int.reduceSub,Int.reduceMul,not_true_eq_false,not_false_eq_true,Nat.reduceLT,Int.reduceToNat,Int.reduceEq,Int.reduceNe,Int.reduceLT,Int.reduceLE,false_implies,true_implies]
                  refine w_M_falls_151 ?_
                  simp (disch := omega) only [cm_,aq_,a1_,ay_,ag_,aj_,b8_,af_,bm_,ah_,ba_,bc_,b3_,c0_,bp_,bw_,b0_,bi_,br_,bz_,ac_,b2_,bq_,ed_,bs_,b6_,a2_,az_,a4_,aw_,dw_,d6_,ea_,d3_,bn_,b5_,d9_,d7_,fl_,fn_,fh_,fw_,fu_,fp_,fz_,fq_,fk_,fr_,f0_,c5_,bt_,bd_,c3_,ct_,cx_,co_,cr_,cz_,cj_,cf_,ch_,an_,cd_,a9_,a8_,a7_,ce_,Int.toNat_natCast,b9_,f3_,di_,dm_,dn_,en_,es_,eo_,er_,ep_,f2_,cc_,f1_,gv_,gu_,f4_,Int.add_zero,Int.zero_add,Int.ediv_one,Nat.reduceAdd,Nat.reduceMul,Int.reduceNeg,Nat.reduceLeDiff,List.length_cons,List.length_nil,true_and,and_true,Nat.zero_add,eq_self,Nat.reduceEqDiff,Int.reduceAdd,Int.reduceSub,Int.reduceMul,not_true_eq_false,not_false_eq_true,Nat.reduceLT,Int.reduceToNat,Int.reduceEq,Int.reduceNe,Int.reduceLT,Int.reduceLE,false_implies,true_implies]
                  refine con_MhasBit (b := f) (i := d) (by omega) (by omega) (fun c8 => by rw [c7] at c8; exact absurd c8 (by decide)) (fun c8 => ?_)
                  simp (disch := omega) only [cm_,aq_,a1_,ay_,ag_,aj_,b8_,af_,bm_,ah_,ba_,bc_,b3_,c0_,bp_,bw_,b0_,bi_,br_,bz_,ac_,b2_,bq_,ed_,bs_,b6_,a2_,az_,a4_,aw_,dw_,d6_,ea_,d3_,bn_,b5_,d9_,d7_,fl_,fn_,fh_,fw_,fu_,fp_,fz_,fq_,fk_,fr_,f0_,c5_,bt_,bd_,c3_,ct_,cx_,co_,cr_,cz_,cj_,cf_,ch_,an_,cd_,a9_,a8_,a7_,ce_,Int.toNat_natCast,b9_,f3_,di_,dm_,dn_,en_,es_,eo_,er_,ep_,f2_,cc_,f1_,gv_,gu_,f4_,Int.add_zero,Int.zero_add,Int.ediv_one,Nat.reduceAdd,Nat.reduceMul,Int.reduceNeg,Nat.reduceLeDiff,List.length_cons,List.length_nil,true_and,and_true,Nat.zero_add,eq_self,Nat.reduceEqDiff,Int.reduceAdd,Int.reduceSub,Int.reduceMul,not_true_eq_false,not_false_eq_true,Nat.reduceLT,Int.reduceToNat,Int.reduceEq,Int.reduceNe,Int.reduceLT,Int.reduceLE,false_implies,true_implies]
                  refine w_M_falls_173 ?_
                  simp (disch := omega) only [cm_,aq_,a1_,ay_,ag_,aj_,b8_,af_,bm_,ah_,ba_,bc_,b3_,c0_,bp_,bw_,b0_,bi_,br_,bz_,ac_,b2_,bq_,ed_,bs_,b6_,a2_,az_,a4_,aw_,dw_,d6_,ea_,d3_,bn_,b5_,d9_,d7_,fl_,fn_,fh_,fw_,fu_,fp_,fz_,fq_,fk_,fr_,f0_,c5_,bt_,bd_,c3_,ct_,cx_,co_,cr_,cz_,cj_,cf_,ch_,an_,cd_,a9_,a8_,a7_,ce_,Int.toNat_natCast,b9_,f3_,di_,dm_,dn_,en_,es_,eo_,er_,ep_,f2_,cc_,f1_,gv_,gu_,f4_,Int.add_zero,Int.zero_add,Int.ediv_one,Nat.reduceAdd,Nat.reduceMul,Int.reduceNeg,Nat.reduceLeDiff,List.length_cons,List.length_nil,true_and,and_true,Nat.zero_add,eq_self,Nat.reduceEqDiff,Int.reduceAdd,Int.reduceSub,Int.reduceMul,not_true_eq_false,not_false_eq_true,Nat.reduceLT,Int.reduceToNat,Int.reduceEq,Int.reduceNe,Int.reduceLT,Int.reduceLE,false_implies,true_implies]
                  refine w_M_falls_174 ?_
                  simp (disch := omega) only [cm_,aq_,a1_,ay_,ag_,aj_,b8_,af_,bm_,ah_,ba_,bc_,b3_,c0_,bp_,bw_,b0_,bi_,br_,bz_,ac_,b2_,bq_,ed_,bs_,b6_,a2_,az_,a4_,aw_,dw_,d6_,ea_,d3_,bn_,b5_,d9_,d7_,fl_,fn_,fh_,fw_,fu_,fp_,fz_,fq_,fk_,fr_,f0_,c5_,bt_,bd_,c3_,ct_,cx_,co_,cr_,cz_,cj_,cf_,ch_,an_,cd_,a9_,a8_,a7_,ce_,Int.toNat_natCast,b9_,f3_,di_,dm_,dn_,en_,es_,eo_,er_,ep_,f2_,cc_,f1_,gv_,gu_,f4_,Int.add_zero,Int.zero_add,Int.ediv_one,Nat.reduceAdd,Nat.reduceMul,Int.reduceNeg,Nat.reduceLeDiff,List.length_cons,List.length_nil,true_and,and_true,Nat.zero_add,eq_self,Nat.reduceEqDiff,Int.reduceAdd,Int.reduceSub,Int.reduceMul,not_true_eq_false,not_false_eq_true,Nat.reduceLT,Int.reduceToNat,Int.reduceEq,Int.reduceNe,Int.reduceLT,Int.reduceLE,false_implies,true_implies]
                  refine con_Mheld (by unfold inI; omega) (by omega) ?_
                  simp (disch := omega) only [cm_,aq_,a1_,ay_,ag_,aj_,b8_,af_,bm_,ah_,ba_,bc_,b3_,c0_,bp_,bw_,b0_,bi_,br_,bz_,ac_,b2_,bq_,ed_,bs_,b6_,a2_,az_,a4_,aw_,dw_,d6_,ea_,d3_,bn_,b5_,d9_,d7_,fl_,fn_,fh_,fw_,fu_,fp_,fz_,fq_,fk_,fr_,f0_,c5_,bt_,bd_,c3_,ct_,cx_,co_,cr_,cz_,cj_,cf_,ch_,an_,cd_,a9_,a8_,a7_,ce_,Int.toNat_natCast,b9_,f3_,di_,dm_,dn_,en_,es_,eo_,er_,ep_,f2_,cc_,f1_,gv_,gu_,f4_,Int.add_zero,Int.zero_add,Int.ediv_one,Nat.reduceAdd,Nat.reduceMul,Int.reduceNeg,Nat.reduceLeDiff,List.length_cons,List.length_nil,true_and,and_true,Nat.zero_add,eq_self,Nat.reduceEqDiff,Int.reduceAdd,Int.reduceSub,Int.reduceMul,not_true_eq_false,not_false_eq_true,Nat.reduceLT,Int.reduceToNat,Int.reduceEq,Int.reduceNe,Int.reduceLT,Int.reduceLE,false_implies,true_implies,e5]
                  refine con_MdayOn hF.1 hF.2.1 ?_
                  simp (disch := omega) only [cm_,aq_,a1_,ay_,ag_,aj_,b8_,af_,bm_,ah_,ba_,bc_,b3_,c0_,bp_,bw_,b0_,bi_,br_,bz_,ac_,b2_,bq_,ed_,bs_,b6_,a2_,az_,a4_,aw_,dw_,d6_,ea_,d3_,bn_,b5_,d9_,d7_,fl_,fn_,fh_,fw_,fu_,fp_,fz_,fq_,fk_,fr_,f0_,c5_,bt_,bd_,c3_,ct_,cx_,co_,cr_,cz_,cj_,cf_,ch_,an_,cd_,a9_,a8_,a7_,ce_,Int.toNat_natCast,b9_,f3_,di_,dm_,dn_,en_,es_,eo_,er_,ep_,f2_,cc_,f1_,gv_,gu_,f4_,Int.add_zero,Int.zero_add,Int.ediv_one,Nat.reduceAdd,Nat.reduceMul,Int.reduceNeg,Nat.reduceLeDiff,List.length_cons,List.length_nil,true_and,and_true,Nat.zero_add,eq_self,Nat.reduceEqDiff,Int.reduceAdd,Int.reduceSub,Int.reduceMul,not_true_eq_false,not_false_eq_true,Nat.reduceLT,Int.reduceToNat,Int.reduceEq,Int.reduceNe,Int.reduceLT,Int.reduceLE,false_implies,true_implies]
                  exact step
            refine w_M_falls_111 ?_
            simp (disch := omega) only [cm_,aq_,a1_,ay_,ag_,aj_,b8_,af_,bm_,ah_,ba_,bc_,b3_,c0_,bp_,bw_,b0_,bi_,br_,bz_,ac_,b2_,bq_,ed_,bs_,b6_,a2_,az_,a4_,aw_,dw_,d6_,ea_,d3_,bn_,b5_,d9_,d7_,fl_,fn_,fh_,fw_,fu_,fp_,fz_,fq_,fk_,fr_,f0_,c5_,bt_,bd_,c3_,ct_,cx_,co_,cr_,cz_,cj_,cf_,ch_,an_,cd_,a9_,a8_,a7_,ce_,Int.toNat_natCast,b9_,f3_,di_,dm_,dn_,en_,es_,eo_,er_,ep_,f2_,cc_,f1_,gv_,gu_,f4_,Int.add_zero,Int.zero_add,Int.ediv_one,Nat.reduceAdd,Nat.reduceMul,Int.reduceNeg,Nat.reduceLeDiff,List.length_cons,List.length_nil,true_and,and_true,Nat.zero_add,eq_self,Nat.reduceEqDiff,Int.reduceAdd,Int.reduceSub,Int.reduceMul,not_true_eq_false,not_false_eq_true,Nat.reduceLT,Int.reduceToNat,Int.reduceEq,Int.reduceNe,Int.reduceLT,Int.reduceLE,false_implies,true_implies,esh]
            refine ⟨fun q => by omega, fun _ => ?_⟩
            have i0 := inner n.toNat 0 (Nat.zero_add _)
            rw [show zroN f 0 = 0 from rfl, Int.pow_zero] at i0
            exact i0
        have powers : ∀ k i : Nat, i + k = n.toNat → J M_M_falls 85 [some (.ref 90), some (.int (zI (n.toNat : Int))), some (.int (zI t)), some (.int (zI v)), some (.int (zI w)), some (.int (zI 0)), some (.long (zJ 0)), none, some (.long (zJ (t ^ i))), none, some (.int (zI i)), none, none, none] [] (HM R rf lt lsz a0 ib sm pl lo nu kp ig (im) p0 tk ki tu (pz) tf tn tsz ga sd bb) Q := by
          intro k
          induction k with
          | zero =>
            intro i hi
            have e : i = n.toNat := by omega
            subst e
            refine w_M_falls_85 ?_
            simp (disch := omega) only [cm_,aq_,a1_,ay_,ag_,aj_,b8_,af_,bm_,ah_,ba_,bc_,b3_,c0_,bp_,bw_,b0_,bi_,br_,bz_,ac_,b2_,bq_,ed_,bs_,b6_,a2_,az_,a4_,aw_,dw_,d6_,ea_,d3_,bn_,b5_,d9_,d7_,fl_,fn_,fh_,fw_,fu_,fp_,fz_,fq_,fk_,fr_,f0_,c5_,bt_,bd_,c3_,ct_,cx_,co_,cr_,cz_,cj_,cf_,ch_,an_,cd_,a9_,a8_,a7_,ce_,Int.toNat_natCast,b9_,f3_,di_,dm_,dn_,en_,es_,eo_,er_,ep_,f2_,cc_,f1_,gv_,gu_,f4_,Int.add_zero,Int.zero_add,Int.ediv_one,Nat.reduceAdd,Nat.reduceMul,Int.reduceNeg,Nat.reduceLeDiff,List.length_cons,List.length_nil,true_and,and_true,Nat.zero_add,eq_self,Nat.reduceEqDiff,Int.reduceAdd,Int.reduceSub,Int.reduceMul,not_true_eq_false,not_false_eq_true,Nat.reduceLT,Int.reduceToNat,Int.reduceEq,Int.reduceNe,Int.reduceLT,Int.reduceLE,false_implies,true_implies]
            refine ⟨fun _ => ?_, fun q => by omega⟩
            refine w_M_falls_104 ?_
            simp (disch := omega) only [cm_,aq_,a1_,ay_,ag_,aj_,b8_,af_,bm_,ah_,ba_,bc_,b3_,c0_,bp_,bw_,b0_,bi_,br_,bz_,ac_,b2_,bq_,ed_,bs_,b6_,a2_,az_,a4_,aw_,dw_,d6_,ea_,d3_,bn_,b5_,d9_,d7_,fl_,fn_,fh_,fw_,fu_,fp_,fz_,fq_,fk_,fr_,f0_,c5_,bt_,bd_,c3_,ct_,cx_,co_,cr_,cz_,cj_,cf_,ch_,an_,cd_,a9_,a8_,a7_,ce_,Int.toNat_natCast,b9_,f3_,di_,dm_,dn_,en_,es_,eo_,er_,ep_,f2_,cc_,f1_,gv_,gu_,f4_,Int.add_zero,Int.zero_add,Int.ediv_one,Nat.reduceAdd,Nat.reduceMul,Int.reduceNeg,Nat.reduceLeDiff,List.length_cons,List.length_nil,true_and,and_true,Nat.zero_add,eq_self,Nat.reduceEqDiff,Int.reduceAdd,Int.reduceSub,Int.reduceMul,not_true_eq_false,not_false_eq_true,Nat.reduceLT,Int.reduceToNat,Int.reduceEq,Int.reduceNe,Int.reduceLT,Int.reduceLE,false_implies,true_implies]
            refine con_Mthink (fun x hx => ?_)
            simp (disch := omega) only [cm_,aq_,a1_,ay_,ag_,aj_,b8_,af_,bm_,ah_,ba_,bc_,b3_,c0_,bp_,bw_,b0_,bi_,br_,bz_,ac_,b2_,bq_,ed_,bs_,b6_,a2_,az_,a4_,aw_,dw_,d6_,ea_,d3_,bn_,b5_,d9_,d7_,fl_,fn_,fh_,fw_,fu_,fp_,fz_,fq_,fk_,fr_,f0_,c5_,bt_,bd_,c3_,ct_,cx_,co_,cr_,cz_,cj_,cf_,ch_,an_,cd_,a9_,a8_,a7_,ce_,Int.toNat_natCast,b9_,f3_,di_,dm_,dn_,en_,es_,eo_,er_,ep_,f2_,cc_,f1_,gv_,gu_,f4_,Int.add_zero,Int.zero_add,Int.ediv_one,Nat.reduceAdd,Nat.reduceMul,Int.reduceNeg,Nat.reduceLeDiff,List.length_cons,List.length_nil,true_and,and_true,Nat.zero_add,eq_self,Nat.reduceEqDiff,Int.reduceAdd,Int.reduceSub,Int.reduceMul,not_true_eq_false,not_false_eq_true,Nat.reduceLT,Int.reduceToNat,Int.reduceEq,Int.reduceNe,Int.reduceLT,Int.reduceLE,false_implies,true_implies]
            exact sets x hx (2 ^ n.toNat) 0 (Nat.zero_add _) _ _ _
          | succ k ih =>
            intro i hi
            have step := ih (i + 1) (by omega)
            rw [Int.pow_succ] at step
            refine w_M_falls_85 ?_
            simp (disch := omega) only [cm_,aq_,a1_,ay_,ag_,aj_,b8_,af_,bm_,ah_,ba_,bc_,b3_,c0_,bp_,bw_,b0_,bi_,br_,bz_,ac_,b2_,bq_,ed_,bs_,b6_,a2_,az_,a4_,aw_,dw_,d6_,ea_,d3_,bn_,b5_,d9_,d7_,fl_,fn_,fh_,fw_,fu_,fp_,fz_,fq_,fk_,fr_,f0_,c5_,bt_,bd_,c3_,ct_,cx_,co_,cr_,cz_,cj_,cf_,ch_,an_,cd_,a9_,a8_,a7_,ce_,Int.toNat_natCast,b9_,f3_,di_,dm_,dn_,en_,es_,eo_,er_,ep_,f2_,cc_,f1_,gv_,gu_,f4_,Int.add_zero,Int.zero_add,Int.ediv_one,Nat.reduceAdd,Nat.reduceMul,Int.reduceNeg,Nat.reduceLeDiff,List.length_cons,List.length_nil,true_and,and_true,Nat.zero_add,eq_self,Nat.reduceEqDiff,Int.reduceAdd,Int.reduceSub,Int.reduceMul,not_true_eq_false,not_false_eq_true,Nat.reduceLT,Int.reduceToNat,Int.reduceEq,Int.reduceNe,Int.reduceLT,Int.reduceLE,false_implies,true_implies]
            refine ⟨fun q => by omega, fun _ => ?_⟩
            exact step
        rw [hnn]
        simp (disch := omega) only [cm_,aq_,a1_,ay_,ag_,aj_,b8_,af_,bm_,ah_,ba_,bc_,b3_,c0_,bp_,bw_,b0_,bi_,br_,bz_,ac_,b2_,bq_,ed_,bs_,b6_,a2_,az_,a4_,aw_,dw_,d6_,ea_,d3_,bn_,b5_,d9_,d7_,fl_,fn_,fh_,fw_,fu_,fp_,fz_,fq_,fk_,fr_,f0_,c5_,bt_,bd_,c3_,ct_,cx_,co_,cr_,cz_,cj_,cf_,ch_,an_,cd_,a9_,a8_,a7_,ce_,Int.toNat_natCast,b9_,f3_,di_,dm_,dn_,en_,es_,eo_,er_,ep_,f2_,cc_,f1_,gv_,gu_,f4_,Int.add_zero,Int.zero_add,Int.ediv_one,Nat.reduceAdd,Nat.reduceMul,Int.reduceNeg,Nat.reduceLeDiff,List.length_cons,List.length_nil,true_and,and_true,Nat.zero_add,eq_self,Nat.reduceEqDiff,Int.reduceAdd,Int.reduceSub,Int.reduceMul,not_true_eq_false,not_false_eq_true,Nat.reduceLT,Int.reduceToNat,Int.reduceEq,Int.reduceNe,Int.reduceLT,Int.reduceLE,false_implies,true_implies]
        refine w_M_falls_76 ?_
        simp (disch := omega) only [cm_,aq_,a1_,ay_,ag_,aj_,b8_,af_,bm_,ah_,ba_,bc_,b3_,c0_,bp_,bw_,b0_,bi_,br_,bz_,ac_,b2_,bq_,ed_,bs_,b6_,a2_,az_,a4_,aw_,dw_,d6_,ea_,d3_,bn_,b5_,d9_,d7_,fl_,fn_,fh_,fw_,fu_,fp_,fz_,fq_,fk_,fr_,f0_,c5_,bt_,bd_,c3_,ct_,cx_,co_,cr_,cz_,cj_,cf_,ch_,an_,cd_,a9_,a8_,a7_,ce_,Int.toNat_natCast,b9_,f3_,di_,dm_,dn_,en_,es_,eo_,er_,ep_,f2_,cc_,f1_,gv_,gu_,f4_,Int.add_zero,Int.zero_add,Int.ediv_one,Nat.reduceAdd,Nat.reduceMul,Int.reduceNeg,Nat.reduceLeDiff,List.length_cons,List.length_nil,true_and,and_true,Nat.zero_add,eq_self,Nat.reduceEqDiff,Int.reduceAdd,Int.reduceSub,Int.reduceMul,not_true_eq_false,not_false_eq_true,Nat.reduceLT,Int.reduceToNat,Int.reduceEq,Int.reduceNe,Int.reduceLT,Int.reduceLE,false_implies,true_implies]
        have := powers n.toNat 0 (Nat.zero_add _)
        rw [Int.pow_zero] at this
        exact this
end E28
end
/-! lotsM -/
section
/-! ===== the reference: reigns by lot ===== -/
theorem lot_more (R : RR) (z : Int) (i s : Nat) : lotR R z i (s + 1) = sSl (lotR R z i s) (upI (rSl (lotR R z i s)) s (drF (nxS (sdN z (12 * i + s))))) := by
  refine congrArg (fun f => sSl R f) ?_
  funext j
  simp only [upI]
  by_cases hj : j = s
  · subst hj
    rw [if_pos (by omega), if_pos rfl]
    rfl
  · simp only [hj, if_false, show (j < s + 1) = (j < s) by simp; omega]
    rfl
theorem lot_0 (R : RR) (z : Int) (i : Nat) : lotR R z i 0 = R := by
  have : (fun s => if s < 0 then drF (sdN z (12 * i + s + 1)) else rSl R s) = rSl R := by
    funext s
    rw [if_neg (by omega)]
  simp only [lotR, this]
  rfl
theorem GI.lot {R : RR} (h : GI R) (z : Int) (i : Nat) (s : Nat) (hs : s ≤ 12) : GI (lotR R z i s) := by
  induction s with
  | zero => rw [lot_0]; exact h
  | succ s ih =>
    rw [lot_more]
    exact (ih (by omega)).setSl s (by omega) (drF_rng _)
def lsN (R : RR) (z w : Int) (i : Nat) : Int := if w = 0 then lgN g6_ R z i else ldN g6_ R z i
theorem lsN_rng {R : RR} (hG : GR R) (z w : Int) (i : Nat) : -(12 * i : Int) ≤ lsN R z w i ∧ lsN R z w i ≤ 12 * i := by
  have a : -(12 * i : Int) ≤ lgN g6_ R z i ∧ lgN g6_ R z i ≤ 12 * i := by
    induction i with
    | zero => exact ⟨Int.le_refl 0, Int.le_refl 0⟩
    | succ i ih =>
      have h1 := ((hG.lot z i 12).dsX 15).king
      have h2 := hG.king
      simp only [lgN]
      omega
  have b : -(12 * i : Int) ≤ ldN g6_ R z i ∧ ldN g6_ R z i ≤ 12 * i := by
    clear a
    induction i with
    | zero => exact ⟨Int.le_refl 0, Int.le_refl 0⟩
    | succ i ih =>
      have h1 := pop8_le (mask (isF (g6_ (lotR R z i 12) 15) 2) (hb_ (g6_ (lotR R z i 12) 15)))
      simp only [ldN]
      omega
  simp only [lsN]
  split
  · exact a
  · exact b
section E29
variable {R I : RR} {im : Int} {P : Nat → RR} {pz : Int} {lt : Nat → Int} {lsz : Int} {tn : Nat → Int} {tsz : Int} {rf : Nat → Int} {bb h : AH} {Q : Option Value → AH → Prop}
section
variable {R : RR} {rf : Nat → Int} {lt : Nat → Int} {lsz : Int} {a0 : Int} {ib : Int} {sm : Int} {pl : Nat → Int} {lo : Nat → Int} {nu : Nat → Int} {kp : Nat → Int} {ig : Nat → Int} {hmg : Int} {p0 : Int} {tk : Int} {ki : Value} {tu : Nat → Int} {tz : Int} {tf : Nat → Int} {tn : Nat → Int} {tsz : Int} {ga : Nat → Int} {sd : Int} {bb : AH}
theorem con_MdrawBelow (hQ : Q (some (.int (zI (drF (nxS sd))))) (HM R rf lt lsz a0 ib sm pl lo nu kp ig hmg p0 tk ki tu tz tf tn tsz ga (nxS sd) bb)) : Con M_M_drawBelow [.ref 90, .int (zI 10)] (HM R rf lt lsz a0 ib sm pl lo nu kp ig hmg p0 tk ki tu tz tf tn tsz ga sd bb) Q := by
  have e : nxS sd = sd * 1103515245 + 12345 := rfl
  have e2 : drF (nxS sd) = (sd * 1103515245 + 12345) % 2147483648 / 65536 - (sd * 1103515245 + 12345) % 2147483648 / 65536 / 10 * 10 := by
    simp only [drF, nxS]
    omega
  rw [e2, e] at hQ
  refine g8_ (L := [some (.ref 90), some (.int (zI 10))]) ok_M_drawBelow (Nat.le_of_ble_eq_true rfl) rfl ?_
  refine w_M_drawBelow_0 ?_
  simp (disch := omega) only [cm_,aq_,ay_,ag_,b8_,af_,cg_,ba_,bc_,bx_,bb_,bh_,bl_,ae_,ac_,b2_,bq_,ed_,bs_,ao_,a2_,az_,av_,aw_,dw_,d6_,ea_,d3_,b5_,fl_,fn_,fh_,fu_,fp_,fz_,fq_,fk_,fr_,fs_,f0_,c5_,bt_,bd_,c3_,cx_,cr_,cf_,ch_,ci_,an_,cl_,d1_,cq_,Int.toNat_natCast,f3_,di_,dm_,dn_,gv_,g1_,gu_,gt_,f4_,Int.add_zero,Int.zero_add,Int.ediv_one,Nat.reduceAdd,Nat.reduceMul,Int.reduceNeg,Nat.reduceLeDiff,List.length_cons,List.length_nil,true_and,and_true,Nat.zero_add,eq_self,Nat.reduceEqDiff,Int.reduceAdd,Int.reduceSub,Int.reduceMul,not_true_eq_false,not_false_eq_true,Nat.reduceLT,Int.reduceToNat,Int.reduceEq,Int.reduceNe,Int.reduceLT,Int.reduceLE,false_implies,true_implies,zI_and31]
  exact hQ
end
theorem M_lots {n z w : Int} (hn : inI n) (hz : inI z) (hw : inI w) (hI : GI R)  (W : (MW R I im P pz lt lsz tn tsz rf bb h))
    (r4 : n < 1 → ∀ h, (MW R I im P pz lt lsz tn tsz (rfU rf 4) bb h) → Q (some (.int (zI (-4)))) h)
    (r6 : ¬ n < 1 → 20 < n → ∀ h, (MW R I im P pz lt lsz tn tsz (rfU rf 6) bb h) → Q (some (.int (zI (-6)))) h)
    (r2 : ¬ n < 1 → ¬ 20 < n → ¬ (w = 0 ∨ w = 1) → ∀ h, (MW R I im P pz lt lsz tn tsz (rfU rf 2) bb h) → Q (some (.int (zI (-2)))) h)
    (ok : ¬ n < 1 → ¬ 20 < n → (w = 0 ∨ w = 1) → ∀ h, (MW R I im P pz lt lsz tn tsz rf bb h) → Q (some (.int (zI (if w = 0 then lgN g6_ R z n.toNat else ldN g6_ R z n.toNat)))) h) : Con M_M_lots [.ref 90, .int (zI n), .int (zI z), .int (zI w)] h Q := by
  obtain ⟨a0, ib, sm, pl, lo, nu, kp, ig, p0, tk, ki, tu, tf, ga, sd, rfl, hIg, hTu, hPz⟩ := W
  have hG := hI.1
  obtain ⟨w1, w2⟩ := id hw
  have k4 := fun q => r4 q _ ⟨a0, ib, sm, pl, lo, nu, kp, ig, p0, tk, ki, tu, tf, ga, sd, rfl, hIg, hTu, hPz⟩
  have k6 := fun q q2 => r6 q q2 _ ⟨a0, ib, sm, pl, lo, nu, kp, ig, p0, tk, ki, tu, tf, ga, sd, rfl, hIg, hTu, hPz⟩
  have k2 := fun q q2 q3 => r2 q q2 q3 _ ⟨a0, ib, sm, pl, lo, nu, kp, ig, p0, tk, ki, tu, tf, ga, sd, rfl, hIg, hTu, hPz⟩
  refine g8_ (L := [some (.ref 90), some (.int (zI n)), some (.int (zI z)), some (.int (zI w)), none, none, none, none, none]) ok_M_lots (Nat.le_of_ble_eq_true rfl) rfl ?_
  refine w_M_lots_0 ?_
  simp (disch := omega) only [cm_,aq_,ay_,ag_,b8_,af_,cg_,ba_,bc_,bx_,bb_,bh_,bl_,ae_,ac_,b2_,bq_,ed_,bs_,ao_,a2_,az_,av_,aw_,dw_,d6_,ea_,d3_,b5_,fl_,fn_,fh_,fu_,fp_,fz_,fq_,fk_,fr_,fs_,f0_,c5_,bt_,bd_,c3_,cx_,cr_,cf_,ch_,ci_,an_,cl_,d1_,cq_,Int.toNat_natCast,f3_,di_,dm_,dn_,gv_,g1_,gu_,gt_,f4_,Int.add_zero,Int.zero_add,Int.ediv_one,Nat.reduceAdd,Nat.reduceMul,Int.reduceNeg,Nat.reduceLeDiff,List.length_cons,List.length_nil,true_and,and_true,Nat.zero_add,eq_self,Nat.reduceEqDiff,Int.reduceAdd,Int.reduceSub,Int.reduceMul,not_true_eq_false,not_false_eq_true,Nat.reduceLT,Int.reduceToNat,Int.reduceEq,Int.reduceNe,Int.reduceLT,Int.reduceLE,false_implies,true_implies]
  refine con_MwrongNumber hn (by unfold inI; omega) (by unfold inI; omega) (fun c2 => ?_) (fun c2 c3 => ?_) (fun c2 c3 => ?_)
  · simp (disch := omega) only [cm_,aq_,ay_,ag_,b8_,af_,cg_,ba_,bc_,bx_,bb_,bh_,bl_,ae_,ac_,b2_,bq_,ed_,bs_,ao_,a2_,az_,av_,aw_,dw_,d6_,ea_,d3_,b5_,fl_,fn_,fh_,fu_,fp_,fz_,fq_,fk_,fr_,fs_,f0_,c5_,bt_,bd_,c3_,cx_,cr_,cf_,ch_,ci_,an_,cl_,d1_,cq_,Int.toNat_natCast,f3_,di_,dm_,dn_,gv_,g1_,gu_,gt_,f4_,Int.add_zero,Int.zero_add,Int.ediv_one,Nat.reduceAdd,Nat.reduceMul,Int.reduceNeg,Nat.reduceLeDiff,List.length_cons,List.length_nil,true_and,and_true,Nat.zero_add,eq_self,Nat.reduceEqDiff,Int.reduceAdd,Int.reduceSub,Int.reduceMul,not_true_eq_false,not_false_eq_true,Nat.reduceLT,Int.reduceToNat,Int.reduceEq,Int.reduceNe,Int.reduceLT,Int.reduceLE,false_implies,true_implies]
    refine con_MwrongBit (by unfold inI; omega) hw (by unfold inI; omega) (fun q => by omega) (fun _ => ?_)
    simp (disch := omega) only [cm_,aq_,ay_,ag_,b8_,af_,cg_,ba_,bc_,bx_,bb_,bh_,bl_,ae_,ac_,b2_,bq_,ed_,bs_,ao_,a2_,az_,av_,aw_,dw_,d6_,ea_,d3_,b5_,fl_,fn_,fh_,fu_,fp_,fz_,fq_,fk_,fr_,fs_,f0_,c5_,bt_,bd_,c3_,cx_,cr_,cf_,ch_,ci_,an_,cl_,d1_,cq_,Int.toNat_natCast,f3_,di_,dm_,dn_,gv_,g1_,gu_,gt_,f4_,Int.add_zero,Int.zero_add,Int.ediv_one,Nat.reduceAdd,Nat.reduceMul,Int.reduceNeg,Nat.reduceLeDiff,List.length_cons,List.length_nil,true_and,and_true,Nat.zero_add,eq_self,Nat.reduceEqDiff,Int.reduceAdd,Int.reduceSub,Int.reduceMul,not_true_eq_false,not_false_eq_true,Nat.reduceLT,Int.reduceToNat,Int.reduceEq,Int.reduceNe,Int.reduceLT,Int.reduceLE,false_implies,true_implies]
    refine con_Mrefuse (k := 4) (by omega) ?_
    simp (disch := omega) only [cm_,aq_,ay_,ag_,b8_,af_,cg_,ba_,bc_,bx_,bb_,bh_,bl_,ae_,ac_,b2_,bq_,ed_,bs_,ao_,a2_,az_,av_,aw_,dw_,d6_,ea_,d3_,b5_,fl_,fn_,fh_,fu_,fp_,fz_,fq_,fk_,fr_,fs_,f0_,c5_,bt_,bd_,c3_,cx_,cr_,cf_,ch_,ci_,an_,cl_,d1_,cq_,Int.toNat_natCast,f3_,di_,dm_,dn_,gv_,g1_,gu_,gt_,f4_,Int.add_zero,Int.zero_add,Int.ediv_one,Nat.reduceAdd,Nat.reduceMul,Int.reduceNeg,Nat.reduceLeDiff,List.length_cons,List.length_nil,true_and,and_true,Nat.zero_add,eq_self,Nat.reduceEqDiff,Int.reduceAdd,Int.reduceSub,Int.reduceMul,not_true_eq_false,not_false_eq_true,Nat.reduceLT,Int.reduceToNat,Int.reduceEq,Int.reduceNe,Int.reduceLT,Int.reduceLE,false_implies,true_implies]
    exact k4 c2
  · simp (disch := omega) only [cm_,aq_,ay_,ag_,b8_,af_,cg_,ba_,bc_,bx_,bb_,bh_,bl_,ae_,ac_,b2_,bq_,ed_,bs_,ao_,a2_,az_,av_,aw_,dw_,d6_,ea_,d3_,b5_,fl_,fn_,fh_,fu_,fp_,fz_,fq_,fk_,fr_,fs_,f0_,c5_,bt_,bd_,c3_,cx_,cr_,cf_,ch_,ci_,an_,cl_,d1_,cq_,Int.toNat_natCast,f3_,di_,dm_,dn_,gv_,g1_,gu_,gt_,f4_,Int.add_zero,Int.zero_add,Int.ediv_one,Nat.reduceAdd,Nat.reduceMul,Int.reduceNeg,Nat.reduceLeDiff,List.length_cons,List.length_nil,true_and,and_true,Nat.zero_add,eq_self,Nat.reduceEqDiff,Int.reduceAdd,Int.reduceSub,Int.reduceMul,not_true_eq_false,not_false_eq_true,Nat.reduceLT,Int.reduceToNat,Int.reduceEq,Int.reduceNe,Int.reduceLT,Int.reduceLE,false_implies,true_implies]
    refine con_MwrongBit (by unfold inI; omega) hw (by unfold inI; omega) (fun q => by omega) (fun _ => ?_)
    simp (disch := omega) only [cm_,aq_,ay_,ag_,b8_,af_,cg_,ba_,bc_,bx_,bb_,bh_,bl_,ae_,ac_,b2_,bq_,ed_,bs_,ao_,a2_,az_,av_,aw_,dw_,d6_,ea_,d3_,b5_,fl_,fn_,fh_,fu_,fp_,fz_,fq_,fk_,fr_,fs_,f0_,c5_,bt_,bd_,c3_,cx_,cr_,cf_,ch_,ci_,an_,cl_,d1_,cq_,Int.toNat_natCast,f3_,di_,dm_,dn_,gv_,g1_,gu_,gt_,f4_,Int.add_zero,Int.zero_add,Int.ediv_one,Nat.reduceAdd,Nat.reduceMul,Int.reduceNeg,Nat.reduceLeDiff,List.length_cons,List.length_nil,true_and,and_true,Nat.zero_add,eq_self,Nat.reduceEqDiff,Int.reduceAdd,Int.reduceSub,Int.reduceMul,not_true_eq_false,not_false_eq_true,Nat.reduceLT,Int.reduceToNat,Int.reduceEq,Int.reduceNe,Int.reduceLT,Int.reduceLE,false_implies,true_implies]
    refine con_Mrefuse (k := 6) (by omega) ?_
    simp (disch := omega) only [cm_,aq_,ay_,ag_,b8_,af_,cg_,ba_,bc_,bx_,bb_,bh_,bl_,ae_,ac_,b2_,bq_,ed_,bs_,ao_,a2_,az_,av_,aw_,dw_,d6_,ea_,d3_,b5_,fl_,fn_,fh_,fu_,fp_,fz_,fq_,fk_,fr_,fs_,f0_,c5_,bt_,bd_,c3_,cx_,cr_,cf_,ch_,ci_,an_,cl_,d1_,cq_,Int.toNat_natCast,f3_,di_,dm_,dn_,gv_,g1_,gu_,gt_,f4_,Int.add_zero,Int.zero_add,Int.ediv_one,Nat.reduceAdd,Nat.reduceMul,Int.reduceNeg,Nat.reduceLeDiff,List.length_cons,List.length_nil,true_and,and_true,Nat.zero_add,eq_self,Nat.reduceEqDiff,Int.reduceAdd,Int.reduceSub,Int.reduceMul,not_true_eq_false,not_false_eq_true,Nat.reduceLT,Int.reduceToNat,Int.reduceEq,Int.reduceNe,Int.reduceLT,Int.reduceLE,false_implies,true_implies]
    exact k6 c2 c3
  · simp (disch := omega) only [cm_,aq_,ay_,ag_,b8_,af_,cg_,ba_,bc_,bx_,bb_,bh_,bl_,ae_,ac_,b2_,bq_,ed_,bs_,ao_,a2_,az_,av_,aw_,dw_,d6_,ea_,d3_,b5_,fl_,fn_,fh_,fu_,fp_,fz_,fq_,fk_,fr_,fs_,f0_,c5_,bt_,bd_,c3_,cx_,cr_,cf_,ch_,ci_,an_,cl_,d1_,cq_,Int.toNat_natCast,f3_,di_,dm_,dn_,gv_,g1_,gu_,gt_,f4_,Int.add_zero,Int.zero_add,Int.ediv_one,Nat.reduceAdd,Nat.reduceMul,Int.reduceNeg,Nat.reduceLeDiff,List.length_cons,List.length_nil,true_and,and_true,Nat.zero_add,eq_self,Nat.reduceEqDiff,Int.reduceAdd,Int.reduceSub,Int.reduceMul,not_true_eq_false,not_false_eq_true,Nat.reduceLT,Int.reduceToNat,Int.reduceEq,Int.reduceNe,Int.reduceLT,Int.reduceLE,false_implies,true_implies]
    refine con_MwrongBit (by unfold inI; omega) hw (by unfold inI; omega) (fun _ c4 => ?_) (fun c4 => ?_)
    · simp (disch := omega) only [cm_,aq_,ay_,ag_,b8_,af_,cg_,ba_,bc_,bx_,bb_,bh_,bl_,ae_,ac_,b2_,bq_,ed_,bs_,ao_,a2_,az_,av_,aw_,dw_,d6_,ea_,d3_,b5_,fl_,fn_,fh_,fu_,fp_,fz_,fq_,fk_,fr_,fs_,f0_,c5_,bt_,bd_,c3_,cx_,cr_,cf_,ch_,ci_,an_,cl_,d1_,cq_,Int.toNat_natCast,f3_,di_,dm_,dn_,gv_,g1_,gu_,gt_,f4_,Int.add_zero,Int.zero_add,Int.ediv_one,Nat.reduceAdd,Nat.reduceMul,Int.reduceNeg,Nat.reduceLeDiff,List.length_cons,List.length_nil,true_and,and_true,Nat.zero_add,eq_self,Nat.reduceEqDiff,Int.reduceAdd,Int.reduceSub,Int.reduceMul,not_true_eq_false,not_false_eq_true,Nat.reduceLT,Int.reduceToNat,Int.reduceEq,Int.reduceNe,Int.reduceLT,Int.reduceLE,false_implies,true_implies]
      refine con_Mrefuse (k := 2) (by omega) ?_
      simp (disch := omega) only [cm_,aq_,ay_,ag_,b8_,af_,cg_,ba_,bc_,bx_,bb_,bh_,bl_,ae_,ac_,b2_,bq_,ed_,bs_,ao_,a2_,az_,av_,aw_,dw_,d6_,ea_,d3_,b5_,fl_,fn_,fh_,fu_,fp_,fz_,fq_,fk_,fr_,fs_,f0_,c5_,bt_,bd_,c3_,cx_,cr_,cf_,ch_,ci_,an_,cl_,d1_,cq_,Int.toNat_natCast,f3_,di_,dm_,dn_,gv_,g1_,gu_,gt_,f4_,Int.add_zero,Int.zero_add,Int.ediv_one,Nat.reduceAdd,Nat.reduceMul,Int.reduceNeg,Nat.reduceLeDiff,List.length_cons,List.length_nil,true_and,and_true,Nat.zero_add,eq_self,Nat.reduceEqDiff,Int.reduceAdd,Int.reduceSub,Int.reduceMul,not_true_eq_false,not_false_eq_true,Nat.reduceLT,Int.reduceToNat,Int.reduceEq,Int.reduceNe,Int.reduceLT,Int.reduceLE,false_implies,true_implies]
      exact k2 c2 c3 (by omega)
    · have c4 := c4 rfl
      have ok := ok c2 c3 (by omega)
      have hnn : n = (n.toNat : Int) := by omega
      rw [show (if w = 0 then lgN g6_ R z n.toNat else ldN g6_ R z n.toNat) = lsN R z w n.toNat from rfl] at ok
      have gk := hG.king
      rw [hnn]
      simp (disch := omega) only [cm_,aq_,ay_,ag_,b8_,af_,cg_,ba_,bc_,bx_,bb_,bh_,bl_,ae_,ac_,b2_,bq_,ed_,bs_,ao_,a2_,az_,av_,aw_,dw_,d6_,ea_,d3_,b5_,fl_,fn_,fh_,fu_,fp_,fz_,fq_,fk_,fr_,fs_,f0_,c5_,bt_,bd_,c3_,cx_,cr_,cf_,ch_,ci_,an_,cl_,d1_,cq_,Int.toNat_natCast,f3_,di_,dm_,dn_,gv_,g1_,gu_,gt_,f4_,Int.add_zero,Int.zero_add,Int.ediv_one,Nat.reduceAdd,Nat.reduceMul,Int.reduceNeg,Nat.reduceLeDiff,List.length_cons,List.length_nil,true_and,and_true,Nat.zero_add,eq_self,Nat.reduceEqDiff,Int.reduceAdd,Int.reduceSub,Int.reduceMul,not_true_eq_false,not_false_eq_true,Nat.reduceLT,Int.reduceToNat,Int.reduceEq,Int.reduceNe,Int.reduceLT,Int.reduceLE,false_implies,true_implies]
      refine w_M_lots_31 ?_
      simp (disch := omega) only [cm_,aq_,ay_,ag_,b8_,af_,cg_,ba_,bc_,bx_,bb_,bh_,bl_,ae_,ac_,b2_,bq_,ed_,bs_,ao_,a2_,az_,av_,aw_,dw_,d6_,ea_,d3_,b5_,fl_,fn_,fh_,fu_,fp_,fz_,fq_,fk_,fr_,fs_,f0_,c5_,bt_,bd_,c3_,cx_,cr_,cf_,ch_,ci_,an_,cl_,d1_,cq_,Int.toNat_natCast,f3_,di_,dm_,dn_,gv_,g1_,gu_,gt_,f4_,Int.add_zero,Int.zero_add,Int.ediv_one,Nat.reduceAdd,Nat.reduceMul,Int.reduceNeg,Nat.reduceLeDiff,List.length_cons,List.length_nil,true_and,and_true,Nat.zero_add,eq_self,Nat.reduceEqDiff,Int.reduceAdd,Int.reduceSub,Int.reduceMul,not_true_eq_false,not_false_eq_true,Nat.reduceLT,Int.reduceToNat,Int.reduceEq,Int.reduceNe,Int.reduceLT,Int.reduceLE,false_implies,true_implies]
      refine con_Mthink (fun x hx => ?_)
      simp (disch := omega) only [cm_,aq_,ay_,ag_,b8_,af_,cg_,ba_,bc_,bx_,bb_,bh_,bl_,ae_,ac_,b2_,bq_,ed_,bs_,ao_,a2_,az_,av_,aw_,dw_,d6_,ea_,d3_,b5_,fl_,fn_,fh_,fu_,fp_,fz_,fq_,fk_,fr_,fs_,f0_,c5_,bt_,bd_,c3_,cx_,cr_,cf_,ch_,ci_,an_,cl_,d1_,cq_,Int.toNat_natCast,f3_,di_,dm_,dn_,gv_,g1_,gu_,gt_,f4_,Int.add_zero,Int.zero_add,Int.ediv_one,Nat.reduceAdd,Nat.reduceMul,Int.reduceNeg,Nat.reduceLeDiff,List.length_cons,List.length_nil,true_and,and_true,Nat.zero_add,eq_self,Nat.reduceEqDiff,Int.reduceAdd,Int.reduceSub,Int.reduceMul,not_true_eq_false,not_false_eq_true,Nat.reduceLT,Int.reduceToNat,Int.reduceEq,Int.reduceNe,Int.reduceLT,Int.reduceLE,false_implies,true_implies]
      have outer : ∀ k i : Nat, i + k = n.toNat → ∀ tk y, J M_M_lots 52 [some (.ref 90), some (.int (zI (n.toNat : Int))), some (.int (zI z)), some (.int (zI w)), some (.int (zI 0)), some (.int (zI (lsN R z w i))), some (.int (zI (hd_ R))), some (.int (zI i)), y] [] (HM R rf lt lsz a0 ib sm pl lo nu (x) ig (im) (49) (tk) (.ref 101) tu (pz) tf tn tsz ga (sdN z (12 * i)) bb) Q := by
        intro k
        induction k with
        | zero =>
          intro i hi tk y
          have e : i = n.toNat := by omega
          subst e
          refine w_M_lots_52 ?_
          simp (disch := omega) only [cm_,aq_,ay_,ag_,b8_,af_,cg_,ba_,bc_,bx_,bb_,bh_,bl_,ae_,ac_,b2_,bq_,ed_,bs_,ao_,a2_,az_,av_,aw_,dw_,d6_,ea_,d3_,b5_,fl_,fn_,fh_,fu_,fp_,fz_,fq_,fk_,fr_,fs_,f0_,c5_,bt_,bd_,c3_,cx_,cr_,cf_,ch_,ci_,an_,cl_,d1_,cq_,Int.toNat_natCast,f3_,di_,dm_,dn_,gv_,g1_,gu_,gt_,f4_,Int.add_zero,Int.zero_add,Int.ediv_one,Nat.reduceAdd,Nat.reduceMul,Int.reduceNeg,Nat.reduceLeDiff,List.length_cons,List.length_nil,true_and,and_true,Nat.zero_add,eq_self,Nat.reduceEqDiff,Int.reduceAdd,Int.reduceSub,Int.reduceMul,not_true_eq_false,not_false_eq_true,Nat.reduceLT,Int.reduceToNat,Int.reduceEq,Int.reduceNe,Int.reduceLT,Int.reduceLE,false_implies,true_implies]
          refine ⟨fun _ => ?_, fun q => by omega⟩
          refine w_M_lots_130 ?_
          simp (disch := omega) only [cm_,aq_,ay_,ag_,b8_,af_,cg_,ba_,bc_,bx_,bb_,bh_,bl_,ae_,ac_,b2_,bq_,ed_,bs_,ao_,a2_,az_,av_,aw_,dw_,d6_,ea_,d3_,b5_,fl_,fn_,fh_,fu_,fp_,fz_,fq_,fk_,fr_,fs_,f0_,c5_,bt_,bd_,c3_,cx_,cr_,cf_,ch_,ci_,an_,cl_,d1_,cq_,Int.toNat_natCast,f3_,di_,dm_,dn_,gv_,g1_,gu_,gt_,f4_,Int.add_zero,Int.zero_add,Int.ediv_one,Nat.reduceAdd,Nat.reduceMul,Int.reduceNeg,Nat.reduceLeDiff,List.length_cons,List.length_nil,true_and,and_true,Nat.zero_add,eq_self,Nat.reduceEqDiff,Int.reduceAdd,Int.reduceSub,Int.reduceMul,not_true_eq_false,not_false_eq_true,Nat.reduceLT,Int.reduceToNat,Int.reduceEq,Int.reduceNe,Int.reduceLT,Int.reduceLE,false_implies,true_implies]
          exact ok _ ⟨_, _, _, _, _, _, _, _, _, _, _, _, _, _, _, rfl, hIg, hTu, hPz⟩
        | succ k ih =>
          intro i hi tk y
          have sr := lsN_rng hG z w i
          have inner : ∀ m s : Nat, s + m = 12 → J M_M_lots 61 [some (.ref 90), some (.int (zI (n.toNat : Int))), some (.int (zI z)), some (.int (zI w)), some (.int (zI 0)), some (.int (zI (lsN R z w i))), some (.int (zI (hd_ R))), some (.int (zI i)), some (.int (zI s))] [] (HM (lotR R z i s) rf lt lsz a0 ib sm pl lo nu (x) ig (im) (49) (tk) (.ref 101) tu (pz) tf tn tsz ga (sdN z (12 * i + s)) bb) Q := by
            intro m
            induction m with
            | zero =>
              intro s hs
              have e : s = 12 := by omega
              subst e
              have hL := hI.lot z i 12 (by omega)
              have hM := (hL.dsX 15).1.nM
              have hk := (hL.dsX 15).1.king
              have hm := mask_256 (isF (g6_ (lotR R z i 12) 15) 2) hM.2
              have step := ih (i + 1) (by omega)
              rw [show 12 * (i + 1) = 12 * i + 12 by omega] at step
              refine w_M_lots_61 ?_
              simp (disch := omega) only [cm_,aq_,ay_,ag_,b8_,af_,cg_,ba_,bc_,bx_,bb_,bh_,bl_,ae_,ac_,b2_,bq_,ed_,bs_,ao_,a2_,az_,av_,aw_,dw_,d6_,ea_,d3_,b5_,fl_,fn_,fh_,fu_,fp_,fz_,fq_,fk_,fr_,fs_,f0_,c5_,bt_,bd_,c3_,cx_,cr_,cf_,ch_,ci_,an_,cl_,d1_,cq_,Int.toNat_natCast,f3_,di_,dm_,dn_,gv_,g1_,gu_,gt_,f4_,Int.add_zero,Int.zero_add,Int.ediv_one,Nat.reduceAdd,Nat.reduceMul,Int.reduceNeg,Nat.reduceLeDiff,List.length_cons,List.length_nil,true_and,and_true,Nat.zero_add,eq_self,Nat.reduceEqDiff,Int.reduceAdd,Int.reduceSub,Int.reduceMul,not_true_eq_false,not_false_eq_true,Nat.reduceLT,Int.reduceToNat,Int.reduceEq,Int.reduceNe,Int.reduceLT,Int.reduceLE,false_implies,true_implies]
              refine w_M_lots_87 ?_
              simp (disch := omega) only [cm_,aq_,ay_,ag_,b8_,af_,cg_,ba_,bc_,bx_,bb_,bh_,bl_,ae_,ac_,b2_,bq_,ed_,bs_,ao_,a2_,az_,av_,aw_,dw_,d6_,ea_,d3_,b5_,fl_,fn_,fh_,fu_,fp_,fz_,fq_,fk_,fr_,fs_,f0_,c5_,bt_,bd_,c3_,cx_,cr_,cf_,ch_,ci_,an_,cl_,d1_,cq_,Int.toNat_natCast,f3_,di_,dm_,dn_,gv_,g1_,gu_,gt_,f4_,Int.add_zero,Int.zero_add,Int.ediv_one,Nat.reduceAdd,Nat.reduceMul,Int.reduceNeg,Nat.reduceLeDiff,List.length_cons,List.length_nil,true_and,and_true,Nat.zero_add,eq_self,Nat.reduceEqDiff,Int.reduceAdd,Int.reduceSub,Int.reduceMul,not_true_eq_false,not_false_eq_true,Nat.reduceLT,Int.reduceToNat,Int.reduceEq,Int.reduceNe,Int.reduceLT,Int.reduceLE,false_implies,true_implies]
              refine con_MgoDays (n := 15) (by omega) hL ?_
              simp (disch := omega) only [cm_,aq_,ay_,ag_,b8_,af_,cg_,ba_,bc_,bx_,bb_,bh_,bl_,ae_,ac_,b2_,bq_,ed_,bs_,ao_,a2_,az_,av_,aw_,dw_,d6_,ea_,d3_,b5_,fl_,fn_,fh_,fu_,fp_,fz_,fq_,fk_,fr_,fs_,f0_,c5_,bt_,bd_,c3_,cx_,cr_,cf_,ch_,ci_,an_,cl_,d1_,cq_,Int.toNat_natCast,f3_,di_,dm_,dn_,gv_,g1_,gu_,gt_,f4_,Int.add_zero,Int.zero_add,Int.ediv_one,Nat.reduceAdd,Nat.reduceMul,Int.reduceNeg,Nat.reduceLeDiff,List.length_cons,List.length_nil,true_and,and_true,Nat.zero_add,eq_self,Nat.reduceEqDiff,Int.reduceAdd,Int.reduceSub,Int.reduceMul,not_true_eq_false,not_false_eq_true,Nat.reduceLT,Int.reduceToNat,Int.reduceEq,Int.reduceNe,Int.reduceLT,Int.reduceLE,false_implies,true_implies]
              refine ⟨fun c5 => ?_, fun c5 => ?_⟩
              · have el : lsN R z w (i + 1) = lsN R z w i + ((pop8 (mask (isF (g6_ (lotR R z i 12) 15) 2) (hb_ (g6_ (lotR R z i 12) 15))) : Nat) : Int) := by
                  simp only [lsN, ldN]
                  rw [if_neg (by omega), if_neg (by omega)]
                rw [el] at step
                refine w_M_lots_109 ?_
                simp (disch := omega) only [cm_,aq_,ay_,ag_,b8_,af_,cg_,ba_,bc_,bx_,bb_,bh_,bl_,ae_,ac_,b2_,bq_,ed_,bs_,ao_,a2_,az_,av_,aw_,dw_,d6_,ea_,d3_,b5_,fl_,fn_,fh_,fu_,fp_,fz_,fq_,fk_,fr_,fs_,f0_,c5_,bt_,bd_,c3_,cx_,cr_,cf_,ch_,ci_,an_,cl_,d1_,cq_,Int.toNat_natCast,f3_,di_,dm_,dn_,gv_,g1_,gu_,gt_,f4_,Int.add_zero,Int.zero_add,Int.ediv_one,Nat.reduceAdd,Nat.reduceMul,Int.reduceNeg,Nat.reduceLeDiff,List.length_cons,List.length_nil,true_and,and_true,Nat.zero_add,eq_self,Nat.reduceEqDiff,Int.reduceAdd,Int.reduceSub,Int.reduceMul,not_true_eq_false,not_false_eq_true,Nat.reduceLT,Int.reduceToNat,Int.reduceEq,Int.reduceNe,Int.reduceLT,Int.reduceLE,false_implies,true_implies]
                refine con_MbitsOf (by unfold inI; omega) (hL.dsX 15).1 ?_
                simp (disch := omega) only [cm_,aq_,ay_,ag_,b8_,af_,cg_,ba_,bc_,bx_,bb_,bh_,bl_,ae_,ac_,b2_,bq_,ed_,bs_,ao_,a2_,az_,av_,aw_,dw_,d6_,ea_,d3_,b5_,fl_,fn_,fh_,fu_,fp_,fz_,fq_,fk_,fr_,fs_,f0_,c5_,bt_,bd_,c3_,cx_,cr_,cf_,ch_,ci_,an_,cl_,d1_,cq_,Int.toNat_natCast,f3_,di_,dm_,dn_,gv_,g1_,gu_,gt_,f4_,Int.add_zero,Int.zero_add,Int.ediv_one,Nat.reduceAdd,Nat.reduceMul,Int.reduceNeg,Nat.reduceLeDiff,List.length_cons,List.length_nil,true_and,and_true,Nat.zero_add,eq_self,Nat.reduceEqDiff,Int.reduceAdd,Int.reduceSub,Int.reduceMul,not_true_eq_false,not_false_eq_true,Nat.reduceLT,Int.reduceToNat,Int.reduceEq,Int.reduceNe,Int.reduceLT,Int.reduceLE,false_implies,true_implies]
                refine con_MonesOf hm ?_
                simp (disch := omega) only [cm_,aq_,ay_,ag_,b8_,af_,cg_,ba_,bc_,bx_,bb_,bh_,bl_,ae_,ac_,b2_,bq_,ed_,bs_,ao_,a2_,az_,av_,aw_,dw_,d6_,ea_,d3_,b5_,fl_,fn_,fh_,fu_,fp_,fz_,fq_,fk_,fr_,fs_,f0_,c5_,bt_,bd_,c3_,cx_,cr_,cf_,ch_,ci_,an_,cl_,d1_,cq_,Int.toNat_natCast,f3_,di_,dm_,dn_,gv_,g1_,gu_,gt_,f4_,Int.add_zero,Int.zero_add,Int.ediv_one,Nat.reduceAdd,Nat.reduceMul,Int.reduceNeg,Nat.reduceLeDiff,List.length_cons,List.length_nil,true_and,and_true,Nat.zero_add,eq_self,Nat.reduceEqDiff,Int.reduceAdd,Int.reduceSub,Int.reduceMul,not_true_eq_false,not_false_eq_true,Nat.reduceLT,Int.reduceToNat,Int.reduceEq,Int.reduceNe,Int.reduceLT,Int.reduceLE,false_implies,true_implies]
                refine w_M_lots_117 ?_
                simp (disch := omega) only [cm_,aq_,ay_,ag_,b8_,af_,cg_,ba_,bc_,bx_,bb_,bh_,bl_,ae_,ac_,b2_,bq_,ed_,bs_,ao_,a2_,az_,av_,aw_,dw_,d6_,ea_,d3_,b5_,fl_,fn_,fh_,fu_,fp_,fz_,fq_,fk_,fr_,fs_,f0_,c5_,bt_,bd_,c3_,cx_,cr_,cf_,ch_,ci_,an_,cl_,d1_,cq_,Int.toNat_natCast,f3_,di_,dm_,dn_,gv_,g1_,gu_,gt_,f4_,Int.add_zero,Int.zero_add,Int.ediv_one,Nat.reduceAdd,Nat.reduceMul,Int.reduceNeg,Nat.reduceLeDiff,List.length_cons,List.length_nil,true_and,and_true,Nat.zero_add,eq_self,Nat.reduceEqDiff,Int.reduceAdd,Int.reduceSub,Int.reduceMul,not_true_eq_false,not_false_eq_true,Nat.reduceLT,Int.reduceToNat,Int.reduceEq,Int.reduceNe,Int.reduceLT,Int.reduceLE,false_implies,true_implies]
                refine con_Magain hx (hL.dsX 15).2.2 hI.2.2 ?_
                simp (disch := omega) only [cm_,aq_,ay_,ag_,b8_,af_,cg_,ba_,bc_,bx_,bb_,bh_,bl_,ae_,ac_,b2_,bq_,ed_,bs_,ao_,a2_,az_,av_,aw_,dw_,d6_,ea_,d3_,b5_,fl_,fn_,fh_,fu_,fp_,fz_,fq_,fk_,fr_,fs_,f0_,c5_,bt_,bd_,c3_,cx_,cr_,cf_,ch_,ci_,an_,cl_,d1_,cq_,Int.toNat_natCast,f3_,di_,dm_,dn_,gv_,g1_,gu_,gt_,f4_,Int.add_zero,Int.zero_add,Int.ediv_one,Nat.reduceAdd,Nat.reduceMul,Int.reduceNeg,Nat.reduceLeDiff,List.length_cons,List.length_nil,true_and,and_true,Nat.zero_add,eq_self,Nat.reduceEqDiff,Int.reduceAdd,Int.reduceSub,Int.reduceMul,not_true_eq_false,not_false_eq_true,Nat.reduceLT,Int.reduceToNat,Int.reduceEq,Int.reduceNe,Int.reduceLT,Int.reduceLE,false_implies,true_implies]
                exact step _ _
              · have el : lsN R z w (i + 1) = lsN R z w i + (hd_ (g6_ (lotR R z i 12) 15) - hd_ R) := by
                  simp only [lsN, lgN]
                  rw [if_pos (by omega), if_pos (by omega)]
                rw [el] at step
                refine w_M_lots_117 ?_
                simp (disch := omega) only [cm_,aq_,ay_,ag_,b8_,af_,cg_,ba_,bc_,bx_,bb_,bh_,bl_,ae_,ac_,b2_,bq_,ed_,bs_,ao_,a2_,az_,av_,aw_,dw_,d6_,ea_,d3_,b5_,fl_,fn_,fh_,fu_,fp_,fz_,fq_,fk_,fr_,fs_,f0_,c5_,bt_,bd_,c3_,cx_,cr_,cf_,ch_,ci_,an_,cl_,d1_,cq_,Int.toNat_natCast,f3_,di_,dm_,dn_,gv_,g1_,gu_,gt_,f4_,Int.add_zero,Int.zero_add,Int.ediv_one,Nat.reduceAdd,Nat.reduceMul,Int.reduceNeg,Nat.reduceLeDiff,List.length_cons,List.length_nil,true_and,and_true,Nat.zero_add,eq_self,Nat.reduceEqDiff,Int.reduceAdd,Int.reduceSub,Int.reduceMul,not_true_eq_false,not_false_eq_true,Nat.reduceLT,Int.reduceToNat,Int.reduceEq,Int.reduceNe,Int.reduceLT,Int.reduceLE,false_implies,true_implies]
                refine con_Magain hx (hL.dsX 15).2.2 hI.2.2 ?_
                simp (disch := omega) only [cm_,aq_,ay_,ag_,b8_,af_,cg_,ba_,bc_,bx_,bb_,bh_,bl_,ae_,ac_,b2_,bq_,ed_,bs_,ao_,a2_,az_,av_,aw_,dw_,d6_,ea_,d3_,b5_,fl_,fn_,fh_,fu_,fp_,fz_,fq_,fk_,fr_,fs_,f0_,c5_,bt_,bd_,c3_,cx_,cr_,cf_,ch_,ci_,an_,cl_,d1_,cq_,Int.toNat_natCast,f3_,di_,dm_,dn_,gv_,g1_,gu_,gt_,f4_,Int.add_zero,Int.zero_add,Int.ediv_one,Nat.reduceAdd,Nat.reduceMul,Int.reduceNeg,Nat.reduceLeDiff,List.length_cons,List.length_nil,true_and,and_true,Nat.zero_add,eq_self,Nat.reduceEqDiff,Int.reduceAdd,Int.reduceSub,Int.reduceMul,not_true_eq_false,not_false_eq_true,Nat.reduceLT,Int.reduceToNat,Int.reduceEq,Int.reduceNe,Int.reduceLT,Int.reduceLE,false_implies,true_implies]
                exact step _ _
            | succ m ihm =>
              intro s hs
              have step := ihm (s + 1) (by omega)
              have e1 : sdN z (12 * i + (s + 1)) = nxS (sdN z (12 * i + s)) := rfl
              rw [e1, lot_more] at step
              refine w_M_lots_61 ?_
              simp (disch := omega) only [cm_,aq_,ay_,ag_,b8_,af_,cg_,ba_,bc_,bx_,bb_,bh_,bl_,ae_,ac_,b2_,bq_,ed_,bs_,ao_,a2_,az_,av_,aw_,dw_,d6_,ea_,d3_,b5_,fl_,fn_,fh_,fu_,fp_,fz_,fq_,fk_,fr_,fs_,f0_,c5_,bt_,bd_,c3_,cx_,cr_,cf_,ch_,ci_,an_,cl_,d1_,cq_,Int.toNat_natCast,f3_,di_,dm_,dn_,gv_,g1_,gu_,gt_,f4_,Int.add_zero,Int.zero_add,Int.ediv_one,Nat.reduceAdd,Nat.reduceMul,Int.reduceNeg,Nat.reduceLeDiff,List.length_cons,List.length_nil,true_and,and_true,Nat.zero_add,eq_self,Nat.reduceEqDiff,Int.reduceAdd,Int.reduceSub,Int.reduceMul,not_true_eq_false,not_false_eq_true,Nat.reduceLT,Int.reduceToNat,Int.reduceEq,Int.reduceNe,Int.reduceLT,Int.reduceLE,false_implies,true_implies]
              refine ⟨fun q => by omega, fun _ => ?_⟩
              refine con_MdrawBelow ?_
              simp (disch := omega) only [cm_,aq_,ay_,ag_,b8_,af_,cg_,ba_,bc_,bx_,bb_,bh_,bl_,ae_,ac_,b2_,bq_,ed_,bs_,ao_,a2_,az_,av_,aw_,dw_,d6_,ea_,d3_,b5_,fl_,fn_,fh_,fu_,fp_,fz_,fq_,fk_,fr_,fs_,f0_,c5_,bt_,bd_,c3_,cx_,cr_,cf_,ch_,ci_,an_,cl_,d1_,cq_,Int.toNat_natCast,f3_,di_,dm_,dn_,gv_,g1_,gu_,gt_,f4_,Int.add_zero,Int.zero_add,Int.ediv_one,Nat.reduceAdd,Nat.reduceMul,Int.reduceNeg,Nat.reduceLeDiff,List.length_cons,List.length_nil,true_and,and_true,Nat.zero_add,eq_self,Nat.reduceEqDiff,Int.reduceAdd,Int.reduceSub,Int.reduceMul,not_true_eq_false,not_false_eq_true,Nat.reduceLT,Int.reduceToNat,Int.reduceEq,Int.reduceNe,Int.reduceLT,Int.reduceLE,false_implies,true_implies]
              refine ⟨by omega, ?_⟩
              exact step
          have i0 := inner 12 0 rfl
          rw [lot_0] at i0
          refine w_M_lots_52 ?_
          simp (disch := omega) only [cm_,aq_,ay_,ag_,b8_,af_,cg_,ba_,bc_,bx_,bb_,bh_,bl_,ae_,ac_,b2_,bq_,ed_,bs_,ao_,a2_,az_,av_,aw_,dw_,d6_,ea_,d3_,b5_,fl_,fn_,fh_,fu_,fp_,fz_,fq_,fk_,fr_,fs_,f0_,c5_,bt_,bd_,c3_,cx_,cr_,cf_,ch_,ci_,an_,cl_,d1_,cq_,Int.toNat_natCast,f3_,di_,dm_,dn_,gv_,g1_,gu_,gt_,f4_,Int.add_zero,Int.zero_add,Int.ediv_one,Nat.reduceAdd,Nat.reduceMul,Int.reduceNeg,Nat.reduceLeDiff,List.length_cons,List.length_nil,true_and,and_true,Nat.zero_add,eq_self,Nat.reduceEqDiff,Int.reduceAdd,Int.reduceSub,Int.reduceMul,not_true_eq_false,not_false_eq_true,Nat.reduceLT,Int.reduceToNat,Int.reduceEq,Int.reduceNe,Int.reduceLT,Int.reduceLE,false_implies,true_implies]
          refine ⟨fun q => by omega, fun _ => ?_⟩
          exact i0
      have o0 := outer n.toNat 0 (Nat.zero_add _) 1 none
      rw [show lsN R z w 0 = 0 by simp only [lsN]; split <;> rfl] at o0
      exact o0
end E29
end
/-! kindM -/
section
/-! ===== the reference: what kind one is (its answers are not compared) ===== -/
theorem NR.stM {R : RR} (h : NR R) (hn : hb_ R ≤ 8) (b : Nat) : NR (stepM R b (hb_ R)) := by
  obtain ⟨h1, h2, h3, h4, h5⟩ := h
  refine ⟨h1, h2, h3, fun j hj => ?_, fun j hj => ?_⟩
  · show (if j < hb_ R ∧ b.testBit j = true ∧ lasts R j ≤ min 99 (rWo R j + wears R b j) then 2 else rFa R j) = 0
    rw [if_neg (by omega)]
    exact h4 j hj
  · show (if j < hb_ R ∧ b.testBit j = true then min 99 (rWo R j + wears R b j) else rWo R j) = 0
    rw [if_neg (by omega)]
    exact h5 j hj
section E30
variable {R : RR} {rf : Nat → Int} {lt : Nat → Int} {lsz : Int} {a0 : Int} {ib : Int} {sm : Int} {pl : Nat → Int} {lo : Nat → Int} {nu : Nat → Int} {kp : Nat → Int} {ig : Nat → Int} {hmg : Int} {p0 : Int} {tk : Int} {ki : Value} {tu : Nat → Int} {tz : Int} {tf : Nat → Int} {tn : Nat → Int} {tsz : Int} {ga : Nat → Int} {sd : Int} {bb : AH} {Q : Option Value → AH → Prop}
theorem con_MdayOnA (hG : GR R) (hN : NR R) (hQ : ∀ B, GR B → NR B → Q none (HM (B) rf lt lsz a0 ib sm pl lo nu kp ig hmg p0 tk ki tu tz tf tn tsz ga sd bb)) : Con M_M_dayOn [.ref 90] (HM R rf lt lsz a0 ib sm pl lo nu kp ig hmg p0 tk ki tu tz tf tn tsz ga sd bb) Q := by
  have gk := hG.king
  have gn := hG.nM
  have gs := hG.snow
  have hGd : GR (sDay R (hh_ R + 1)) := hG.day _
  have hNd : NR (sDay R (hh_ R + 1)) := hN
  refine g8_ (L := [some (.ref 90), none, none, none]) ok_M_dayOn (Nat.le_of_ble_eq_true rfl) rfl ?_
  refine w_M_dayOn_0 ?_
  simp (disch := omega) only [cm_,aq_,ay_,ag_,b8_,af_,ba_,bc_,cp_,b3_,bg_,am_,ae_,ac_,b2_,bq_,ed_,bs_,ao_,as_,c4_,a2_,az_,a4_,aw_,dw_,d6_,ea_,d3_,b5_,b1_,fl_,fn_,fh_,fu_,fp_,fz_,fq_,fk_,fr_,ft_,fs_,f0_,c5_,bt_,bd_,c3_,ct_,cx_,cr_,cf_,ch_,an_,cl_,dt_,dv_,du_,dr_,ds_,cd_,a9_,a8_,a7_,ce_,fv_,d1_,Int.toNat_natCast,f3_,di_,dm_,dn_,gv_,g1_,g0_,gz_,gx_,ge_,gu_,go_,gn_,f4_,Int.add_zero,Int.zero_add,Int.ediv_one,Nat.reduceAdd,Nat.reduceMul,Int.reduceNeg,Nat.reduceLeDiff,List.length_cons,List.length_nil,true_and,and_true,Nat.zero_add,eq_self,Nat.reduceEqDiff,Int.reduceAdd,Int.reduceSub,Int.reduceMul,not_true_eq_false,not_false_eq_true,Nat.reduceLT,Int.reduceToNat,Int.reduceEq,Int.reduceNe,Int.reduceLT,Int.reduceLE,false_implies,true_implies]
  refine ⟨fun c => ?_, fun c => ?_⟩
  · refine w_M_dayOn_20 ?_
    simp (disch := omega) only [cm_,aq_,ay_,ag_,b8_,af_,ba_,bc_,cp_,b3_,bg_,am_,ae_,ac_,b2_,bq_,ed_,bs_,ao_,as_,c4_,a2_,az_,a4_,aw_,dw_,d6_,ea_,d3_,b5_,b1_,fl_,fn_,fh_,fu_,fp_,fz_,fq_,fk_,fr_,ft_,fs_,f0_,c5_,bt_,bd_,c3_,ct_,cx_,cr_,cf_,ch_,an_,cl_,dt_,dv_,du_,dr_,ds_,cd_,a9_,a8_,a7_,ce_,fv_,d1_,Int.toNat_natCast,f3_,di_,dm_,dn_,gv_,g1_,g0_,gz_,gx_,ge_,gu_,go_,gn_,f4_,Int.add_zero,Int.zero_add,Int.ediv_one,Nat.reduceAdd,Nat.reduceMul,Int.reduceNeg,Nat.reduceLeDiff,List.length_cons,List.length_nil,true_and,and_true,Nat.zero_add,eq_self,Nat.reduceEqDiff,Int.reduceAdd,Int.reduceSub,Int.reduceMul,not_true_eq_false,not_false_eq_true,Nat.reduceLT,Int.reduceToNat,Int.reduceEq,Int.reduceNe,Int.reduceLT,Int.reduceLE,false_implies,true_implies]
    refine con_MbearersNow hGd ?_
    have ek : hd_ (sDay R (hh_ R + 1)) = hd_ R := rfl
    rw [ek, if_neg c]
    simp (disch := omega) only [cm_,aq_,ay_,ag_,b8_,af_,ba_,bc_,cp_,b3_,bg_,am_,ae_,ac_,b2_,bq_,ed_,bs_,ao_,as_,c4_,a2_,az_,a4_,aw_,dw_,d6_,ea_,d3_,b5_,b1_,fl_,fn_,fh_,fu_,fp_,fz_,fq_,fk_,fr_,ft_,fs_,f0_,c5_,bt_,bd_,c3_,ct_,cx_,cr_,cf_,ch_,an_,cl_,dt_,dv_,du_,dr_,ds_,cd_,a9_,a8_,a7_,ce_,fv_,d1_,Int.toNat_natCast,f3_,di_,dm_,dn_,gv_,g1_,g0_,gz_,gx_,ge_,gu_,go_,gn_,f4_,Int.add_zero,Int.zero_add,Int.ediv_one,Nat.reduceAdd,Nat.reduceMul,Int.reduceNeg,Nat.reduceLeDiff,List.length_cons,List.length_nil,true_and,and_true,Nat.zero_add,eq_self,Nat.reduceEqDiff,Int.reduceAdd,Int.reduceSub,Int.reduceMul,not_true_eq_false,not_false_eq_true,Nat.reduceLT,Int.reduceToNat,Int.reduceEq,Int.reduceNe,Int.reduceLT,Int.reduceLE,false_implies,true_implies]
    refine ⟨by omega, ?_⟩
    have es : rSl R (hd_ R).toNat = slH (sDay R (hh_ R + 1)) := by
      show _ = if hd_ R < 12 then rSl R (hd_ R).toNat else 0
      rw [if_pos (by omega)]
    rw [es]
    refine con_MdayLoop (brF_256 hGd) (brF_low _) hGd ?_
    have hGs := hGd.stM (brF (sDay R (hh_ R + 1))) (hb_ (sDay R (hh_ R + 1)))
    have hNs := hNd.stM gn.2 (brF (sDay R (hh_ R + 1)))
    have k1 : hd_ (stepM (sDay R (hh_ R + 1)) (brF (sDay R (hh_ R + 1))) (hb_ (sDay R (hh_ R + 1)))) = hd_ R := rfl
    have k2 : rSnow (stepM (sDay R (hh_ R + 1)) (brF (sDay R (hh_ R + 1))) (hb_ (sDay R (hh_ R + 1)))) = rSnow R := rfl
    have k3 := brF_256 hGd
    generalize stepM (sDay R (hh_ R + 1)) (brF (sDay R (hh_ R + 1))) (hb_ (sDay R (hh_ R + 1))) = S at *
    generalize brF (sDay R (hh_ R + 1)) = B at *
    refine w_M_dayOn_126 ?_
    simp (disch := omega) only [cm_,aq_,ay_,ag_,b8_,af_,ba_,bc_,cp_,b3_,bg_,am_,ae_,ac_,b2_,bq_,ed_,bs_,ao_,as_,c4_,a2_,az_,a4_,aw_,dw_,d6_,ea_,d3_,b5_,b1_,fl_,fn_,fh_,fu_,fp_,fz_,fq_,fk_,fr_,ft_,fs_,f0_,c5_,bt_,bd_,c3_,ct_,cx_,cr_,cf_,ch_,an_,cl_,dt_,dv_,du_,dr_,ds_,cd_,a9_,a8_,a7_,ce_,fv_,d1_,Int.toNat_natCast,f3_,di_,dm_,dn_,gv_,g1_,g0_,gz_,gx_,ge_,gu_,go_,gn_,f4_,Int.add_zero,Int.zero_add,Int.ediv_one,Nat.reduceAdd,Nat.reduceMul,Int.reduceNeg,Nat.reduceLeDiff,List.length_cons,List.length_nil,true_and,and_true,Nat.zero_add,eq_self,Nat.reduceEqDiff,Int.reduceAdd,Int.reduceSub,Int.reduceMul,not_true_eq_false,not_false_eq_true,Nat.reduceLT,Int.reduceToNat,Int.reduceEq,Int.reduceNe,Int.reduceLT,Int.reduceLE,false_implies,true_implies,k1]
    refine ⟨fun c2 => ?_, fun c2 => ?_⟩
    · refine w_M_dayOn_139 ?_
      simp (disch := omega) only [cm_,aq_,ay_,ag_,b8_,af_,ba_,bc_,cp_,b3_,bg_,am_,ae_,ac_,b2_,bq_,ed_,bs_,ao_,as_,c4_,a2_,az_,a4_,aw_,dw_,d6_,ea_,d3_,b5_,b1_,fl_,fn_,fh_,fu_,fp_,fz_,fq_,fk_,fr_,ft_,fs_,f0_,c5_,bt_,bd_,c3_,ct_,cx_,cr_,cf_,ch_,an_,cl_,dt_,dv_,du_,dr_,ds_,cd_,a9_,a8_,a7_,ce_,fv_,d1_,Int.toNat_natCast,f3_,di_,dm_,dn_,gv_,g1_,g0_,gz_,gx_,ge_,gu_,go_,gn_,f4_,Int.add_zero,Int.zero_add,Int.ediv_one,Nat.reduceAdd,Nat.reduceMul,Int.reduceNeg,Nat.reduceLeDiff,List.length_cons,List.length_nil,true_and,and_true,Nat.zero_add,eq_self,Nat.reduceEqDiff,Int.reduceAdd,Int.reduceSub,Int.reduceMul,not_true_eq_false,not_false_eq_true,Nat.reduceLT,Int.reduceToNat,Int.reduceEq,Int.reduceNe,Int.reduceLT,Int.reduceLE,false_implies,true_implies]
      refine w_M_dayOn_140 ?_
      simp (disch := omega) only [cm_,aq_,ay_,ag_,b8_,af_,ba_,bc_,cp_,b3_,bg_,am_,ae_,ac_,b2_,bq_,ed_,bs_,ao_,as_,c4_,a2_,az_,a4_,aw_,dw_,d6_,ea_,d3_,b5_,b1_,fl_,fn_,fh_,fu_,fp_,fz_,fq_,fk_,fr_,ft_,fs_,f0_,c5_,bt_,bd_,c3_,ct_,cx_,cr_,cf_,ch_,an_,cl_,dt_,dv_,du_,dr_,ds_,cd_,a9_,a8_,a7_,ce_,fv_,d1_,Int.toNat_natCast,f3_,di_,dm_,dn_,gv_,g1_,g0_,gz_,gx_,ge_,gu_,go_,gn_,f4_,Int.add_zero,Int.zero_add,Int.ediv_one,Nat.reduceAdd,Nat.reduceMul,Int.reduceNeg,Nat.reduceLeDiff,List.length_cons,List.length_nil,true_and,and_true,Nat.zero_add,eq_self,Nat.reduceEqDiff,Int.reduceAdd,Int.reduceSub,Int.reduceMul,not_true_eq_false,not_false_eq_true,Nat.reduceLT,Int.reduceToNat,Int.reduceEq,Int.reduceNe,Int.reduceLT,Int.reduceLE,false_implies,true_implies,k1,k2]
      refine con_Mheld (by unfold inI; omega) (by omega) ?_
      simp (disch := omega) only [cm_,aq_,ay_,ag_,b8_,af_,ba_,bc_,cp_,b3_,bg_,am_,ae_,ac_,b2_,bq_,ed_,bs_,ao_,as_,c4_,a2_,az_,a4_,aw_,dw_,d6_,ea_,d3_,b5_,b1_,fl_,fn_,fh_,fu_,fp_,fz_,fq_,fk_,fr_,ft_,fs_,f0_,c5_,bt_,bd_,c3_,ct_,cx_,cr_,cf_,ch_,an_,cl_,dt_,dv_,du_,dr_,ds_,cd_,a9_,a8_,a7_,ce_,fv_,d1_,Int.toNat_natCast,f3_,di_,dm_,dn_,gv_,g1_,g0_,gz_,gx_,ge_,gu_,go_,gn_,f4_,Int.add_zero,Int.zero_add,Int.ediv_one,Nat.reduceAdd,Nat.reduceMul,Int.reduceNeg,Nat.reduceLeDiff,List.length_cons,List.length_nil,true_and,and_true,Nat.zero_add,eq_self,Nat.reduceEqDiff,Int.reduceAdd,Int.reduceSub,Int.reduceMul,not_true_eq_false,not_false_eq_true,Nat.reduceLT,Int.reduceToNat,Int.reduceEq,Int.reduceNe,Int.reduceLT,Int.reduceLE,false_implies,true_implies]
      exact hQ _ ((hGs.setKing (x := hd_ R + 1) (by omega)).setSnow (x := max 0 (min 9 (rSnow R - 1))) (by omega)) hNs
    · refine w_M_dayOn_140 ?_
      simp (disch := omega) only [cm_,aq_,ay_,ag_,b8_,af_,ba_,bc_,cp_,b3_,bg_,am_,ae_,ac_,b2_,bq_,ed_,bs_,ao_,as_,c4_,a2_,az_,a4_,aw_,dw_,d6_,ea_,d3_,b5_,b1_,fl_,fn_,fh_,fu_,fp_,fz_,fq_,fk_,fr_,ft_,fs_,f0_,c5_,bt_,bd_,c3_,ct_,cx_,cr_,cf_,ch_,an_,cl_,dt_,dv_,du_,dr_,ds_,cd_,a9_,a8_,a7_,ce_,fv_,d1_,Int.toNat_natCast,f3_,di_,dm_,dn_,gv_,g1_,g0_,gz_,gx_,ge_,gu_,go_,gn_,f4_,Int.add_zero,Int.zero_add,Int.ediv_one,Nat.reduceAdd,Nat.reduceMul,Int.reduceNeg,Nat.reduceLeDiff,List.length_cons,List.length_nil,true_and,and_true,Nat.zero_add,eq_self,Nat.reduceEqDiff,Int.reduceAdd,Int.reduceSub,Int.reduceMul,not_true_eq_false,not_false_eq_true,Nat.reduceLT,Int.reduceToNat,Int.reduceEq,Int.reduceNe,Int.reduceLT,Int.reduceLE,false_implies,true_implies,k1,k2]
      refine con_Mheld (by unfold inI; omega) (by omega) ?_
      simp (disch := omega) only [cm_,aq_,ay_,ag_,b8_,af_,ba_,bc_,cp_,b3_,bg_,am_,ae_,ac_,b2_,bq_,ed_,bs_,ao_,as_,c4_,a2_,az_,a4_,aw_,dw_,d6_,ea_,d3_,b5_,b1_,fl_,fn_,fh_,fu_,fp_,fz_,fq_,fk_,fr_,ft_,fs_,f0_,c5_,bt_,bd_,c3_,ct_,cx_,cr_,cf_,ch_,an_,cl_,dt_,dv_,du_,dr_,ds_,cd_,a9_,a8_,a7_,ce_,fv_,d1_,Int.toNat_natCast,f3_,di_,dm_,dn_,gv_,g1_,g0_,gz_,gx_,ge_,gu_,go_,gn_,f4_,Int.add_zero,Int.zero_add,Int.ediv_one,Nat.reduceAdd,Nat.reduceMul,Int.reduceNeg,Nat.reduceLeDiff,List.length_cons,List.length_nil,true_and,and_true,Nat.zero_add,eq_self,Nat.reduceEqDiff,Int.reduceAdd,Int.reduceSub,Int.reduceMul,not_true_eq_false,not_false_eq_true,Nat.reduceLT,Int.reduceToNat,Int.reduceEq,Int.reduceNe,Int.reduceLT,Int.reduceLE,false_implies,true_implies]
      have e2 : mkR (rSl S) (rKi S) (rFi S) (rFa S) (rWo S) (rMen S) (hd_ R) (rLoad S) (max 0 (min 9 (rSnow R - 1))) (hh_ S) = sSnow S (max 0 (min 9 (rSnow R - 1))) := by
        first | (rw [← k1]; rfl) | rw [← k1]
      rw [e2]
      exact hQ _ (hGs.setSnow (by omega)) hNs
  · exact hQ _ hGd hNd
theorem con_MisRowA {S : RR} {m : Nat} (hm : m < 8) (hG : GR R) (hN : NR R) (hk : KP kp S) (hS : NR S) (hT : GT tn tsz) (hQ : ∀ f : Int, (f = 0 ∨ f = 1) → Q (some (.int (zI f))) (HM (S) rf lt lsz a0 ib sm pl lo nu kp ig hmg (49) (0) (.ref 101) tu tz tf tn tsz ga sd bb)) : Con M_M_isRow [.ref 90, .int (zI m)] (HM R rf lt lsz a0 ib sm pl lo nu kp ig hmg p0 tk ki tu tz tf tn tsz ga sd bb) Q := by
  have gt := hT.1
  refine g8_ (L := [some (.ref 90), some (.int (zI m)), none, none]) ok_M_isRow (Nat.le_of_ble_eq_true rfl) rfl ?_
  refine w_M_isRow_0 ?_
  simp (disch := omega) only [cm_,aq_,ay_,ag_,b8_,af_,ba_,bc_,cp_,b3_,bg_,am_,ae_,ac_,b2_,bq_,ed_,bs_,ao_,as_,c4_,a2_,az_,a4_,aw_,dw_,d6_,ea_,d3_,b5_,b1_,fl_,fn_,fh_,fu_,fp_,fz_,fq_,fk_,fr_,ft_,fs_,f0_,c5_,bt_,bd_,c3_,ct_,cx_,cr_,cf_,ch_,an_,cl_,dt_,dv_,du_,dr_,ds_,cd_,a9_,a8_,a7_,ce_,fv_,d1_,Int.toNat_natCast,f3_,di_,dm_,dn_,gv_,g1_,g0_,gz_,gx_,ge_,gu_,go_,gn_,f4_,Int.add_zero,Int.zero_add,Int.ediv_one,Nat.reduceAdd,Nat.reduceMul,Int.reduceNeg,Nat.reduceLeDiff,List.length_cons,List.length_nil,true_and,and_true,Nat.zero_add,eq_self,Nat.reduceEqDiff,Int.reduceAdd,Int.reduceSub,Int.reduceMul,not_true_eq_false,not_false_eq_true,Nat.reduceLT,Int.reduceToNat,Int.reduceEq,Int.reduceNe,Int.reduceLT,Int.reduceLE,false_implies,true_implies]
  have fin : ∀ B, GR B → NR B → ∀ y (f : Int), (f = 0 ∨ f = 1) → J M_M_isRow 58 [some (.ref 90), some (.int (zI m)), some (.int (zI f)), y] [] (HM (B) rf lt lsz a0 ib sm pl lo nu kp ig hmg p0 tk ki tu tz tf tn tsz ga sd bb) Q := by
    intro B _ hNB y f hf
    have hq := hQ f hf
    refine w_M_isRow_58 ?_
    simp (disch := omega) only [cm_,aq_,ay_,ag_,b8_,af_,ba_,bc_,cp_,b3_,bg_,am_,ae_,ac_,b2_,bq_,ed_,bs_,ao_,as_,c4_,a2_,az_,a4_,aw_,dw_,d6_,ea_,d3_,b5_,b1_,fl_,fn_,fh_,fu_,fp_,fz_,fq_,fk_,fr_,ft_,fs_,f0_,c5_,bt_,bd_,c3_,ct_,cx_,cr_,cf_,ch_,an_,cl_,dt_,dv_,du_,dr_,ds_,cd_,a9_,a8_,a7_,ce_,fv_,d1_,Int.toNat_natCast,f3_,di_,dm_,dn_,gv_,g1_,g0_,gz_,gx_,ge_,gu_,go_,gn_,f4_,Int.add_zero,Int.zero_add,Int.ediv_one,Nat.reduceAdd,Nat.reduceMul,Int.reduceNeg,Nat.reduceLeDiff,List.length_cons,List.length_nil,true_and,and_true,Nat.zero_add,eq_self,Nat.reduceEqDiff,Int.reduceAdd,Int.reduceSub,Int.reduceMul,not_true_eq_false,not_false_eq_true,Nat.reduceLT,Int.reduceToNat,Int.reduceEq,Int.reduceNe,Int.reduceLT,Int.reduceLE,false_implies,true_implies]
    refine con_Magain hk hNB hS ?_
    simp (disch := omega) only [cm_,aq_,ay_,ag_,b8_,af_,ba_,bc_,cp_,b3_,bg_,am_,ae_,ac_,b2_,bq_,ed_,bs_,ao_,as_,c4_,a2_,az_,a4_,aw_,dw_,d6_,ea_,d3_,b5_,b1_,fl_,fn_,fh_,fu_,fp_,fz_,fq_,fk_,fr_,ft_,fs_,f0_,c5_,bt_,bd_,c3_,ct_,cx_,cr_,cf_,ch_,an_,cl_,dt_,dv_,du_,dr_,ds_,cd_,a9_,a8_,a7_,ce_,fv_,d1_,Int.toNat_natCast,f3_,di_,dm_,dn_,gv_,g1_,g0_,gz_,gx_,ge_,gu_,go_,gn_,f4_,Int.add_zero,Int.zero_add,Int.ediv_one,Nat.reduceAdd,Nat.reduceMul,Int.reduceNeg,Nat.reduceLeDiff,List.length_cons,List.length_nil,true_and,and_true,Nat.zero_add,eq_self,Nat.reduceEqDiff,Int.reduceAdd,Int.reduceSub,Int.reduceMul,not_true_eq_false,not_false_eq_true,Nat.reduceLT,Int.reduceToNat,Int.reduceEq,Int.reduceNe,Int.reduceLT,Int.reduceLE,false_implies,true_implies]
    first | exact hq | exact ⟨by omega, hq⟩
  have loop : ∀ k i : Nat, i + k = tsz.toNat → ∀ B, GR B → NR B → ∀ f : Int, (f = 0 ∨ f = 1) → J M_M_isRow 4 [some (.ref 90), some (.int (zI m)), some (.int (zI f)), some (.int (zI i))] [] (HM (B) rf lt lsz a0 ib sm pl lo nu kp ig hmg p0 tk ki tu tz tf tn tsz ga sd bb) Q := by
    intro k
    induction k with
    | zero =>
      intro i hi B hB hNB f hf
      have e : i = tsz.toNat := by omega
      subst e
      refine w_M_isRow_4 ?_
      simp (disch := omega) only [cm_,aq_,ay_,ag_,b8_,af_,ba_,bc_,cp_,b3_,bg_,am_,ae_,ac_,b2_,bq_,ed_,bs_,ao_,as_,c4_,a2_,az_,a4_,aw_,dw_,d6_,ea_,d3_,b5_,b1_,fl_,fn_,fh_,fu_,fp_,fz_,fq_,fk_,fr_,ft_,fs_,f0_,c5_,bt_,bd_,c3_,ct_,cx_,cr_,cf_,ch_,an_,cl_,dt_,dv_,du_,dr_,ds_,cd_,a9_,a8_,a7_,ce_,fv_,d1_,Int.toNat_natCast,f3_,di_,dm_,dn_,gv_,g1_,g0_,gz_,gx_,ge_,gu_,go_,gn_,f4_,Int.add_zero,Int.zero_add,Int.ediv_one,Nat.reduceAdd,Nat.reduceMul,Int.reduceNeg,Nat.reduceLeDiff,List.length_cons,List.length_nil,true_and,and_true,Nat.zero_add,eq_self,Nat.reduceEqDiff,Int.reduceAdd,Int.reduceSub,Int.reduceMul,not_true_eq_false,not_false_eq_true,Nat.reduceLT,Int.reduceToNat,Int.reduceEq,Int.reduceNe,Int.reduceLT,Int.reduceLE,false_implies,true_implies]
      refine ⟨fun _ => fin _ hB hNB _ _ hf, fun q => by omega⟩
    | succ k ih =>
      intro i hi B hB hNB f hf
      have gw := hB.wo m
      have ht := hT.2 i
      refine w_M_isRow_4 ?_
      simp (disch := omega) only [cm_,aq_,ay_,ag_,b8_,af_,ba_,bc_,cp_,b3_,bg_,am_,ae_,ac_,b2_,bq_,ed_,bs_,ao_,as_,c4_,a2_,az_,a4_,aw_,dw_,d6_,ea_,d3_,b5_,b1_,fl_,fn_,fh_,fu_,fp_,fz_,fq_,fk_,fr_,ft_,fs_,f0_,c5_,bt_,bd_,c3_,ct_,cx_,cr_,cf_,ch_,an_,cl_,dt_,dv_,du_,dr_,ds_,cd_,a9_,a8_,a7_,ce_,fv_,d1_,Int.toNat_natCast,f3_,di_,dm_,dn_,gv_,g1_,g0_,gz_,gx_,ge_,gu_,go_,gn_,f4_,Int.add_zero,Int.zero_add,Int.ediv_one,Nat.reduceAdd,Nat.reduceMul,Int.reduceNeg,Nat.reduceLeDiff,List.length_cons,List.length_nil,true_and,and_true,Nat.zero_add,eq_self,Nat.reduceEqDiff,Int.reduceAdd,Int.reduceSub,Int.reduceMul,not_true_eq_false,not_false_eq_true,Nat.reduceLT,Int.reduceToNat,Int.reduceEq,Int.reduceNe,Int.reduceLT,Int.reduceLE,false_implies,true_implies]
      refine ⟨fun q => by omega, fun _ => ⟨fun _ => fin _ hB hNB _ _ hf, fun _ => ⟨by omega, ?_⟩⟩⟩
      refine ⟨fun _ => ?_, fun q => by omega⟩
      refine w_M_isRow_33 ?_
      simp (disch := omega) only [cm_,aq_,ay_,ag_,b8_,af_,ba_,bc_,cp_,b3_,bg_,am_,ae_,ac_,b2_,bq_,ed_,bs_,ao_,as_,c4_,a2_,az_,a4_,aw_,dw_,d6_,ea_,d3_,b5_,b1_,fl_,fn_,fh_,fu_,fp_,fz_,fq_,fk_,fr_,ft_,fs_,f0_,c5_,bt_,bd_,c3_,ct_,cx_,cr_,cf_,ch_,an_,cl_,dt_,dv_,du_,dr_,ds_,cd_,a9_,a8_,a7_,ce_,fv_,d1_,Int.toNat_natCast,f3_,di_,dm_,dn_,gv_,g1_,g0_,gz_,gx_,ge_,gu_,go_,gn_,f4_,Int.add_zero,Int.zero_add,Int.ediv_one,Nat.reduceAdd,Nat.reduceMul,Int.reduceNeg,Nat.reduceLeDiff,List.length_cons,List.length_nil,true_and,and_true,Nat.zero_add,eq_self,Nat.reduceEqDiff,Int.reduceAdd,Int.reduceSub,Int.reduceMul,not_true_eq_false,not_false_eq_true,Nat.reduceLT,Int.reduceToNat,Int.reduceEq,Int.reduceNe,Int.reduceLT,Int.reduceLE,false_implies,true_implies]
      refine ⟨by omega, ?_⟩
      refine w_M_isRow_39 ?_
      simp (disch := omega) only [cm_,aq_,ay_,ag_,b8_,af_,ba_,bc_,cp_,b3_,bg_,am_,ae_,ac_,b2_,bq_,ed_,bs_,ao_,as_,c4_,a2_,az_,a4_,aw_,dw_,d6_,ea_,d3_,b5_,b1_,fl_,fn_,fh_,fu_,fp_,fz_,fq_,fk_,fr_,ft_,fs_,f0_,c5_,bt_,bd_,c3_,ct_,cx_,cr_,cf_,ch_,an_,cl_,dt_,dv_,du_,dr_,ds_,cd_,a9_,a8_,a7_,ce_,fv_,d1_,Int.toNat_natCast,f3_,di_,dm_,dn_,gv_,g1_,g0_,gz_,gx_,ge_,gu_,go_,gn_,f4_,Int.add_zero,Int.zero_add,Int.ediv_one,Nat.reduceAdd,Nat.reduceMul,Int.reduceNeg,Nat.reduceLeDiff,List.length_cons,List.length_nil,true_and,and_true,Nat.zero_add,eq_self,Nat.reduceEqDiff,Int.reduceAdd,Int.reduceSub,Int.reduceMul,not_true_eq_false,not_false_eq_true,Nat.reduceLT,Int.reduceToNat,Int.reduceEq,Int.reduceNe,Int.reduceLT,Int.reduceLE,false_implies,true_implies]
      refine ⟨fun c => ?_, fun c => ?_⟩
      · refine w_M_isRow_46 ?_
        simp (disch := omega) only [cm_,aq_,ay_,ag_,b8_,af_,ba_,bc_,cp_,b3_,bg_,am_,ae_,ac_,b2_,bq_,ed_,bs_,ao_,as_,c4_,a2_,az_,a4_,aw_,dw_,d6_,ea_,d3_,b5_,b1_,fl_,fn_,fh_,fu_,fp_,fz_,fq_,fk_,fr_,ft_,fs_,f0_,c5_,bt_,bd_,c3_,ct_,cx_,cr_,cf_,ch_,an_,cl_,dt_,dv_,du_,dr_,ds_,cd_,a9_,a8_,a7_,ce_,fv_,d1_,Int.toNat_natCast,f3_,di_,dm_,dn_,gv_,g1_,g0_,gz_,gx_,ge_,gu_,go_,gn_,f4_,Int.add_zero,Int.zero_add,Int.ediv_one,Nat.reduceAdd,Nat.reduceMul,Int.reduceNeg,Nat.reduceLeDiff,List.length_cons,List.length_nil,true_and,and_true,Nat.zero_add,eq_self,Nat.reduceEqDiff,Int.reduceAdd,Int.reduceSub,Int.reduceMul,not_true_eq_false,not_false_eq_true,Nat.reduceLT,Int.reduceToNat,Int.reduceEq,Int.reduceNe,Int.reduceLT,Int.reduceLE,false_implies,true_implies]
        refine w_M_isRow_47 ?_
        simp (disch := omega) only [cm_,aq_,ay_,ag_,b8_,af_,ba_,bc_,cp_,b3_,bg_,am_,ae_,ac_,b2_,bq_,ed_,bs_,ao_,as_,c4_,a2_,az_,a4_,aw_,dw_,d6_,ea_,d3_,b5_,b1_,fl_,fn_,fh_,fu_,fp_,fz_,fq_,fk_,fr_,ft_,fs_,f0_,c5_,bt_,bd_,c3_,ct_,cx_,cr_,cf_,ch_,an_,cl_,dt_,dv_,du_,dr_,ds_,cd_,a9_,a8_,a7_,ce_,fv_,d1_,Int.toNat_natCast,f3_,di_,dm_,dn_,gv_,g1_,g0_,gz_,gx_,ge_,gu_,go_,gn_,f4_,Int.add_zero,Int.zero_add,Int.ediv_one,Nat.reduceAdd,Nat.reduceMul,Int.reduceNeg,Nat.reduceLeDiff,List.length_cons,List.length_nil,true_and,and_true,Nat.zero_add,eq_self,Nat.reduceEqDiff,Int.reduceAdd,Int.reduceSub,Int.reduceMul,not_true_eq_false,not_false_eq_true,Nat.reduceLT,Int.reduceToNat,Int.reduceEq,Int.reduceNe,Int.reduceLT,Int.reduceLE,false_implies,true_implies]
        refine con_MdayOnA hB hNB (fun C hC hNC => ?_)
        simp (disch := omega) only [cm_,aq_,ay_,ag_,b8_,af_,ba_,bc_,cp_,b3_,bg_,am_,ae_,ac_,b2_,bq_,ed_,bs_,ao_,as_,c4_,a2_,az_,a4_,aw_,dw_,d6_,ea_,d3_,b5_,b1_,fl_,fn_,fh_,fu_,fp_,fz_,fq_,fk_,fr_,ft_,fs_,f0_,c5_,bt_,bd_,c3_,ct_,cx_,cr_,cf_,ch_,an_,cl_,dt_,dv_,du_,dr_,ds_,cd_,a9_,a8_,a7_,ce_,fv_,d1_,Int.toNat_natCast,f3_,di_,dm_,dn_,gv_,g1_,g0_,gz_,gx_,ge_,gu_,go_,gn_,f4_,Int.add_zero,Int.zero_add,Int.ediv_one,Nat.reduceAdd,Nat.reduceMul,Int.reduceNeg,Nat.reduceLeDiff,List.length_cons,List.length_nil,true_and,and_true,Nat.zero_add,eq_self,Nat.reduceEqDiff,Int.reduceAdd,Int.reduceSub,Int.reduceMul,not_true_eq_false,not_false_eq_true,Nat.reduceLT,Int.reduceToNat,Int.reduceEq,Int.reduceNe,Int.reduceLT,Int.reduceLE,false_implies,true_implies]
        exact ih (i + 1) (by omega) C hC hNC 0 (by omega)
      · refine w_M_isRow_47 ?_
        simp (disch := omega) only [cm_,aq_,ay_,ag_,b8_,af_,ba_,bc_,cp_,b3_,bg_,am_,ae_,ac_,b2_,bq_,ed_,bs_,ao_,as_,c4_,a2_,az_,a4_,aw_,dw_,d6_,ea_,d3_,b5_,b1_,fl_,fn_,fh_,fu_,fp_,fz_,fq_,fk_,fr_,ft_,fs_,f0_,c5_,bt_,bd_,c3_,ct_,cx_,cr_,cf_,ch_,an_,cl_,dt_,dv_,du_,dr_,ds_,cd_,a9_,a8_,a7_,ce_,fv_,d1_,Int.toNat_natCast,f3_,di_,dm_,dn_,gv_,g1_,g0_,gz_,gx_,ge_,gu_,go_,gn_,f4_,Int.add_zero,Int.zero_add,Int.ediv_one,Nat.reduceAdd,Nat.reduceMul,Int.reduceNeg,Nat.reduceLeDiff,List.length_cons,List.length_nil,true_and,and_true,Nat.zero_add,eq_self,Nat.reduceEqDiff,Int.reduceAdd,Int.reduceSub,Int.reduceMul,not_true_eq_false,not_false_eq_true,Nat.reduceLT,Int.reduceToNat,Int.reduceEq,Int.reduceNe,Int.reduceLT,Int.reduceLE,false_implies,true_implies]
        refine con_MdayOnA hB hNB (fun C hC hNC => ?_)
        simp (disch := omega) only [cm_,aq_,ay_,ag_,b8_,af_,ba_,bc_,cp_,b3_,bg_,am_,ae_,ac_,b2_,bq_,ed_,bs_,ao_,as_,c4_,a2_,az_,a4_,aw_,dw_,d6_,ea_,d3_,b5_,b1_,fl_,fn_,fh_,fu_,fp_,fz_,fq_,fk_,fr_,ft_,fs_,f0_,c5_,bt_,bd_,c3_,ct_,cx_,cr_,cf_,ch_,an_,cl_,dt_,dv_,du_,dr_,ds_,cd_,a9_,a8_,a7_,ce_,fv_,d1_,Int.toNat_natCast,f3_,di_,dm_,dn_,gv_,g1_,g0_,gz_,gx_,ge_,gu_,go_,gn_,f4_,Int.add_zero,Int.zero_add,Int.ediv_one,Nat.reduceAdd,Nat.reduceMul,Int.reduceNeg,Nat.reduceLeDiff,List.length_cons,List.length_nil,true_and,and_true,Nat.zero_add,eq_self,Nat.reduceEqDiff,Int.reduceAdd,Int.reduceSub,Int.reduceMul,not_true_eq_false,not_false_eq_true,Nat.reduceLT,Int.reduceToNat,Int.reduceEq,Int.reduceNe,Int.reduceLT,Int.reduceLE,false_implies,true_implies]
        exact ih (i + 1) (by omega) C hC hNC 1 (by omega)
  exact loop tsz.toNat 0 (by omega) R hG hN 1 (by omega)
end E30
section E31
variable {R I : RR} {im : Int} {P : Nat → RR} {pz : Int} {lt : Nat → Int} {lsz : Int} {tn : Nat → Int} {tsz : Int} {rf : Nat → Int} {bb h : AH} {Q : Option Value → AH → Prop}
theorem M_whatKind {m w : Int} (hm : inI m) (hw : inI w) (hT : GT tn tsz) (hI : GI R)  (W : (MW R I im P pz lt lsz tn tsz rf bb h))
    (r1 : ¬ g7_ R m → ∀ h, (MW R I im P pz lt lsz tn tsz (rfU rf 1) bb h) → Q (some (.int (zI (-1)))) h)
    (r2 : g7_ R m → ¬ (w = 0 ∨ w = 1) → ∀ h, (MW R I im P pz lt lsz tn tsz (rfU rf 2) bb h) → Q (some (.int (zI (-2)))) h)
    (ok : g7_ R m → (w = 0 ∨ w = 1) → ∀ v h, (MW R I im P pz lt lsz tn tsz rf bb h) → Q (some (.int (zI v))) h) : Con M_M_whatKind [.ref 90, .int (zI m), .int (zI w)] h Q := by
  obtain ⟨a0, ib, sm, pl, lo, nu, kp, ig, p0, tk, ki, tu, tf, ga, sd, rfl, hIg, hTu, hPz⟩ := W
  have hG := hI.1
  have gm := hG.men
  obtain ⟨w1, w2⟩ := id hw
  have k1 := fun q => r1 q _ ⟨a0, ib, sm, pl, lo, nu, kp, ig, p0, tk, ki, tu, tf, ga, sd, rfl, hIg, hTu, hPz⟩
  have k2 := fun q q2 => r2 q q2 _ ⟨a0, ib, sm, pl, lo, nu, kp, ig, p0, tk, ki, tu, tf, ga, sd, rfl, hIg, hTu, hPz⟩
  refine g8_ (L := [some (.ref 90), some (.int (zI m)), some (.int (zI w)), none, none, none]) ok_M_whatKind (Nat.le_of_ble_eq_true rfl) rfl ?_
  refine w_M_whatKind_0 ?_
  simp (disch := omega) only [cm_,aq_,ay_,ag_,b8_,af_,ba_,bc_,cp_,b3_,bg_,am_,ae_,ac_,b2_,bq_,ed_,bs_,ao_,as_,c4_,a2_,az_,a4_,aw_,dw_,d6_,ea_,d3_,b5_,b1_,fl_,fn_,fh_,fu_,fp_,fz_,fq_,fk_,fr_,ft_,fs_,f0_,c5_,bt_,bd_,c3_,ct_,cx_,cr_,cf_,ch_,an_,cl_,dt_,dv_,du_,dr_,ds_,cd_,a9_,a8_,a7_,ce_,fv_,d1_,Int.toNat_natCast,f3_,di_,dm_,dn_,gv_,g1_,g0_,gz_,gx_,ge_,gu_,go_,gn_,f4_,Int.add_zero,Int.zero_add,Int.ediv_one,Nat.reduceAdd,Nat.reduceMul,Int.reduceNeg,Nat.reduceLeDiff,List.length_cons,List.length_nil,true_and,and_true,Nat.zero_add,eq_self,Nat.reduceEqDiff,Int.reduceAdd,Int.reduceSub,Int.reduceMul,not_true_eq_false,not_false_eq_true,Nat.reduceLT,Int.reduceToNat,Int.reduceEq,Int.reduceNe,Int.reduceLT,Int.reduceLE,false_implies,true_implies]
  refine con_MisMan hm hG (fun c => ?_) (fun c => ?_)
  · simp (disch := omega) only [cm_,aq_,ay_,ag_,b8_,af_,ba_,bc_,cp_,b3_,bg_,am_,ae_,ac_,b2_,bq_,ed_,bs_,ao_,as_,c4_,a2_,az_,a4_,aw_,dw_,d6_,ea_,d3_,b5_,b1_,fl_,fn_,fh_,fu_,fp_,fz_,fq_,fk_,fr_,ft_,fs_,f0_,c5_,bt_,bd_,c3_,ct_,cx_,cr_,cf_,ch_,an_,cl_,dt_,dv_,du_,dr_,ds_,cd_,a9_,a8_,a7_,ce_,fv_,d1_,Int.toNat_natCast,f3_,di_,dm_,dn_,gv_,g1_,g0_,gz_,gx_,ge_,gu_,go_,gn_,f4_,Int.add_zero,Int.zero_add,Int.ediv_one,Nat.reduceAdd,Nat.reduceMul,Int.reduceNeg,Nat.reduceLeDiff,List.length_cons,List.length_nil,true_and,and_true,Nat.zero_add,eq_self,Nat.reduceEqDiff,Int.reduceAdd,Int.reduceSub,Int.reduceMul,not_true_eq_false,not_false_eq_true,Nat.reduceLT,Int.reduceToNat,Int.reduceEq,Int.reduceNe,Int.reduceLT,Int.reduceLE,false_implies,true_implies]
    refine w_M_whatKind_18 ?_
    simp (disch := omega) only [cm_,aq_,ay_,ag_,b8_,af_,ba_,bc_,cp_,b3_,bg_,am_,ae_,ac_,b2_,bq_,ed_,bs_,ao_,as_,c4_,a2_,az_,a4_,aw_,dw_,d6_,ea_,d3_,b5_,b1_,fl_,fn_,fh_,fu_,fp_,fz_,fq_,fk_,fr_,ft_,fs_,f0_,c5_,bt_,bd_,c3_,ct_,cx_,cr_,cf_,ch_,an_,cl_,dt_,dv_,du_,dr_,ds_,cd_,a9_,a8_,a7_,ce_,fv_,d1_,Int.toNat_natCast,f3_,di_,dm_,dn_,gv_,g1_,g0_,gz_,gx_,ge_,gu_,go_,gn_,f4_,Int.add_zero,Int.zero_add,Int.ediv_one,Nat.reduceAdd,Nat.reduceMul,Int.reduceNeg,Nat.reduceLeDiff,List.length_cons,List.length_nil,true_and,and_true,Nat.zero_add,eq_self,Nat.reduceEqDiff,Int.reduceAdd,Int.reduceSub,Int.reduceMul,not_true_eq_false,not_false_eq_true,Nat.reduceLT,Int.reduceToNat,Int.reduceEq,Int.reduceNe,Int.reduceLT,Int.reduceLE,false_implies,true_implies]
    refine con_MwrongBit (by unfold inI; omega) hw (by unfold inI; omega) (fun _ c2 => ?_) (fun c2 => ?_)
    · simp (disch := omega) only [cm_,aq_,ay_,ag_,b8_,af_,ba_,bc_,cp_,b3_,bg_,am_,ae_,ac_,b2_,bq_,ed_,bs_,ao_,as_,c4_,a2_,az_,a4_,aw_,dw_,d6_,ea_,d3_,b5_,b1_,fl_,fn_,fh_,fu_,fp_,fz_,fq_,fk_,fr_,ft_,fs_,f0_,c5_,bt_,bd_,c3_,ct_,cx_,cr_,cf_,ch_,an_,cl_,dt_,dv_,du_,dr_,ds_,cd_,a9_,a8_,a7_,ce_,fv_,d1_,Int.toNat_natCast,f3_,di_,dm_,dn_,gv_,g1_,g0_,gz_,gx_,ge_,gu_,go_,gn_,f4_,Int.add_zero,Int.zero_add,Int.ediv_one,Nat.reduceAdd,Nat.reduceMul,Int.reduceNeg,Nat.reduceLeDiff,List.length_cons,List.length_nil,true_and,and_true,Nat.zero_add,eq_self,Nat.reduceEqDiff,Int.reduceAdd,Int.reduceSub,Int.reduceMul,not_true_eq_false,not_false_eq_true,Nat.reduceLT,Int.reduceToNat,Int.reduceEq,Int.reduceNe,Int.reduceLT,Int.reduceLE,false_implies,true_implies]
      refine con_Mrefuse (k := 2) (by omega) ?_
      simp (disch := omega) only [cm_,aq_,ay_,ag_,b8_,af_,ba_,bc_,cp_,b3_,bg_,am_,ae_,ac_,b2_,bq_,ed_,bs_,ao_,as_,c4_,a2_,az_,a4_,aw_,dw_,d6_,ea_,d3_,b5_,b1_,fl_,fn_,fh_,fu_,fp_,fz_,fq_,fk_,fr_,ft_,fs_,f0_,c5_,bt_,bd_,c3_,ct_,cx_,cr_,cf_,ch_,an_,cl_,dt_,dv_,du_,dr_,ds_,cd_,a9_,a8_,a7_,ce_,fv_,d1_,Int.toNat_natCast,f3_,di_,dm_,dn_,gv_,g1_,g0_,gz_,gx_,ge_,gu_,go_,gn_,f4_,Int.add_zero,Int.zero_add,Int.ediv_one,Nat.reduceAdd,Nat.reduceMul,Int.reduceNeg,Nat.reduceLeDiff,List.length_cons,List.length_nil,true_and,and_true,Nat.zero_add,eq_self,Nat.reduceEqDiff,Int.reduceAdd,Int.reduceSub,Int.reduceMul,not_true_eq_false,not_false_eq_true,Nat.reduceLT,Int.reduceToNat,Int.reduceEq,Int.reduceNe,Int.reduceLT,Int.reduceLE,false_implies,true_implies]
      exact k2 c (by omega)
    · have c2 := c2 rfl
      have hmm : m = (m.toNat : Int) := by unfold g7_ at c; omega
      have m8 : m.toNat < 8 := by unfold g7_ at c; omega
      have g1 := hG.ki m.toNat
      have g2 := hG.fi m.toNat
      rw [hmm]
      simp (disch := omega) only [cm_,aq_,ay_,ag_,b8_,af_,ba_,bc_,cp_,b3_,bg_,am_,ae_,ac_,b2_,bq_,ed_,bs_,ao_,as_,c4_,a2_,az_,a4_,aw_,dw_,d6_,ea_,d3_,b5_,b1_,fl_,fn_,fh_,fu_,fp_,fz_,fq_,fk_,fr_,ft_,fs_,f0_,c5_,bt_,bd_,c3_,ct_,cx_,cr_,cf_,ch_,an_,cl_,dt_,dv_,du_,dr_,ds_,cd_,a9_,a8_,a7_,ce_,fv_,d1_,Int.toNat_natCast,f3_,di_,dm_,dn_,gv_,g1_,g0_,gz_,gx_,ge_,gu_,go_,gn_,f4_,Int.add_zero,Int.zero_add,Int.ediv_one,Nat.reduceAdd,Nat.reduceMul,Int.reduceNeg,Nat.reduceLeDiff,List.length_cons,List.length_nil,true_and,and_true,Nat.zero_add,eq_self,Nat.reduceEqDiff,Int.reduceAdd,Int.reduceSub,Int.reduceMul,not_true_eq_false,not_false_eq_true,Nat.reduceLT,Int.reduceToNat,Int.reduceEq,Int.reduceNe,Int.reduceLT,Int.reduceLE,false_implies,true_implies]
      refine w_M_whatKind_34 ?_
      simp (disch := omega) only [cm_,aq_,ay_,ag_,b8_,af_,ba_,bc_,cp_,b3_,bg_,am_,ae_,ac_,b2_,bq_,ed_,bs_,ao_,as_,c4_,a2_,az_,a4_,aw_,dw_,d6_,ea_,d3_,b5_,b1_,fl_,fn_,fh_,fu_,fp_,fz_,fq_,fk_,fr_,ft_,fs_,f0_,c5_,bt_,bd_,c3_,ct_,cx_,cr_,cf_,ch_,an_,cl_,dt_,dv_,du_,dr_,ds_,cd_,a9_,a8_,a7_,ce_,fv_,d1_,Int.toNat_natCast,f3_,di_,dm_,dn_,gv_,g1_,g0_,gz_,gx_,ge_,gu_,go_,gn_,f4_,Int.add_zero,Int.zero_add,Int.ediv_one,Nat.reduceAdd,Nat.reduceMul,Int.reduceNeg,Nat.reduceLeDiff,List.length_cons,List.length_nil,true_and,and_true,Nat.zero_add,eq_self,Nat.reduceEqDiff,Int.reduceAdd,Int.reduceSub,Int.reduceMul,not_true_eq_false,not_false_eq_true,Nat.reduceLT,Int.reduceToNat,Int.reduceEq,Int.reduceNe,Int.reduceLT,Int.reduceLE,false_implies,true_implies]
      refine con_Mthink (fun x hx => ?_)
      simp (disch := omega) only [cm_,aq_,ay_,ag_,b8_,af_,ba_,bc_,cp_,b3_,bg_,am_,ae_,ac_,b2_,bq_,ed_,bs_,ao_,as_,c4_,a2_,az_,a4_,aw_,dw_,d6_,ea_,d3_,b5_,b1_,fl_,fn_,fh_,fu_,fp_,fz_,fq_,fk_,fr_,ft_,fs_,f0_,c5_,bt_,bd_,c3_,ct_,cx_,cr_,cf_,ch_,an_,cl_,dt_,dv_,du_,dr_,ds_,cd_,a9_,a8_,a7_,ce_,fv_,d1_,Int.toNat_natCast,f3_,di_,dm_,dn_,gv_,g1_,g0_,gz_,gx_,ge_,gu_,go_,gn_,f4_,Int.add_zero,Int.zero_add,Int.ediv_one,Nat.reduceAdd,Nat.reduceMul,Int.reduceNeg,Nat.reduceLeDiff,List.length_cons,List.length_nil,true_and,and_true,Nat.zero_add,eq_self,Nat.reduceEqDiff,Int.reduceAdd,Int.reduceSub,Int.reduceMul,not_true_eq_false,not_false_eq_true,Nat.reduceLT,Int.reduceToNat,Int.reduceEq,Int.reduceNe,Int.reduceLT,Int.reduceLE,false_implies,true_implies]
      have done : ∀ (z : Int32) tk y, J M_M_whatKind 130 [some (.ref 90), some (.int (zI (m.toNat : Int))), some (.int (zI w)), some (.int (zI 0)), some (.int z), y] [] (HM R rf lt lsz a0 ib sm pl lo nu (x) ig (im) (49) (tk) (.ref 101) tu (pz) tf tn tsz ga sd bb) Q := by
        intro z tk y
        have e : z = zI z.toInt := (Int32.ofInt_toInt z).symm
        rw [e]
        refine w_M_whatKind_130 ?_
        simp (disch := omega) only [cm_,aq_,ay_,ag_,b8_,af_,ba_,bc_,cp_,b3_,bg_,am_,ae_,ac_,b2_,bq_,ed_,bs_,ao_,as_,c4_,a2_,az_,a4_,aw_,dw_,d6_,ea_,d3_,b5_,b1_,fl_,fn_,fh_,fu_,fp_,fz_,fq_,fk_,fr_,ft_,fs_,f0_,c5_,bt_,bd_,c3_,ct_,cx_,cr_,cf_,ch_,an_,cl_,dt_,dv_,du_,dr_,ds_,cd_,a9_,a8_,a7_,ce_,fv_,d1_,Int.toNat_natCast,f3_,di_,dm_,dn_,gv_,g1_,g0_,gz_,gx_,ge_,gu_,go_,gn_,f4_,Int.add_zero,Int.zero_add,Int.ediv_one,Nat.reduceAdd,Nat.reduceMul,Int.reduceNeg,Nat.reduceLeDiff,List.length_cons,List.length_nil,true_and,and_true,Nat.zero_add,eq_self,Nat.reduceEqDiff,Int.reduceAdd,Int.reduceSub,Int.reduceMul,not_true_eq_false,not_false_eq_true,Nat.reduceLT,Int.reduceToNat,Int.reduceEq,Int.reduceNe,Int.reduceLT,Int.reduceLE,false_implies,true_implies]
        exact ok c (by omega) _ _ ⟨_, _, _, _, _, _, _, _, _, _, _, _, _, _, _, rfl, hIg, hTu, hPz⟩
      have turn : ∀ k i : Nat, i + k = (if w = 0 then 6 else 10) → ∀ (z : Int32) tk, J M_M_whatKind 44 [some (.ref 90), some (.int (zI (m.toNat : Int))), some (.int (zI w)), some (.int (zI 0)), some (.int z), some (.int (zI i))] [] (HM R rf lt lsz a0 ib sm pl lo nu (x) ig (im) (49) (tk) (.ref 101) tu (pz) tf tn tsz ga sd bb) Q := by
        intro k
        induction k with
        | zero =>
          intro i hi z tk
          refine w_M_whatKind_44 ?_
          simp (disch := omega) only [cm_,aq_,ay_,ag_,b8_,af_,ba_,bc_,cp_,b3_,bg_,am_,ae_,ac_,b2_,bq_,ed_,bs_,ao_,as_,c4_,a2_,az_,a4_,aw_,dw_,d6_,ea_,d3_,b5_,b1_,fl_,fn_,fh_,fu_,fp_,fz_,fq_,fk_,fr_,ft_,fs_,f0_,c5_,bt_,bd_,c3_,ct_,cx_,cr_,cf_,ch_,an_,cl_,dt_,dv_,du_,dr_,ds_,cd_,a9_,a8_,a7_,ce_,fv_,d1_,Int.toNat_natCast,f3_,di_,dm_,dn_,gv_,g1_,g0_,gz_,gx_,ge_,gu_,go_,gn_,f4_,Int.add_zero,Int.zero_add,Int.ediv_one,Nat.reduceAdd,Nat.reduceMul,Int.reduceNeg,Nat.reduceLeDiff,List.length_cons,List.length_nil,true_and,and_true,Nat.zero_add,eq_self,Nat.reduceEqDiff,Int.reduceAdd,Int.reduceSub,Int.reduceMul,not_true_eq_false,not_false_eq_true,Nat.reduceLT,Int.reduceToNat,Int.reduceEq,Int.reduceNe,Int.reduceLT,Int.reduceLE,false_implies,true_implies]
          refine ⟨fun c3 => ?_, fun c3 => ?_⟩
          · rw [if_neg (by omega)] at hi
            refine w_M_whatKind_55 ?_
            simp (disch := omega) only [cm_,aq_,ay_,ag_,b8_,af_,ba_,bc_,cp_,b3_,bg_,am_,ae_,ac_,b2_,bq_,ed_,bs_,ao_,as_,c4_,a2_,az_,a4_,aw_,dw_,d6_,ea_,d3_,b5_,b1_,fl_,fn_,fh_,fu_,fp_,fz_,fq_,fk_,fr_,ft_,fs_,f0_,c5_,bt_,bd_,c3_,ct_,cx_,cr_,cf_,ch_,an_,cl_,dt_,dv_,du_,dr_,ds_,cd_,a9_,a8_,a7_,ce_,fv_,d1_,Int.toNat_natCast,f3_,di_,dm_,dn_,gv_,g1_,g0_,gz_,gx_,ge_,gu_,go_,gn_,f4_,Int.add_zero,Int.zero_add,Int.ediv_one,Nat.reduceAdd,Nat.reduceMul,Int.reduceNeg,Nat.reduceLeDiff,List.length_cons,List.length_nil,true_and,and_true,Nat.zero_add,eq_self,Nat.reduceEqDiff,Int.reduceAdd,Int.reduceSub,Int.reduceMul,not_true_eq_false,not_false_eq_true,Nat.reduceLT,Int.reduceToNat,Int.reduceEq,Int.reduceNe,Int.reduceLT,Int.reduceLE,false_implies,true_implies]
            refine w_M_whatKind_57 ?_
            simp (disch := omega) only [cm_,aq_,ay_,ag_,b8_,af_,ba_,bc_,cp_,b3_,bg_,am_,ae_,ac_,b2_,bq_,ed_,bs_,ao_,as_,c4_,a2_,az_,a4_,aw_,dw_,d6_,ea_,d3_,b5_,b1_,fl_,fn_,fh_,fu_,fp_,fz_,fq_,fk_,fr_,ft_,fs_,f0_,c5_,bt_,bd_,c3_,ct_,cx_,cr_,cf_,ch_,an_,cl_,dt_,dv_,du_,dr_,ds_,cd_,a9_,a8_,a7_,ce_,fv_,d1_,Int.toNat_natCast,f3_,di_,dm_,dn_,gv_,g1_,g0_,gz_,gx_,ge_,gu_,go_,gn_,f4_,Int.add_zero,Int.zero_add,Int.ediv_one,Nat.reduceAdd,Nat.reduceMul,Int.reduceNeg,Nat.reduceLeDiff,List.length_cons,List.length_nil,true_and,and_true,Nat.zero_add,eq_self,Nat.reduceEqDiff,Int.reduceAdd,Int.reduceSub,Int.reduceMul,not_true_eq_false,not_false_eq_true,Nat.reduceLT,Int.reduceToNat,Int.reduceEq,Int.reduceNe,Int.reduceLT,Int.reduceLE,false_implies,true_implies]
            refine ⟨fun _ => done _ _ _, fun q => by omega⟩
          · rw [if_pos (by omega)] at hi
            refine w_M_whatKind_57 ?_
            simp (disch := omega) only [cm_,aq_,ay_,ag_,b8_,af_,ba_,bc_,cp_,b3_,bg_,am_,ae_,ac_,b2_,bq_,ed_,bs_,ao_,as_,c4_,a2_,az_,a4_,aw_,dw_,d6_,ea_,d3_,b5_,b1_,fl_,fn_,fh_,fu_,fp_,fz_,fq_,fk_,fr_,ft_,fs_,f0_,c5_,bt_,bd_,c3_,ct_,cx_,cr_,cf_,ch_,an_,cl_,dt_,dv_,du_,dr_,ds_,cd_,a9_,a8_,a7_,ce_,fv_,d1_,Int.toNat_natCast,f3_,di_,dm_,dn_,gv_,g1_,g0_,gz_,gx_,ge_,gu_,go_,gn_,f4_,Int.add_zero,Int.zero_add,Int.ediv_one,Nat.reduceAdd,Nat.reduceMul,Int.reduceNeg,Nat.reduceLeDiff,List.length_cons,List.length_nil,true_and,and_true,Nat.zero_add,eq_self,Nat.reduceEqDiff,Int.reduceAdd,Int.reduceSub,Int.reduceMul,not_true_eq_false,not_false_eq_true,Nat.reduceLT,Int.reduceToNat,Int.reduceEq,Int.reduceNe,Int.reduceLT,Int.reduceLE,false_implies,true_implies]
            refine ⟨fun _ => done _ _ _, fun q => by omega⟩
        | succ k ih =>
          intro i hi z tk
          have step := ih (i + 1)
          have next : ∀ B (e : Int), GR B → NR B → 0 ≤ e ∧ e ≤ 9 → J M_M_whatKind 102 [some (.ref 90), some (.int (zI (m.toNat : Int))), some (.int (zI w)), some (.int (zI 0)), some (.int z), some (.int (zI i))] [.int (zI e), .int (zI (m.toNat : Int)), .ref 93] (HM (B) rf lt lsz a0 ib sm pl lo nu (x) ig (im) (49) (tk) (.ref 101) tu (pz) tf tn tsz ga sd bb) Q := by
            intro B e hB hNB he
            have step := step (by omega)
            have hB2 := hB.setFi (x := e) m.toNat he
            have hN2 : NR (sFi B (upI (rFi B) m.toNat e)) := ⟨hNB.1, hNB.2.1, upI_hi hNB.2.2.1 m8, hNB.2.2.2.1, hNB.2.2.2.2⟩
            refine w_M_whatKind_102 ?_
            simp (disch := omega) only [cm_,aq_,ay_,ag_,b8_,af_,ba_,bc_,cp_,b3_,bg_,am_,ae_,ac_,b2_,bq_,ed_,bs_,ao_,as_,c4_,a2_,az_,a4_,aw_,dw_,d6_,ea_,d3_,b5_,b1_,fl_,fn_,fh_,fu_,fp_,fz_,fq_,fk_,fr_,ft_,fs_,f0_,c5_,bt_,bd_,c3_,ct_,cx_,cr_,cf_,ch_,an_,cl_,dt_,dv_,du_,dr_,ds_,cd_,a9_,a8_,a7_,ce_,fv_,d1_,Int.toNat_natCast,f3_,di_,dm_,dn_,gv_,g1_,g0_,gz_,gx_,ge_,gu_,go_,gn_,f4_,Int.add_zero,Int.zero_add,Int.ediv_one,Nat.reduceAdd,Nat.reduceMul,Int.reduceNeg,Nat.reduceLeDiff,List.length_cons,List.length_nil,true_and,and_true,Nat.zero_add,eq_self,Nat.reduceEqDiff,Int.reduceAdd,Int.reduceSub,Int.reduceMul,not_true_eq_false,not_false_eq_true,Nat.reduceLT,Int.reduceToNat,Int.reduceEq,Int.reduceNe,Int.reduceLT,Int.reduceLE,false_implies,true_implies]
            refine ⟨by omega, ?_⟩
            refine con_MisRowA (R := sFi B (upI (rFi B) m.toNat e)) m8 hB2 hN2 hx hI.2.2 hT (fun f hf => ?_)
            rcases hf with rfl | rfl
            · simp (disch := omega) only [cm_,aq_,ay_,ag_,b8_,af_,ba_,bc_,cp_,b3_,bg_,am_,ae_,ac_,b2_,bq_,ed_,bs_,ao_,as_,c4_,a2_,az_,a4_,aw_,dw_,d6_,ea_,d3_,b5_,b1_,fl_,fn_,fh_,fu_,fp_,fz_,fq_,fk_,fr_,ft_,fs_,f0_,c5_,bt_,bd_,c3_,ct_,cx_,cr_,cf_,ch_,an_,cl_,dt_,dv_,du_,dr_,ds_,cd_,a9_,a8_,a7_,ce_,fv_,d1_,Int.toNat_natCast,f3_,di_,dm_,dn_,gv_,g1_,g0_,gz_,gx_,ge_,gu_,go_,gn_,f4_,Int.add_zero,Int.zero_add,Int.ediv_one,Nat.reduceAdd,Nat.reduceMul,Int.reduceNeg,Nat.reduceLeDiff,List.length_cons,List.length_nil,true_and,and_true,Nat.zero_add,eq_self,Nat.reduceEqDiff,Int.reduceAdd,Int.reduceSub,Int.reduceMul,not_true_eq_false,not_false_eq_true,Nat.reduceLT,Int.reduceToNat,Int.reduceEq,Int.reduceNe,Int.reduceLT,Int.reduceLE,false_implies,true_implies]
              refine w_M_whatKind_120 ?_
              simp (disch := omega) only [cm_,aq_,ay_,ag_,b8_,af_,ba_,bc_,cp_,b3_,bg_,am_,ae_,ac_,b2_,bq_,ed_,bs_,ao_,as_,c4_,a2_,az_,a4_,aw_,dw_,d6_,ea_,d3_,b5_,b1_,fl_,fn_,fh_,fu_,fp_,fz_,fq_,fk_,fr_,ft_,fs_,f0_,c5_,bt_,bd_,c3_,ct_,cx_,cr_,cf_,ch_,an_,cl_,dt_,dv_,du_,dr_,ds_,cd_,a9_,a8_,a7_,ce_,fv_,d1_,Int.toNat_natCast,f3_,di_,dm_,dn_,gv_,g1_,g0_,gz_,gx_,ge_,gu_,go_,gn_,f4_,Int.add_zero,Int.zero_add,Int.ediv_one,Nat.reduceAdd,Nat.reduceMul,Int.reduceNeg,Nat.reduceLeDiff,List.length_cons,List.length_nil,true_and,and_true,Nat.zero_add,eq_self,Nat.reduceEqDiff,Int.reduceAdd,Int.reduceSub,Int.reduceMul,not_true_eq_false,not_false_eq_true,Nat.reduceLT,Int.reduceToNat,Int.reduceEq,Int.reduceNe,Int.reduceLT,Int.reduceLE,false_implies,true_implies]
              refine w_M_whatKind_121 ?_
              simp (disch := omega) only [cm_,aq_,ay_,ag_,b8_,af_,ba_,bc_,cp_,b3_,bg_,am_,ae_,ac_,b2_,bq_,ed_,bs_,ao_,as_,c4_,a2_,az_,a4_,aw_,dw_,d6_,ea_,d3_,b5_,b1_,fl_,fn_,fh_,fu_,fp_,fz_,fq_,fk_,fr_,ft_,fs_,f0_,c5_,bt_,bd_,c3_,ct_,cx_,cr_,cf_,ch_,an_,cl_,dt_,dv_,du_,dr_,ds_,cd_,a9_,a8_,a7_,ce_,fv_,d1_,Int.toNat_natCast,f3_,di_,dm_,dn_,gv_,g1_,g0_,gz_,gx_,ge_,gu_,go_,gn_,f4_,Int.add_zero,Int.zero_add,Int.ediv_one,Nat.reduceAdd,Nat.reduceMul,Int.reduceNeg,Nat.reduceLeDiff,List.length_cons,List.length_nil,true_and,and_true,Nat.zero_add,eq_self,Nat.reduceEqDiff,Int.reduceAdd,Int.reduceSub,Int.reduceMul,not_true_eq_false,not_false_eq_true,Nat.reduceLT,Int.reduceToNat,Int.reduceEq,Int.reduceNe,Int.reduceLT,Int.reduceLE,false_implies,true_implies]
              exact step _ _
            · simp (disch := omega) only [cm_,aq_,ay_,ag_,b8_,af_,ba_,bc_,cp_,b3_,bg_,am_,ae_,ac_,b2_,bq_,ed_,bs_,ao_,as_,c4_,a2_,az_,a4_,aw_,dw_,d6_,ea_,d3_,b5_,b1_,fl_,fn_,fh_,fu_,fp_,fz_,fq_,fk_,fr_,ft_,fs_,f0_,c5_,bt_,bd_,c3_,ct_,cx_,cr_,cf_,ch_,an_,cl_,dt_,dv_,du_,dr_,ds_,cd_,a9_,a8_,a7_,ce_,fv_,d1_,Int.toNat_natCast,f3_,di_,dm_,dn_,gv_,g1_,g0_,gz_,gx_,ge_,gu_,go_,gn_,f4_,Int.add_zero,Int.zero_add,Int.ediv_one,Nat.reduceAdd,Nat.reduceMul,Int.reduceNeg,Nat.reduceLeDiff,List.length_cons,List.length_nil,true_and,and_true,Nat.zero_add,eq_self,Nat.reduceEqDiff,Int.reduceAdd,Int.reduceSub,Int.reduceMul,not_true_eq_false,not_false_eq_true,Nat.reduceLT,Int.reduceToNat,Int.reduceEq,Int.reduceNe,Int.reduceLT,Int.reduceLE,false_implies,true_implies]
              refine w_M_whatKind_121 ?_
              simp (disch := omega) only [cm_,aq_,ay_,ag_,b8_,af_,ba_,bc_,cp_,b3_,bg_,am_,ae_,ac_,b2_,bq_,ed_,bs_,ao_,as_,c4_,a2_,az_,a4_,aw_,dw_,d6_,ea_,d3_,b5_,b1_,fl_,fn_,fh_,fu_,fp_,fz_,fq_,fk_,fr_,ft_,fs_,f0_,c5_,bt_,bd_,c3_,ct_,cx_,cr_,cf_,ch_,an_,cl_,dt_,dv_,du_,dr_,ds_,cd_,a9_,a8_,a7_,ce_,fv_,d1_,Int.toNat_natCast,f3_,di_,dm_,dn_,gv_,g1_,g0_,gz_,gx_,ge_,gu_,go_,gn_,f4_,Int.add_zero,Int.zero_add,Int.ediv_one,Nat.reduceAdd,Nat.reduceMul,Int.reduceNeg,Nat.reduceLeDiff,List.length_cons,List.length_nil,true_and,and_true,Nat.zero_add,eq_self,Nat.reduceEqDiff,Int.reduceAdd,Int.reduceSub,Int.reduceMul,not_true_eq_false,not_false_eq_true,Nat.reduceLT,Int.reduceToNat,Int.reduceEq,Int.reduceNe,Int.reduceLT,Int.reduceLE,false_implies,true_implies]
              exact step _ _
          have hN := hI.2.2
          refine w_M_whatKind_44 ?_
          simp (disch := omega) only [cm_,aq_,ay_,ag_,b8_,af_,ba_,bc_,cp_,b3_,bg_,am_,ae_,ac_,b2_,bq_,ed_,bs_,ao_,as_,c4_,a2_,az_,a4_,aw_,dw_,d6_,ea_,d3_,b5_,b1_,fl_,fn_,fh_,fu_,fp_,fz_,fq_,fk_,fr_,ft_,fs_,f0_,c5_,bt_,bd_,c3_,ct_,cx_,cr_,cf_,ch_,an_,cl_,dt_,dv_,du_,dr_,ds_,cd_,a9_,a8_,a7_,ce_,fv_,d1_,Int.toNat_natCast,f3_,di_,dm_,dn_,gv_,g1_,g0_,gz_,gx_,ge_,gu_,go_,gn_,f4_,Int.add_zero,Int.zero_add,Int.ediv_one,Nat.reduceAdd,Nat.reduceMul,Int.reduceNeg,Nat.reduceLeDiff,List.length_cons,List.length_nil,true_and,and_true,Nat.zero_add,eq_self,Nat.reduceEqDiff,Int.reduceAdd,Int.reduceSub,Int.reduceMul,not_true_eq_false,not_false_eq_true,Nat.reduceLT,Int.reduceToNat,Int.reduceEq,Int.reduceNe,Int.reduceLT,Int.reduceLE,false_implies,true_implies]
          refine ⟨fun c3 => ?_, fun c3 => ?_⟩
          · rw [if_neg (by omega)] at hi
            refine w_M_whatKind_55 ?_
            simp (disch := omega) only [cm_,aq_,ay_,ag_,b8_,af_,ba_,bc_,cp_,b3_,bg_,am_,ae_,ac_,b2_,bq_,ed_,bs_,ao_,as_,c4_,a2_,az_,a4_,aw_,dw_,d6_,ea_,d3_,b5_,b1_,fl_,fn_,fh_,fu_,fp_,fz_,fq_,fk_,fr_,ft_,fs_,f0_,c5_,bt_,bd_,c3_,ct_,cx_,cr_,cf_,ch_,an_,cl_,dt_,dv_,du_,dr_,ds_,cd_,a9_,a8_,a7_,ce_,fv_,d1_,Int.toNat_natCast,f3_,di_,dm_,dn_,gv_,g1_,g0_,gz_,gx_,ge_,gu_,go_,gn_,f4_,Int.add_zero,Int.zero_add,Int.ediv_one,Nat.reduceAdd,Nat.reduceMul,Int.reduceNeg,Nat.reduceLeDiff,List.length_cons,List.length_nil,true_and,and_true,Nat.zero_add,eq_self,Nat.reduceEqDiff,Int.reduceAdd,Int.reduceSub,Int.reduceMul,not_true_eq_false,not_false_eq_true,Nat.reduceLT,Int.reduceToNat,Int.reduceEq,Int.reduceNe,Int.reduceLT,Int.reduceLE,false_implies,true_implies]
            refine w_M_whatKind_57 ?_
            simp (disch := omega) only [cm_,aq_,ay_,ag_,b8_,af_,ba_,bc_,cp_,b3_,bg_,am_,ae_,ac_,b2_,bq_,ed_,bs_,ao_,as_,c4_,a2_,az_,a4_,aw_,dw_,d6_,ea_,d3_,b5_,b1_,fl_,fn_,fh_,fu_,fp_,fz_,fq_,fk_,fr_,ft_,fs_,f0_,c5_,bt_,bd_,c3_,ct_,cx_,cr_,cf_,ch_,an_,cl_,dt_,dv_,du_,dr_,ds_,cd_,a9_,a8_,a7_,ce_,fv_,d1_,Int.toNat_natCast,f3_,di_,dm_,dn_,gv_,g1_,g0_,gz_,gx_,ge_,gu_,go_,gn_,f4_,Int.add_zero,Int.zero_add,Int.ediv_one,Nat.reduceAdd,Nat.reduceMul,Int.reduceNeg,Nat.reduceLeDiff,List.length_cons,List.length_nil,true_and,and_true,Nat.zero_add,eq_self,Nat.reduceEqDiff,Int.reduceAdd,Int.reduceSub,Int.reduceMul,not_true_eq_false,not_false_eq_true,Nat.reduceLT,Int.reduceToNat,Int.reduceEq,Int.reduceNe,Int.reduceLT,Int.reduceLE,false_implies,true_implies]
            refine ⟨fun q => by omega, fun _ => ⟨fun _ => ?_, fun q => absurd c3 q⟩⟩
            refine w_M_whatKind_74 ?_
            simp (disch := omega) only [cm_,aq_,ay_,ag_,b8_,af_,ba_,bc_,cp_,b3_,bg_,am_,ae_,ac_,b2_,bq_,ed_,bs_,ao_,as_,c4_,a2_,az_,a4_,aw_,dw_,d6_,ea_,d3_,b5_,b1_,fl_,fn_,fh_,fu_,fp_,fz_,fq_,fk_,fr_,ft_,fs_,f0_,c5_,bt_,bd_,c3_,ct_,cx_,cr_,cf_,ch_,an_,cl_,dt_,dv_,du_,dr_,ds_,cd_,a9_,a8_,a7_,ce_,fv_,d1_,Int.toNat_natCast,f3_,di_,dm_,dn_,gv_,g1_,g0_,gz_,gx_,ge_,gu_,go_,gn_,f4_,Int.add_zero,Int.zero_add,Int.ediv_one,Nat.reduceAdd,Nat.reduceMul,Int.reduceNeg,Nat.reduceLeDiff,List.length_cons,List.length_nil,true_and,and_true,Nat.zero_add,eq_self,Nat.reduceEqDiff,Int.reduceAdd,Int.reduceSub,Int.reduceMul,not_true_eq_false,not_false_eq_true,Nat.reduceLT,Int.reduceToNat,Int.reduceEq,Int.reduceNe,Int.reduceLT,Int.reduceLE,false_implies,true_implies]
            refine ⟨by omega, ?_⟩
            refine w_M_whatKind_80 ?_
            simp (disch := omega) only [cm_,aq_,ay_,ag_,b8_,af_,ba_,bc_,cp_,b3_,bg_,am_,ae_,ac_,b2_,bq_,ed_,bs_,ao_,as_,c4_,a2_,az_,a4_,aw_,dw_,d6_,ea_,d3_,b5_,b1_,fl_,fn_,fh_,fu_,fp_,fz_,fq_,fk_,fr_,ft_,fs_,f0_,c5_,bt_,bd_,c3_,ct_,cx_,cr_,cf_,ch_,an_,cl_,dt_,dv_,du_,dr_,ds_,cd_,a9_,a8_,a7_,ce_,fv_,d1_,Int.toNat_natCast,f3_,di_,dm_,dn_,gv_,g1_,g0_,gz_,gx_,ge_,gu_,go_,gn_,f4_,Int.add_zero,Int.zero_add,Int.ediv_one,Nat.reduceAdd,Nat.reduceMul,Int.reduceNeg,Nat.reduceLeDiff,List.length_cons,List.length_nil,true_and,and_true,Nat.zero_add,eq_self,Nat.reduceEqDiff,Int.reduceAdd,Int.reduceSub,Int.reduceMul,not_true_eq_false,not_false_eq_true,Nat.reduceLT,Int.reduceToNat,Int.reduceEq,Int.reduceNe,Int.reduceLT,Int.reduceLE,false_implies,true_implies]
            rw [upI_id]
            refine ⟨by omega, fun q => by omega, fun _ => ?_⟩
            exact next _ _ hG hN (by omega)
          · rw [if_pos (by omega)] at hi
            refine w_M_whatKind_57 ?_
            simp (disch := omega) only [cm_,aq_,ay_,ag_,b8_,af_,ba_,bc_,cp_,b3_,bg_,am_,ae_,ac_,b2_,bq_,ed_,bs_,ao_,as_,c4_,a2_,az_,a4_,aw_,dw_,d6_,ea_,d3_,b5_,b1_,fl_,fn_,fh_,fu_,fp_,fz_,fq_,fk_,fr_,ft_,fs_,f0_,c5_,bt_,bd_,c3_,ct_,cx_,cr_,cf_,ch_,an_,cl_,dt_,dv_,du_,dr_,ds_,cd_,a9_,a8_,a7_,ce_,fv_,d1_,Int.toNat_natCast,f3_,di_,dm_,dn_,gv_,g1_,g0_,gz_,gx_,ge_,gu_,go_,gn_,f4_,Int.add_zero,Int.zero_add,Int.ediv_one,Nat.reduceAdd,Nat.reduceMul,Int.reduceNeg,Nat.reduceLeDiff,List.length_cons,List.length_nil,true_and,and_true,Nat.zero_add,eq_self,Nat.reduceEqDiff,Int.reduceAdd,Int.reduceSub,Int.reduceMul,not_true_eq_false,not_false_eq_true,Nat.reduceLT,Int.reduceToNat,Int.reduceEq,Int.reduceNe,Int.reduceLT,Int.reduceLE,false_implies,true_implies]
            refine ⟨fun q => by omega, fun _ => ⟨fun q => by omega, fun _ => ?_⟩⟩
            have hG2 := hG.setKi (x := (i : Int)) m.toNat (by omega)
            have hN2 : NR (sKi R (upI (rKi R) m.toNat (i : Int))) := ⟨hN.1, upI_hi hN.2.1 m8, hN.2.2⟩
            refine w_M_whatKind_80 ?_
            simp (disch := omega) only [cm_,aq_,ay_,ag_,b8_,af_,ba_,bc_,cp_,b3_,bg_,am_,ae_,ac_,b2_,bq_,ed_,bs_,ao_,as_,c4_,a2_,az_,a4_,aw_,dw_,d6_,ea_,d3_,b5_,b1_,fl_,fn_,fh_,fu_,fp_,fz_,fq_,fk_,fr_,ft_,fs_,f0_,c5_,bt_,bd_,c3_,ct_,cx_,cr_,cf_,ch_,an_,cl_,dt_,dv_,du_,dr_,ds_,cd_,a9_,a8_,a7_,ce_,fv_,d1_,Int.toNat_natCast,f3_,di_,dm_,dn_,gv_,g1_,g0_,gz_,gx_,ge_,gu_,go_,gn_,f4_,Int.add_zero,Int.zero_add,Int.ediv_one,Nat.reduceAdd,Nat.reduceMul,Int.reduceNeg,Nat.reduceLeDiff,List.length_cons,List.length_nil,true_and,and_true,Nat.zero_add,eq_self,Nat.reduceEqDiff,Int.reduceAdd,Int.reduceSub,Int.reduceMul,not_true_eq_false,not_false_eq_true,Nat.reduceLT,Int.reduceToNat,Int.reduceEq,Int.reduceNe,Int.reduceLT,Int.reduceLE,false_implies,true_implies]
            refine ⟨by omega, fun _ => ?_, fun q => by omega⟩
            refine w_M_whatKind_96 ?_
            simp (disch := omega) only [cm_,aq_,ay_,ag_,b8_,af_,ba_,bc_,cp_,b3_,bg_,am_,ae_,ac_,b2_,bq_,ed_,bs_,ao_,as_,c4_,a2_,az_,a4_,aw_,dw_,d6_,ea_,d3_,b5_,b1_,fl_,fn_,fh_,fu_,fp_,fz_,fq_,fk_,fr_,ft_,fs_,f0_,c5_,bt_,bd_,c3_,ct_,cx_,cr_,cf_,ch_,an_,cl_,dt_,dv_,du_,dr_,ds_,cd_,a9_,a8_,a7_,ce_,fv_,d1_,Int.toNat_natCast,f3_,di_,dm_,dn_,gv_,g1_,g0_,gz_,gx_,ge_,gu_,go_,gn_,f4_,Int.add_zero,Int.zero_add,Int.ediv_one,Nat.reduceAdd,Nat.reduceMul,Int.reduceNeg,Nat.reduceLeDiff,List.length_cons,List.length_nil,true_and,and_true,Nat.zero_add,eq_self,Nat.reduceEqDiff,Int.reduceAdd,Int.reduceSub,Int.reduceMul,not_true_eq_false,not_false_eq_true,Nat.reduceLT,Int.reduceToNat,Int.reduceEq,Int.reduceNe,Int.reduceLT,Int.reduceLE,false_implies,true_implies]
            refine ⟨by omega, ?_⟩
            exact next (sKi R (upI (rKi R) m.toNat (i : Int))) _ hG2 hN2 (by omega)
      exact turn _ 0 (Nat.zero_add _) _ _
  · simp (disch := omega) only [cm_,aq_,ay_,ag_,b8_,af_,ba_,bc_,cp_,b3_,bg_,am_,ae_,ac_,b2_,bq_,ed_,bs_,ao_,as_,c4_,a2_,az_,a4_,aw_,dw_,d6_,ea_,d3_,b5_,b1_,fl_,fn_,fh_,fu_,fp_,fz_,fq_,fk_,fr_,ft_,fs_,f0_,c5_,bt_,bd_,c3_,ct_,cx_,cr_,cf_,ch_,an_,cl_,dt_,dv_,du_,dr_,ds_,cd_,a9_,a8_,a7_,ce_,fv_,d1_,Int.toNat_natCast,f3_,di_,dm_,dn_,gv_,g1_,g0_,gz_,gx_,ge_,gu_,go_,gn_,f4_,Int.add_zero,Int.zero_add,Int.ediv_one,Nat.reduceAdd,Nat.reduceMul,Int.reduceNeg,Nat.reduceLeDiff,List.length_cons,List.length_nil,true_and,and_true,Nat.zero_add,eq_self,Nat.reduceEqDiff,Int.reduceAdd,Int.reduceSub,Int.reduceMul,not_true_eq_false,not_false_eq_true,Nat.reduceLT,Int.reduceToNat,Int.reduceEq,Int.reduceNe,Int.reduceLT,Int.reduceLE,false_implies,true_implies]
    refine w_M_whatKind_17 ?_
    simp (disch := omega) only [cm_,aq_,ay_,ag_,b8_,af_,ba_,bc_,cp_,b3_,bg_,am_,ae_,ac_,b2_,bq_,ed_,bs_,ao_,as_,c4_,a2_,az_,a4_,aw_,dw_,d6_,ea_,d3_,b5_,b1_,fl_,fn_,fh_,fu_,fp_,fz_,fq_,fk_,fr_,ft_,fs_,f0_,c5_,bt_,bd_,c3_,ct_,cx_,cr_,cf_,ch_,an_,cl_,dt_,dv_,du_,dr_,ds_,cd_,a9_,a8_,a7_,ce_,fv_,d1_,Int.toNat_natCast,f3_,di_,dm_,dn_,gv_,g1_,g0_,gz_,gx_,ge_,gu_,go_,gn_,f4_,Int.add_zero,Int.zero_add,Int.ediv_one,Nat.reduceAdd,Nat.reduceMul,Int.reduceNeg,Nat.reduceLeDiff,List.length_cons,List.length_nil,true_and,and_true,Nat.zero_add,eq_self,Nat.reduceEqDiff,Int.reduceAdd,Int.reduceSub,Int.reduceMul,not_true_eq_false,not_false_eq_true,Nat.reduceLT,Int.reduceToNat,Int.reduceEq,Int.reduceNe,Int.reduceLT,Int.reduceLE,false_implies,true_implies]
    refine w_M_whatKind_18 ?_
    simp (disch := omega) only [cm_,aq_,ay_,ag_,b8_,af_,ba_,bc_,cp_,b3_,bg_,am_,ae_,ac_,b2_,bq_,ed_,bs_,ao_,as_,c4_,a2_,az_,a4_,aw_,dw_,d6_,ea_,d3_,b5_,b1_,fl_,fn_,fh_,fu_,fp_,fz_,fq_,fk_,fr_,ft_,fs_,f0_,c5_,bt_,bd_,c3_,ct_,cx_,cr_,cf_,ch_,an_,cl_,dt_,dv_,du_,dr_,ds_,cd_,a9_,a8_,a7_,ce_,fv_,d1_,Int.toNat_natCast,f3_,di_,dm_,dn_,gv_,g1_,g0_,gz_,gx_,ge_,gu_,go_,gn_,f4_,Int.add_zero,Int.zero_add,Int.ediv_one,Nat.reduceAdd,Nat.reduceMul,Int.reduceNeg,Nat.reduceLeDiff,List.length_cons,List.length_nil,true_and,and_true,Nat.zero_add,eq_self,Nat.reduceEqDiff,Int.reduceAdd,Int.reduceSub,Int.reduceMul,not_true_eq_false,not_false_eq_true,Nat.reduceLT,Int.reduceToNat,Int.reduceEq,Int.reduceNe,Int.reduceLT,Int.reduceLE,false_implies,true_implies]
    refine con_MwrongBit (by unfold inI; omega) hw (by unfold inI; omega) (fun q => by omega) (fun _ => ?_)
    simp (disch := omega) only [cm_,aq_,ay_,ag_,b8_,af_,ba_,bc_,cp_,b3_,bg_,am_,ae_,ac_,b2_,bq_,ed_,bs_,ao_,as_,c4_,a2_,az_,a4_,aw_,dw_,d6_,ea_,d3_,b5_,b1_,fl_,fn_,fh_,fu_,fp_,fz_,fq_,fk_,fr_,ft_,fs_,f0_,c5_,bt_,bd_,c3_,ct_,cx_,cr_,cf_,ch_,an_,cl_,dt_,dv_,du_,dr_,ds_,cd_,a9_,a8_,a7_,ce_,fv_,d1_,Int.toNat_natCast,f3_,di_,dm_,dn_,gv_,g1_,g0_,gz_,gx_,ge_,gu_,go_,gn_,f4_,Int.add_zero,Int.zero_add,Int.ediv_one,Nat.reduceAdd,Nat.reduceMul,Int.reduceNeg,Nat.reduceLeDiff,List.length_cons,List.length_nil,true_and,and_true,Nat.zero_add,eq_self,Nat.reduceEqDiff,Int.reduceAdd,Int.reduceSub,Int.reduceMul,not_true_eq_false,not_false_eq_true,Nat.reduceLT,Int.reduceToNat,Int.reduceEq,Int.reduceNe,Int.reduceLT,Int.reduceLE,false_implies,true_implies]
    refine con_Mrefuse (k := 1) (by omega) ?_
    simp (disch := omega) only [cm_,aq_,ay_,ag_,b8_,af_,ba_,bc_,cp_,b3_,bg_,am_,ae_,ac_,b2_,bq_,ed_,bs_,ao_,as_,c4_,a2_,az_,a4_,aw_,dw_,d6_,ea_,d3_,b5_,b1_,fl_,fn_,fh_,fu_,fp_,fz_,fq_,fk_,fr_,ft_,fs_,f0_,c5_,bt_,bd_,c3_,ct_,cx_,cr_,cf_,ch_,an_,cl_,dt_,dv_,du_,dr_,ds_,cd_,a9_,a8_,a7_,ce_,fv_,d1_,Int.toNat_natCast,f3_,di_,dm_,dn_,gv_,g1_,g0_,gz_,gx_,ge_,gu_,go_,gn_,f4_,Int.add_zero,Int.zero_add,Int.ediv_one,Nat.reduceAdd,Nat.reduceMul,Int.reduceNeg,Nat.reduceLeDiff,List.length_cons,List.length_nil,true_and,and_true,Nat.zero_add,eq_self,Nat.reduceEqDiff,Int.reduceAdd,Int.reduceSub,Int.reduceMul,not_true_eq_false,not_false_eq_true,Nat.reduceLT,Int.reduceToNat,Int.reduceEq,Int.reduceNe,Int.reduceLT,Int.reduceLE,false_implies,true_implies]
    exact k1 c
end E31
end
/-! readM -/
section
/-! ===== the reference: the letters read ===== -/
def hrL (lt : Nat → Int) (lsz : Int) (a : Nat) : Int := if (a : Int) < lsz then lt a else -1
theorem hrL_rng {lt : Nat → Int} {lsz : Int} (h : GL lt lsz) (a : Nat) : -1 ≤ hrL lt lsz a ∧ hrL lt lsz a ≤ 255 := by
  have := h.2 a
  simp only [hrL]
  split <;> omega
theorem hrL_at (lt : Nat → Int) (lsz : Int) (a : Nat) : ((a : Int) < lsz ∧ hrL lt lsz a = atL lt lsz a) ∨ (¬ (a : Int) < lsz ∧ hrL lt lsz a = -1 ∧ atL lt lsz a = -9) := by
  simp only [hrL, atL]
  by_cases c : (a : Int) < lsz
  · rw [if_pos c, if_pos ⟨by omega, c⟩, Int.toNat_natCast]
    exact Or.inl ⟨c, rfl⟩
  · rw [if_neg c, if_neg (fun q => c q.2)]
    exact Or.inr ⟨c, rfl, rfl⟩
theorem isDg_hr (lt : Nat → Int) (lsz : Int) (a : Nat) : (isDg lt lsz a = true) = (48 ≤ hrL lt lsz a ∧ hrL lt lsz a ≤ 57) := by
  simp only [isDg, decide_eq_true_eq, eq_iff_iff]
  rcases hrL_at lt lsz a with ⟨_, q⟩ | ⟨_, q1, q2⟩
  · rw [q]
  · rw [q1, q2]; omega
def dcN (lt : Nat → Int) (lsz : Int) (a : Nat) : Nat → Int
  | 0 => 0
  | k + 1 => 10 * dcN lt lsz a k + dgL lt lsz ((a + k : Nat) : Int)
def n1L (lt : Nat → Int) (lsz c : Int) (a : Nat) : Int := if c = 115 ∨ c = 108 ∨ c = 107 ∨ c = 100 then dcN lt lsz a 2 else dcN lt lsz a 1
def n2L (lt : Nat → Int) (lsz c : Int) (a : Nat) : Int := if c = 109 then dcN lt lsz (a + 1) 1 else if c = 115 then dcN lt lsz (a + 2) 1 else 0
theorem firstN_at {p : Nat → Bool} {k n j : Nat} (h1 : k ≤ j) (h2 : j < k + n) (h3 : p j = true) (h4 : ∀ i, k ≤ i → i < j → p i = false) : firstN p k n = (j : Int) := by
  rcases firstN_spec p k n with ⟨_, h⟩ | ⟨i, q1, q2, q3, q4, q5⟩
  · rw [h j h1 h2] at h3; exact absurd h3 (by decide)
  · rw [q3]
    rcases Nat.lt_trichotomy i j with z | z | z
    · rw [h4 i q1 z] at q4; exact absurd q4 (by decide)
    · rw [z]
    · rw [q5 j h1 z] at h3; exact absurd h3 (by decide)
theorem firstN_no {p : Nat → Bool} {k n : Nat} (h : ∀ i, k ≤ i → i < k + n → p i = false) : firstN p k n = -9 := by
  rcases firstN_spec p k n with ⟨z, _⟩ | ⟨i, q1, q2, _, q4, _⟩
  · exact z
  · rw [h i q1 q2] at q4; exact absurd q4 (by decide)
section E32
variable {R : RR} {rf : Nat → Int} {lt : Nat → Int} {lsz : Int} {a0 : Int} {ib : Int} {sm : Int} {pl : Nat → Int} {lo : Nat → Int} {nu : Nat → Int} {kp : Nat → Int} {ig : Nat → Int} {hmg : Int} {p0 : Int} {tk : Int} {ki : Value} {tu : Nat → Int} {tz : Int} {tf : Nat → Int} {tn : Nat → Int} {tsz : Int} {ga : Nat → Int} {sd : Int} {bb : AH} {Q : Option Value → AH → Prop}
theorem con_Mhere {a : Nat} (ha : a < 2147483648) (hL : GL lt lsz) (hQ : Q (some (.int (zI (hrL lt lsz a)))) (HM R rf lt lsz ((a : Nat)) ib sm pl lo nu kp ig hmg p0 tk ki tu tz tf tn tsz ga sd bb)) : Con M_M_here [.ref 90] (HM R rf lt lsz ((a : Nat)) ib sm pl lo nu kp ig hmg p0 tk ki tu tz tf tn tsz ga sd bb) Q := by
  have hl := hL.1
  simp only [hrL] at hQ
  refine g8_ (L := [some (.ref 90)]) ok_M_here (Nat.le_of_ble_eq_true rfl) rfl ?_
  refine w_M_here_0 ?_
  simp (disch := omega) only [cm_,aq_,ay_,ag_,b8_,af_,bm_,ba_,bc_,bx_,c0_,bg_,am_,ac_,b2_,bq_,ed_,bs_,ao_,as_,a2_,aw_,dw_,d6_,ea_,d3_,b5_,fl_,fn_,fh_,fu_,fp_,fz_,fq_,fk_,fr_,ft_,f0_,c5_,bd_,c3_,ck_,ct_,cx_,cr_,cf_,ch_,ci_,an_,dz_,Int.toNat_natCast,f3_,di_,dm_,dn_,er_,gv_,gy_,gu_,f4_,Int.add_zero,Int.zero_add,Int.ediv_one,Nat.reduceAdd,Nat.reduceMul,Int.reduceNeg,Nat.reduceLeDiff,List.length_cons,List.length_nil,true_and,and_true,Nat.zero_add,eq_self,Nat.reduceEqDiff,Int.reduceAdd,Int.reduceSub,Int.reduceMul,not_true_eq_false,not_false_eq_true,Nat.reduceLT,Int.reduceToNat,Int.reduceEq,Int.reduceNe,Int.reduceLT,Int.reduceLE,or_true,or_false,false_implies,true_implies]
  refine ⟨fun c => ?_, fun c => ?_⟩
  · rw [if_neg (by omega)] at hQ
    refine w_M_here_23 ?_
    simp (disch := omega) only [cm_,aq_,ay_,ag_,b8_,af_,bm_,ba_,bc_,bx_,c0_,bg_,am_,ac_,b2_,bq_,ed_,bs_,ao_,as_,a2_,aw_,dw_,d6_,ea_,d3_,b5_,fl_,fn_,fh_,fu_,fp_,fz_,fq_,fk_,fr_,ft_,f0_,c5_,bd_,c3_,ck_,ct_,cx_,cr_,cf_,ch_,ci_,an_,dz_,Int.toNat_natCast,f3_,di_,dm_,dn_,er_,gv_,gy_,gu_,f4_,Int.add_zero,Int.zero_add,Int.ediv_one,Nat.reduceAdd,Nat.reduceMul,Int.reduceNeg,Nat.reduceLeDiff,List.length_cons,List.length_nil,true_and,and_true,Nat.zero_add,eq_self,Nat.reduceEqDiff,Int.reduceAdd,Int.reduceSub,Int.reduceMul,not_true_eq_false,not_false_eq_true,Nat.reduceLT,Int.reduceToNat,Int.reduceEq,Int.reduceNe,Int.reduceLT,Int.reduceLE,or_true,or_false,false_implies,true_implies]
    refine w_M_here_24 ?_
    simp (disch := omega) only [cm_,aq_,ay_,ag_,b8_,af_,bm_,ba_,bc_,bx_,c0_,bg_,am_,ac_,b2_,bq_,ed_,bs_,ao_,as_,a2_,aw_,dw_,d6_,ea_,d3_,b5_,fl_,fn_,fh_,fu_,fp_,fz_,fq_,fk_,fr_,ft_,f0_,c5_,bd_,c3_,ck_,ct_,cx_,cr_,cf_,ch_,ci_,an_,dz_,Int.toNat_natCast,f3_,di_,dm_,dn_,er_,gv_,gy_,gu_,f4_,Int.add_zero,Int.zero_add,Int.ediv_one,Nat.reduceAdd,Nat.reduceMul,Int.reduceNeg,Nat.reduceLeDiff,List.length_cons,List.length_nil,true_and,and_true,Nat.zero_add,eq_self,Nat.reduceEqDiff,Int.reduceAdd,Int.reduceSub,Int.reduceMul,not_true_eq_false,not_false_eq_true,Nat.reduceLT,Int.reduceToNat,Int.reduceEq,Int.reduceNe,Int.reduceLT,Int.reduceLE,or_true,or_false,false_implies,true_implies]
    exact hQ
  · rw [if_pos (by omega)] at hQ
    refine ⟨by omega, ?_⟩
    refine w_M_here_24 ?_
    simp (disch := omega) only [cm_,aq_,ay_,ag_,b8_,af_,bm_,ba_,bc_,bx_,c0_,bg_,am_,ac_,b2_,bq_,ed_,bs_,ao_,as_,a2_,aw_,dw_,d6_,ea_,d3_,b5_,fl_,fn_,fh_,fu_,fp_,fz_,fq_,fk_,fr_,ft_,f0_,c5_,bd_,c3_,ck_,ct_,cx_,cr_,cf_,ch_,ci_,an_,dz_,Int.toNat_natCast,f3_,di_,dm_,dn_,er_,gv_,gy_,gu_,f4_,Int.add_zero,Int.zero_add,Int.ediv_one,Nat.reduceAdd,Nat.reduceMul,Int.reduceNeg,Nat.reduceLeDiff,List.length_cons,List.length_nil,true_and,and_true,Nat.zero_add,eq_self,Nat.reduceEqDiff,Int.reduceAdd,Int.reduceSub,Int.reduceMul,not_true_eq_false,not_false_eq_true,Nat.reduceLT,Int.reduceToNat,Int.reduceEq,Int.reduceNe,Int.reduceLT,Int.reduceLE,or_true,or_false,false_implies,true_implies]
    exact hQ
theorem con_MreadDigits {a n : Nat} (hn : n ≤ 9) (ha : a ≤ 200) (hL : GL lt lsz) (hok : (∀ j, j < n → isDg lt lsz (a + j) = true) → Q (some (.int (zI (dcN lt lsz a n)))) (HM R rf lt lsz ((a + n : Nat)) (0) sm pl lo nu kp ig hmg p0 tk ki tu tz tf tn tsz ga sd bb)) (hno : ∀ p : Nat, a ≤ p → p < a + n → isDg lt lsz p = false → (∀ j, a ≤ j → j < p → isDg lt lsz j = true) → Q (some (.int (zI 0))) (HM R rf lt lsz ((p : Nat)) (1) sm pl lo nu kp ig hmg p0 tk ki tu tz tf tn tsz ga sd bb)) : Con M_M_readDigits [.ref 90, .int (zI n)] (HM R rf lt lsz ((a : Nat)) (0) sm pl lo nu kp ig hmg p0 tk ki tu tz tf tn tsz ga sd bb) Q := by
  have hl := hL.1
  refine g8_ (L := [some (.ref 90), some (.int (zI n)), none, none]) ok_M_readDigits (Nat.le_of_ble_eq_true rfl) rfl ?_
  refine w_M_readDigits_0 ?_
  simp (disch := omega) only [cm_,aq_,ay_,ag_,b8_,af_,bm_,ba_,bc_,bx_,c0_,bg_,am_,ac_,b2_,bq_,ed_,bs_,ao_,as_,a2_,aw_,dw_,d6_,ea_,d3_,b5_,fl_,fn_,fh_,fu_,fp_,fz_,fq_,fk_,fr_,ft_,f0_,c5_,bd_,c3_,ck_,ct_,cx_,cr_,cf_,ch_,ci_,an_,dz_,Int.toNat_natCast,f3_,di_,dm_,dn_,er_,gv_,gy_,gu_,f4_,Int.add_zero,Int.zero_add,Int.ediv_one,Nat.reduceAdd,Nat.reduceMul,Int.reduceNeg,Nat.reduceLeDiff,List.length_cons,List.length_nil,true_and,and_true,Nat.zero_add,eq_self,Nat.reduceEqDiff,Int.reduceAdd,Int.reduceSub,Int.reduceMul,not_true_eq_false,not_false_eq_true,Nat.reduceLT,Int.reduceToNat,Int.reduceEq,Int.reduceNe,Int.reduceLT,Int.reduceLE,or_true,or_false,false_implies,true_implies]
  have bad : ∀ p : Nat, a ≤ p → p < a + n → isDg lt lsz p = false → (∀ j, a ≤ j → j < p → isDg lt lsz j = true) → ∀ m k : Nat, k + m = n → J M_M_readDigits 4 [some (.ref 90), some (.int (zI n)), some (.int (zI 0)), some (.int (zI k))] [] (HM R rf lt lsz ((p : Nat)) (1) sm pl lo nu kp ig hmg p0 tk ki tu tz tf tn tsz ga sd bb) Q := by
    intro p p1 p2 p3 p4 m
    induction m with
    | zero =>
      intro k hk
      refine w_M_readDigits_4 ?_
      simp (disch := omega) only [cm_,aq_,ay_,ag_,b8_,af_,bm_,ba_,bc_,bx_,c0_,bg_,am_,ac_,b2_,bq_,ed_,bs_,ao_,as_,a2_,aw_,dw_,d6_,ea_,d3_,b5_,fl_,fn_,fh_,fu_,fp_,fz_,fq_,fk_,fr_,ft_,f0_,c5_,bd_,c3_,ck_,ct_,cx_,cr_,cf_,ch_,ci_,an_,dz_,Int.toNat_natCast,f3_,di_,dm_,dn_,er_,gv_,gy_,gu_,f4_,Int.add_zero,Int.zero_add,Int.ediv_one,Nat.reduceAdd,Nat.reduceMul,Int.reduceNeg,Nat.reduceLeDiff,List.length_cons,List.length_nil,true_and,and_true,Nat.zero_add,eq_self,Nat.reduceEqDiff,Int.reduceAdd,Int.reduceSub,Int.reduceMul,not_true_eq_false,not_false_eq_true,Nat.reduceLT,Int.reduceToNat,Int.reduceEq,Int.reduceNe,Int.reduceLT,Int.reduceLE,or_true,or_false,false_implies,true_implies]
      refine ⟨fun _ => ?_, fun q => by omega⟩
      refine w_M_readDigits_98 ?_
      simp (disch := omega) only [cm_,aq_,ay_,ag_,b8_,af_,bm_,ba_,bc_,bx_,c0_,bg_,am_,ac_,b2_,bq_,ed_,bs_,ao_,as_,a2_,aw_,dw_,d6_,ea_,d3_,b5_,fl_,fn_,fh_,fu_,fp_,fz_,fq_,fk_,fr_,ft_,f0_,c5_,bd_,c3_,ck_,ct_,cx_,cr_,cf_,ch_,ci_,an_,dz_,Int.toNat_natCast,f3_,di_,dm_,dn_,er_,gv_,gy_,gu_,f4_,Int.add_zero,Int.zero_add,Int.ediv_one,Nat.reduceAdd,Nat.reduceMul,Int.reduceNeg,Nat.reduceLeDiff,List.length_cons,List.length_nil,true_and,and_true,Nat.zero_add,eq_self,Nat.reduceEqDiff,Int.reduceAdd,Int.reduceSub,Int.reduceMul,not_true_eq_false,not_false_eq_true,Nat.reduceLT,Int.reduceToNat,Int.reduceEq,Int.reduceNe,Int.reduceLT,Int.reduceLE,or_true,or_false,false_implies,true_implies]
      exact hno p p1 p2 p3 p4
    | succ m ih =>
      intro k hk
      have step := ih (k + 1) (by omega)
      refine w_M_readDigits_4 ?_
      simp (disch := omega) only [cm_,aq_,ay_,ag_,b8_,af_,bm_,ba_,bc_,bx_,c0_,bg_,am_,ac_,b2_,bq_,ed_,bs_,ao_,as_,a2_,aw_,dw_,d6_,ea_,d3_,b5_,fl_,fn_,fh_,fu_,fp_,fz_,fq_,fk_,fr_,ft_,f0_,c5_,bd_,c3_,ck_,ct_,cx_,cr_,cf_,ch_,ci_,an_,dz_,Int.toNat_natCast,f3_,di_,dm_,dn_,er_,gv_,gy_,gu_,f4_,Int.add_zero,Int.zero_add,Int.ediv_one,Nat.reduceAdd,Nat.reduceMul,Int.reduceNeg,Nat.reduceLeDiff,List.length_cons,List.length_nil,true_and,and_true,Nat.zero_add,eq_self,Nat.reduceEqDiff,Int.reduceAdd,Int.reduceSub,Int.reduceMul,not_true_eq_false,not_false_eq_true,Nat.reduceLT,Int.reduceToNat,Int.reduceEq,Int.reduceNe,Int.reduceLT,Int.reduceLE,or_true,or_false,false_implies,true_implies]
      refine ⟨fun q => by omega, fun _ => ?_⟩
      refine w_M_readDigits_34 ?_
      simp (disch := omega) only [cm_,aq_,ay_,ag_,b8_,af_,bm_,ba_,bc_,bx_,c0_,bg_,am_,ac_,b2_,bq_,ed_,bs_,ao_,as_,a2_,aw_,dw_,d6_,ea_,d3_,b5_,fl_,fn_,fh_,fu_,fp_,fz_,fq_,fk_,fr_,ft_,f0_,c5_,bd_,c3_,ck_,ct_,cx_,cr_,cf_,ch_,ci_,an_,dz_,Int.toNat_natCast,f3_,di_,dm_,dn_,er_,gv_,gy_,gu_,f4_,Int.add_zero,Int.zero_add,Int.ediv_one,Nat.reduceAdd,Nat.reduceMul,Int.reduceNeg,Nat.reduceLeDiff,List.length_cons,List.length_nil,true_and,and_true,Nat.zero_add,eq_self,Nat.reduceEqDiff,Int.reduceAdd,Int.reduceSub,Int.reduceMul,not_true_eq_false,not_false_eq_true,Nat.reduceLT,Int.reduceToNat,Int.reduceEq,Int.reduceNe,Int.reduceLT,Int.reduceLE,or_true,or_false,false_implies,true_implies]
      refine w_M_readDigits_39 ?_
      simp (disch := omega) only [cm_,aq_,ay_,ag_,b8_,af_,bm_,ba_,bc_,bx_,c0_,bg_,am_,ac_,b2_,bq_,ed_,bs_,ao_,as_,a2_,aw_,dw_,d6_,ea_,d3_,b5_,fl_,fn_,fh_,fu_,fp_,fz_,fq_,fk_,fr_,ft_,f0_,c5_,bd_,c3_,ck_,ct_,cx_,cr_,cf_,ch_,ci_,an_,dz_,Int.toNat_natCast,f3_,di_,dm_,dn_,er_,gv_,gy_,gu_,f4_,Int.add_zero,Int.zero_add,Int.ediv_one,Nat.reduceAdd,Nat.reduceMul,Int.reduceNeg,Nat.reduceLeDiff,List.length_cons,List.length_nil,true_and,and_true,Nat.zero_add,eq_self,Nat.reduceEqDiff,Int.reduceAdd,Int.reduceSub,Int.reduceMul,not_true_eq_false,not_false_eq_true,Nat.reduceLT,Int.reduceToNat,Int.reduceEq,Int.reduceNe,Int.reduceLT,Int.reduceLE,or_true,or_false,false_implies,true_implies]
      refine w_M_readDigits_70 ?_
      simp (disch := omega) only [cm_,aq_,ay_,ag_,b8_,af_,bm_,ba_,bc_,bx_,c0_,bg_,am_,ac_,b2_,bq_,ed_,bs_,ao_,as_,a2_,aw_,dw_,d6_,ea_,d3_,b5_,fl_,fn_,fh_,fu_,fp_,fz_,fq_,fk_,fr_,ft_,f0_,c5_,bd_,c3_,ck_,ct_,cx_,cr_,cf_,ch_,ci_,an_,dz_,Int.toNat_natCast,f3_,di_,dm_,dn_,er_,gv_,gy_,gu_,f4_,Int.add_zero,Int.zero_add,Int.ediv_one,Nat.reduceAdd,Nat.reduceMul,Int.reduceNeg,Nat.reduceLeDiff,List.length_cons,List.length_nil,true_and,and_true,Nat.zero_add,eq_self,Nat.reduceEqDiff,Int.reduceAdd,Int.reduceSub,Int.reduceMul,not_true_eq_false,not_false_eq_true,Nat.reduceLT,Int.reduceToNat,Int.reduceEq,Int.reduceNe,Int.reduceLT,Int.reduceLE,or_true,or_false,false_implies,true_implies]
      refine w_M_readDigits_88 ?_
      simp (disch := omega) only [cm_,aq_,ay_,ag_,b8_,af_,bm_,ba_,bc_,bx_,c0_,bg_,am_,ac_,b2_,bq_,ed_,bs_,ao_,as_,a2_,aw_,dw_,d6_,ea_,d3_,b5_,fl_,fn_,fh_,fu_,fp_,fz_,fq_,fk_,fr_,ft_,f0_,c5_,bd_,c3_,ck_,ct_,cx_,cr_,cf_,ch_,ci_,an_,dz_,Int.toNat_natCast,f3_,di_,dm_,dn_,er_,gv_,gy_,gu_,f4_,Int.add_zero,Int.zero_add,Int.ediv_one,Nat.reduceAdd,Nat.reduceMul,Int.reduceNeg,Nat.reduceLeDiff,List.length_cons,List.length_nil,true_and,and_true,Nat.zero_add,eq_self,Nat.reduceEqDiff,Int.reduceAdd,Int.reduceSub,Int.reduceMul,not_true_eq_false,not_false_eq_true,Nat.reduceLT,Int.reduceToNat,Int.reduceEq,Int.reduceNe,Int.reduceLT,Int.reduceLE,or_true,or_false,false_implies,true_implies]
      exact step
  have loop : ∀ m k : Nat, k + m = n → (∀ j, j < k → isDg lt lsz (a + j) = true) → J M_M_readDigits 4 [some (.ref 90), some (.int (zI n)), some (.int (zI (dcN lt lsz a k))), some (.int (zI k))] [] (HM R rf lt lsz ((a + k : Nat)) (0) sm pl lo nu kp ig hmg p0 tk ki tu tz tf tn tsz ga sd bb) Q := by
    intro m
    induction m with
    | zero =>
      intro k hk hd
      have e : k = n := by omega
      subst e
      refine w_M_readDigits_4 ?_
      simp (disch := omega) only [cm_,aq_,ay_,ag_,b8_,af_,bm_,ba_,bc_,bx_,c0_,bg_,am_,ac_,b2_,bq_,ed_,bs_,ao_,as_,a2_,aw_,dw_,d6_,ea_,d3_,b5_,fl_,fn_,fh_,fu_,fp_,fz_,fq_,fk_,fr_,ft_,f0_,c5_,bd_,c3_,ck_,ct_,cx_,cr_,cf_,ch_,ci_,an_,dz_,Int.toNat_natCast,f3_,di_,dm_,dn_,er_,gv_,gy_,gu_,f4_,Int.add_zero,Int.zero_add,Int.ediv_one,Nat.reduceAdd,Nat.reduceMul,Int.reduceNeg,Nat.reduceLeDiff,List.length_cons,List.length_nil,true_and,and_true,Nat.zero_add,eq_self,Nat.reduceEqDiff,Int.reduceAdd,Int.reduceSub,Int.reduceMul,not_true_eq_false,not_false_eq_true,Nat.reduceLT,Int.reduceToNat,Int.reduceEq,Int.reduceNe,Int.reduceLT,Int.reduceLE,or_true,or_false,false_implies,true_implies]
      refine ⟨fun _ => ?_, fun q => by omega⟩
      refine w_M_readDigits_98 ?_
      simp (disch := omega) only [cm_,aq_,ay_,ag_,b8_,af_,bm_,ba_,bc_,bx_,c0_,bg_,am_,ac_,b2_,bq_,ed_,bs_,ao_,as_,a2_,aw_,dw_,d6_,ea_,d3_,b5_,fl_,fn_,fh_,fu_,fp_,fz_,fq_,fk_,fr_,ft_,f0_,c5_,bd_,c3_,ck_,ct_,cx_,cr_,cf_,ch_,ci_,an_,dz_,Int.toNat_natCast,f3_,di_,dm_,dn_,er_,gv_,gy_,gu_,f4_,Int.add_zero,Int.zero_add,Int.ediv_one,Nat.reduceAdd,Nat.reduceMul,Int.reduceNeg,Nat.reduceLeDiff,List.length_cons,List.length_nil,true_and,and_true,Nat.zero_add,eq_self,Nat.reduceEqDiff,Int.reduceAdd,Int.reduceSub,Int.reduceMul,not_true_eq_false,not_false_eq_true,Nat.reduceLT,Int.reduceToNat,Int.reduceEq,Int.reduceNe,Int.reduceLT,Int.reduceLE,or_true,or_false,false_implies,true_implies]
      exact hok hd
    | succ m ih =>
      intro k hk hd
      have hr := hrL_rng hL (a + k)
      have hdg := isDg_hr lt lsz (a + k)
      refine w_M_readDigits_4 ?_
      simp (disch := omega) only [cm_,aq_,ay_,ag_,b8_,af_,bm_,ba_,bc_,bx_,c0_,bg_,am_,ac_,b2_,bq_,ed_,bs_,ao_,as_,a2_,aw_,dw_,d6_,ea_,d3_,b5_,fl_,fn_,fh_,fu_,fp_,fz_,fq_,fk_,fr_,ft_,f0_,c5_,bd_,c3_,ck_,ct_,cx_,cr_,cf_,ch_,ci_,an_,dz_,Int.toNat_natCast,f3_,di_,dm_,dn_,er_,gv_,gy_,gu_,f4_,Int.add_zero,Int.zero_add,Int.ediv_one,Nat.reduceAdd,Nat.reduceMul,Int.reduceNeg,Nat.reduceLeDiff,List.length_cons,List.length_nil,true_and,and_true,Nat.zero_add,eq_self,Nat.reduceEqDiff,Int.reduceAdd,Int.reduceSub,Int.reduceMul,not_true_eq_false,not_false_eq_true,Nat.reduceLT,Int.reduceToNat,Int.reduceEq,Int.reduceNe,Int.reduceLT,Int.reduceLE,or_true,or_false,false_implies,true_implies]
      refine ⟨fun q => by omega, fun _ => ?_⟩
      refine con_Mhere (by omega) hL ?_
      simp (disch := omega) only [cm_,aq_,ay_,ag_,b8_,af_,bm_,ba_,bc_,bx_,c0_,bg_,am_,ac_,b2_,bq_,ed_,bs_,ao_,as_,a2_,aw_,dw_,d6_,ea_,d3_,b5_,fl_,fn_,fh_,fu_,fp_,fz_,fq_,fk_,fr_,ft_,f0_,c5_,bd_,c3_,ck_,ct_,cx_,cr_,cf_,ch_,ci_,an_,dz_,Int.toNat_natCast,f3_,di_,dm_,dn_,er_,gv_,gy_,gu_,f4_,Int.add_zero,Int.zero_add,Int.ediv_one,Nat.reduceAdd,Nat.reduceMul,Int.reduceNeg,Nat.reduceLeDiff,List.length_cons,List.length_nil,true_and,and_true,Nat.zero_add,eq_self,Nat.reduceEqDiff,Int.reduceAdd,Int.reduceSub,Int.reduceMul,not_true_eq_false,not_false_eq_true,Nat.reduceLT,Int.reduceToNat,Int.reduceEq,Int.reduceNe,Int.reduceLT,Int.reduceLE,or_true,or_false,false_implies,true_implies]
      refine con_Min (by unfold inI; omega) (by unfold inI; omega) (by unfold inI; omega) (fun c => ?_) (fun c => ?_)
      · have step := ih (k + 1) (by omega) (fun j hj => by
          rcases Nat.lt_or_ge j k with z | z
          · exact hd j z
          · rw [show j = k by omega, hdg]; exact c)
        have ea : (((a + k : Nat) : Int) < lsz ∧ hrL lt lsz (a + k) = lt (a + k)) := by
          simp only [hrL] at c ⊢
          by_cases z : ((a + k : Nat) : Int) < lsz
          · rw [if_pos z]; exact ⟨z, rfl⟩
          · rw [if_neg z] at c; omega
        have ed : dcN lt lsz a (k + 1) = 10 * dcN lt lsz a k + lt (a + k) - 48 := by
          have : dgL lt lsz ((a + k : Nat) : Int) = lt (a + k) - 48 := by
            have e3 : atL lt lsz ((a + k : Nat) : Int) = lt (a + k) := by
              simp only [atL]
              rw [if_pos ⟨by omega, ea.1⟩, Int.toNat_natCast]
            rw [dgL, e3, if_pos (by omega)]
          simp only [dcN]
          omega
        rw [ed] at step
        simp (disch := omega) only [cm_,aq_,ay_,ag_,b8_,af_,bm_,ba_,bc_,bx_,c0_,bg_,am_,ac_,b2_,bq_,ed_,bs_,ao_,as_,a2_,aw_,dw_,d6_,ea_,d3_,b5_,fl_,fn_,fh_,fu_,fp_,fz_,fq_,fk_,fr_,ft_,f0_,c5_,bd_,c3_,ck_,ct_,cx_,cr_,cf_,ch_,ci_,an_,dz_,Int.toNat_natCast,f3_,di_,dm_,dn_,er_,gv_,gy_,gu_,f4_,Int.add_zero,Int.zero_add,Int.ediv_one,Nat.reduceAdd,Nat.reduceMul,Int.reduceNeg,Nat.reduceLeDiff,List.length_cons,List.length_nil,true_and,and_true,Nat.zero_add,eq_self,Nat.reduceEqDiff,Int.reduceAdd,Int.reduceSub,Int.reduceMul,not_true_eq_false,not_false_eq_true,Nat.reduceLT,Int.reduceToNat,Int.reduceEq,Int.reduceNe,Int.reduceLT,Int.reduceLE,or_true,or_false,false_implies,true_implies]
        refine w_M_readDigits_38 ?_
        simp (disch := omega) only [cm_,aq_,ay_,ag_,b8_,af_,bm_,ba_,bc_,bx_,c0_,bg_,am_,ac_,b2_,bq_,ed_,bs_,ao_,as_,a2_,aw_,dw_,d6_,ea_,d3_,b5_,fl_,fn_,fh_,fu_,fp_,fz_,fq_,fk_,fr_,ft_,f0_,c5_,bd_,c3_,ck_,ct_,cx_,cr_,cf_,ch_,ci_,an_,dz_,Int.toNat_natCast,f3_,di_,dm_,dn_,er_,gv_,gy_,gu_,f4_,Int.add_zero,Int.zero_add,Int.ediv_one,Nat.reduceAdd,Nat.reduceMul,Int.reduceNeg,Nat.reduceLeDiff,List.length_cons,List.length_nil,true_and,and_true,Nat.zero_add,eq_self,Nat.reduceEqDiff,Int.reduceAdd,Int.reduceSub,Int.reduceMul,not_true_eq_false,not_false_eq_true,Nat.reduceLT,Int.reduceToNat,Int.reduceEq,Int.reduceNe,Int.reduceLT,Int.reduceLE,or_true,or_false,false_implies,true_implies]
        refine w_M_readDigits_39 ?_
        simp (disch := omega) only [cm_,aq_,ay_,ag_,b8_,af_,bm_,ba_,bc_,bx_,c0_,bg_,am_,ac_,b2_,bq_,ed_,bs_,ao_,as_,a2_,aw_,dw_,d6_,ea_,d3_,b5_,fl_,fn_,fh_,fu_,fp_,fz_,fq_,fk_,fr_,ft_,f0_,c5_,bd_,c3_,ck_,ct_,cx_,cr_,cf_,ch_,ci_,an_,dz_,Int.toNat_natCast,f3_,di_,dm_,dn_,er_,gv_,gy_,gu_,f4_,Int.add_zero,Int.zero_add,Int.ediv_one,Nat.reduceAdd,Nat.reduceMul,Int.reduceNeg,Nat.reduceLeDiff,List.length_cons,List.length_nil,true_and,and_true,Nat.zero_add,eq_self,Nat.reduceEqDiff,Int.reduceAdd,Int.reduceSub,Int.reduceMul,not_true_eq_false,not_false_eq_true,Nat.reduceLT,Int.reduceToNat,Int.reduceEq,Int.reduceNe,Int.reduceLT,Int.reduceLE,or_true,or_false,false_implies,true_implies]
        refine w_M_readDigits_53 ?_
        simp (disch := omega) only [cm_,aq_,ay_,ag_,b8_,af_,bm_,ba_,bc_,bx_,c0_,bg_,am_,ac_,b2_,bq_,ed_,bs_,ao_,as_,a2_,aw_,dw_,d6_,ea_,d3_,b5_,fl_,fn_,fh_,fu_,fp_,fz_,fq_,fk_,fr_,ft_,f0_,c5_,bd_,c3_,ck_,ct_,cx_,cr_,cf_,ch_,ci_,an_,dz_,Int.toNat_natCast,f3_,di_,dm_,dn_,er_,gv_,gy_,gu_,f4_,Int.add_zero,Int.zero_add,Int.ediv_one,Nat.reduceAdd,Nat.reduceMul,Int.reduceNeg,Nat.reduceLeDiff,List.length_cons,List.length_nil,true_and,and_true,Nat.zero_add,eq_self,Nat.reduceEqDiff,Int.reduceAdd,Int.reduceSub,Int.reduceMul,not_true_eq_false,not_false_eq_true,Nat.reduceLT,Int.reduceToNat,Int.reduceEq,Int.reduceNe,Int.reduceLT,Int.reduceLE,or_true,or_false,false_implies,true_implies]
        refine ⟨by omega, ?_⟩
        refine w_M_readDigits_70 ?_
        simp (disch := omega) only [cm_,aq_,ay_,ag_,b8_,af_,bm_,ba_,bc_,bx_,c0_,bg_,am_,ac_,b2_,bq_,ed_,bs_,ao_,as_,a2_,aw_,dw_,d6_,ea_,d3_,b5_,fl_,fn_,fh_,fu_,fp_,fz_,fq_,fk_,fr_,ft_,f0_,c5_,bd_,c3_,ck_,ct_,cx_,cr_,cf_,ch_,ci_,an_,dz_,Int.toNat_natCast,f3_,di_,dm_,dn_,er_,gv_,gy_,gu_,f4_,Int.add_zero,Int.zero_add,Int.ediv_one,Nat.reduceAdd,Nat.reduceMul,Int.reduceNeg,Nat.reduceLeDiff,List.length_cons,List.length_nil,true_and,and_true,Nat.zero_add,eq_self,Nat.reduceEqDiff,Int.reduceAdd,Int.reduceSub,Int.reduceMul,not_true_eq_false,not_false_eq_true,Nat.reduceLT,Int.reduceToNat,Int.reduceEq,Int.reduceNe,Int.reduceLT,Int.reduceLE,or_true,or_false,false_implies,true_implies]
        refine w_M_readDigits_87 ?_
        simp (disch := omega) only [cm_,aq_,ay_,ag_,b8_,af_,bm_,ba_,bc_,bx_,c0_,bg_,am_,ac_,b2_,bq_,ed_,bs_,ao_,as_,a2_,aw_,dw_,d6_,ea_,d3_,b5_,fl_,fn_,fh_,fu_,fp_,fz_,fq_,fk_,fr_,ft_,f0_,c5_,bd_,c3_,ck_,ct_,cx_,cr_,cf_,ch_,ci_,an_,dz_,Int.toNat_natCast,f3_,di_,dm_,dn_,er_,gv_,gy_,gu_,f4_,Int.add_zero,Int.zero_add,Int.ediv_one,Nat.reduceAdd,Nat.reduceMul,Int.reduceNeg,Nat.reduceLeDiff,List.length_cons,List.length_nil,true_and,and_true,Nat.zero_add,eq_self,Nat.reduceEqDiff,Int.reduceAdd,Int.reduceSub,Int.reduceMul,not_true_eq_false,not_false_eq_true,Nat.reduceLT,Int.reduceToNat,Int.reduceEq,Int.reduceNe,Int.reduceLT,Int.reduceLE,or_true,or_false,false_implies,true_implies]
        refine w_M_readDigits_88 ?_
        simp (disch := omega) only [cm_,aq_,ay_,ag_,b8_,af_,bm_,ba_,bc_,bx_,c0_,bg_,am_,ac_,b2_,bq_,ed_,bs_,ao_,as_,a2_,aw_,dw_,d6_,ea_,d3_,b5_,fl_,fn_,fh_,fu_,fp_,fz_,fq_,fk_,fr_,ft_,f0_,c5_,bd_,c3_,ck_,ct_,cx_,cr_,cf_,ch_,ci_,an_,dz_,Int.toNat_natCast,f3_,di_,dm_,dn_,er_,gv_,gy_,gu_,f4_,Int.add_zero,Int.zero_add,Int.ediv_one,Nat.reduceAdd,Nat.reduceMul,Int.reduceNeg,Nat.reduceLeDiff,List.length_cons,List.length_nil,true_and,and_true,Nat.zero_add,eq_self,Nat.reduceEqDiff,Int.reduceAdd,Int.reduceSub,Int.reduceMul,not_true_eq_false,not_false_eq_true,Nat.reduceLT,Int.reduceToNat,Int.reduceEq,Int.reduceNe,Int.reduceLT,Int.reduceLE,or_true,or_false,false_implies,true_implies]
        exact step
      · have nd : isDg lt lsz (a + k) = false := Bool.eq_false_iff.mpr (fun q => by rw [hdg] at q; exact c q)
        have step := bad (a + k) (by omega) (by omega) nd (fun j j1 j2 => by
          have := hd (j - a) (by omega)
          rw [show a + (j - a) = j by omega] at this
          exact this) m (k + 1) (by omega)
        simp (disch := omega) only [cm_,aq_,ay_,ag_,b8_,af_,bm_,ba_,bc_,bx_,c0_,bg_,am_,ac_,b2_,bq_,ed_,bs_,ao_,as_,a2_,aw_,dw_,d6_,ea_,d3_,b5_,fl_,fn_,fh_,fu_,fp_,fz_,fq_,fk_,fr_,ft_,f0_,c5_,bd_,c3_,ck_,ct_,cx_,cr_,cf_,ch_,ci_,an_,dz_,Int.toNat_natCast,f3_,di_,dm_,dn_,er_,gv_,gy_,gu_,f4_,Int.add_zero,Int.zero_add,Int.ediv_one,Nat.reduceAdd,Nat.reduceMul,Int.reduceNeg,Nat.reduceLeDiff,List.length_cons,List.length_nil,true_and,and_true,Nat.zero_add,eq_self,Nat.reduceEqDiff,Int.reduceAdd,Int.reduceSub,Int.reduceMul,not_true_eq_false,not_false_eq_true,Nat.reduceLT,Int.reduceToNat,Int.reduceEq,Int.reduceNe,Int.reduceLT,Int.reduceLE,or_true,or_false,false_implies,true_implies]
        refine w_M_readDigits_34 ?_
        simp (disch := omega) only [cm_,aq_,ay_,ag_,b8_,af_,bm_,ba_,bc_,bx_,c0_,bg_,am_,ac_,b2_,bq_,ed_,bs_,ao_,as_,a2_,aw_,dw_,d6_,ea_,d3_,b5_,fl_,fn_,fh_,fu_,fp_,fz_,fq_,fk_,fr_,ft_,f0_,c5_,bd_,c3_,ck_,ct_,cx_,cr_,cf_,ch_,ci_,an_,dz_,Int.toNat_natCast,f3_,di_,dm_,dn_,er_,gv_,gy_,gu_,f4_,Int.add_zero,Int.zero_add,Int.ediv_one,Nat.reduceAdd,Nat.reduceMul,Int.reduceNeg,Nat.reduceLeDiff,List.length_cons,List.length_nil,true_and,and_true,Nat.zero_add,eq_self,Nat.reduceEqDiff,Int.reduceAdd,Int.reduceSub,Int.reduceMul,not_true_eq_false,not_false_eq_true,Nat.reduceLT,Int.reduceToNat,Int.reduceEq,Int.reduceNe,Int.reduceLT,Int.reduceLE,or_true,or_false,false_implies,true_implies]
        refine w_M_readDigits_39 ?_
        simp (disch := omega) only [cm_,aq_,ay_,ag_,b8_,af_,bm_,ba_,bc_,bx_,c0_,bg_,am_,ac_,b2_,bq_,ed_,bs_,ao_,as_,a2_,aw_,dw_,d6_,ea_,d3_,b5_,fl_,fn_,fh_,fu_,fp_,fz_,fq_,fk_,fr_,ft_,f0_,c5_,bd_,c3_,ck_,ct_,cx_,cr_,cf_,ch_,ci_,an_,dz_,Int.toNat_natCast,f3_,di_,dm_,dn_,er_,gv_,gy_,gu_,f4_,Int.add_zero,Int.zero_add,Int.ediv_one,Nat.reduceAdd,Nat.reduceMul,Int.reduceNeg,Nat.reduceLeDiff,List.length_cons,List.length_nil,true_and,and_true,Nat.zero_add,eq_self,Nat.reduceEqDiff,Int.reduceAdd,Int.reduceSub,Int.reduceMul,not_true_eq_false,not_false_eq_true,Nat.reduceLT,Int.reduceToNat,Int.reduceEq,Int.reduceNe,Int.reduceLT,Int.reduceLE,or_true,or_false,false_implies,true_implies]
        refine w_M_readDigits_70 ?_
        simp (disch := omega) only [cm_,aq_,ay_,ag_,b8_,af_,bm_,ba_,bc_,bx_,c0_,bg_,am_,ac_,b2_,bq_,ed_,bs_,ao_,as_,a2_,aw_,dw_,d6_,ea_,d3_,b5_,fl_,fn_,fh_,fu_,fp_,fz_,fq_,fk_,fr_,ft_,f0_,c5_,bd_,c3_,ck_,ct_,cx_,cr_,cf_,ch_,ci_,an_,dz_,Int.toNat_natCast,f3_,di_,dm_,dn_,er_,gv_,gy_,gu_,f4_,Int.add_zero,Int.zero_add,Int.ediv_one,Nat.reduceAdd,Nat.reduceMul,Int.reduceNeg,Nat.reduceLeDiff,List.length_cons,List.length_nil,true_and,and_true,Nat.zero_add,eq_self,Nat.reduceEqDiff,Int.reduceAdd,Int.reduceSub,Int.reduceMul,not_true_eq_false,not_false_eq_true,Nat.reduceLT,Int.reduceToNat,Int.reduceEq,Int.reduceNe,Int.reduceLT,Int.reduceLE,or_true,or_false,false_implies,true_implies]
        refine w_M_readDigits_88 ?_
        simp (disch := omega) only [cm_,aq_,ay_,ag_,b8_,af_,bm_,ba_,bc_,bx_,c0_,bg_,am_,ac_,b2_,bq_,ed_,bs_,ao_,as_,a2_,aw_,dw_,d6_,ea_,d3_,b5_,fl_,fn_,fh_,fu_,fp_,fz_,fq_,fk_,fr_,ft_,f0_,c5_,bd_,c3_,ck_,ct_,cx_,cr_,cf_,ch_,ci_,an_,dz_,Int.toNat_natCast,f3_,di_,dm_,dn_,er_,gv_,gy_,gu_,f4_,Int.add_zero,Int.zero_add,Int.ediv_one,Nat.reduceAdd,Nat.reduceMul,Int.reduceNeg,Nat.reduceLeDiff,List.length_cons,List.length_nil,true_and,and_true,Nat.zero_add,eq_self,Nat.reduceEqDiff,Int.reduceAdd,Int.reduceSub,Int.reduceMul,not_true_eq_false,not_false_eq_true,Nat.reduceLT,Int.reduceToNat,Int.reduceEq,Int.reduceNe,Int.reduceLT,Int.reduceLE,or_true,or_false,false_implies,true_implies]
        exact step
  exact loop n 0 (Nat.zero_add _) (fun j q => by omega)
theorem con_MreadDigitsB {n : Nat} {x : Int} (hn : n ≤ 9) (hQ : Q (some (.int (zI 0))) (HM R rf lt lsz (x) (1) sm pl lo nu kp ig hmg p0 tk ki tu tz tf tn tsz ga sd bb)) : Con M_M_readDigits [.ref 90, .int (zI n)] (HM R rf lt lsz (x) (1) sm pl lo nu kp ig hmg p0 tk ki tu tz tf tn tsz ga sd bb) Q := by
  refine g8_ (L := [some (.ref 90), some (.int (zI n)), none, none]) ok_M_readDigits (Nat.le_of_ble_eq_true rfl) rfl ?_
  refine w_M_readDigits_0 ?_
  simp (disch := omega) only [cm_,aq_,ay_,ag_,b8_,af_,bm_,ba_,bc_,bx_,c0_,bg_,am_,ac_,b2_,bq_,ed_,bs_,ao_,as_,a2_,aw_,dw_,d6_,ea_,d3_,b5_,fl_,fn_,fh_,fu_,fp_,fz_,fq_,fk_,fr_,ft_,f0_,c5_,bd_,c3_,ck_,ct_,cx_,cr_,cf_,ch_,ci_,an_,dz_,Int.toNat_natCast,f3_,di_,dm_,dn_,er_,gv_,gy_,gu_,f4_,Int.add_zero,Int.zero_add,Int.ediv_one,Nat.reduceAdd,Nat.reduceMul,Int.reduceNeg,Nat.reduceLeDiff,List.length_cons,List.length_nil,true_and,and_true,Nat.zero_add,eq_self,Nat.reduceEqDiff,Int.reduceAdd,Int.reduceSub,Int.reduceMul,not_true_eq_false,not_false_eq_true,Nat.reduceLT,Int.reduceToNat,Int.reduceEq,Int.reduceNe,Int.reduceLT,Int.reduceLE,or_true,or_false,false_implies,true_implies]
  have loop : ∀ m k : Nat, k + m = n → J M_M_readDigits 4 [some (.ref 90), some (.int (zI n)), some (.int (zI 0)), some (.int (zI k))] [] (HM R rf lt lsz (x) (1) sm pl lo nu kp ig hmg p0 tk ki tu tz tf tn tsz ga sd bb) Q := by
    intro m
    induction m with
    | zero =>
      intro k hk
      refine w_M_readDigits_4 ?_
      simp (disch := omega) only [cm_,aq_,ay_,ag_,b8_,af_,bm_,ba_,bc_,bx_,c0_,bg_,am_,ac_,b2_,bq_,ed_,bs_,ao_,as_,a2_,aw_,dw_,d6_,ea_,d3_,b5_,fl_,fn_,fh_,fu_,fp_,fz_,fq_,fk_,fr_,ft_,f0_,c5_,bd_,c3_,ck_,ct_,cx_,cr_,cf_,ch_,ci_,an_,dz_,Int.toNat_natCast,f3_,di_,dm_,dn_,er_,gv_,gy_,gu_,f4_,Int.add_zero,Int.zero_add,Int.ediv_one,Nat.reduceAdd,Nat.reduceMul,Int.reduceNeg,Nat.reduceLeDiff,List.length_cons,List.length_nil,true_and,and_true,Nat.zero_add,eq_self,Nat.reduceEqDiff,Int.reduceAdd,Int.reduceSub,Int.reduceMul,not_true_eq_false,not_false_eq_true,Nat.reduceLT,Int.reduceToNat,Int.reduceEq,Int.reduceNe,Int.reduceLT,Int.reduceLE,or_true,or_false,false_implies,true_implies]
      refine ⟨fun _ => ?_, fun q => by omega⟩
      refine w_M_readDigits_98 ?_
      simp (disch := omega) only [cm_,aq_,ay_,ag_,b8_,af_,bm_,ba_,bc_,bx_,c0_,bg_,am_,ac_,b2_,bq_,ed_,bs_,ao_,as_,a2_,aw_,dw_,d6_,ea_,d3_,b5_,fl_,fn_,fh_,fu_,fp_,fz_,fq_,fk_,fr_,ft_,f0_,c5_,bd_,c3_,ck_,ct_,cx_,cr_,cf_,ch_,ci_,an_,dz_,Int.toNat_natCast,f3_,di_,dm_,dn_,er_,gv_,gy_,gu_,f4_,Int.add_zero,Int.zero_add,Int.ediv_one,Nat.reduceAdd,Nat.reduceMul,Int.reduceNeg,Nat.reduceLeDiff,List.length_cons,List.length_nil,true_and,and_true,Nat.zero_add,eq_self,Nat.reduceEqDiff,Int.reduceAdd,Int.reduceSub,Int.reduceMul,not_true_eq_false,not_false_eq_true,Nat.reduceLT,Int.reduceToNat,Int.reduceEq,Int.reduceNe,Int.reduceLT,Int.reduceLE,or_true,or_false,false_implies,true_implies]
      exact hQ
    | succ m ih =>
      intro k hk
      have step := ih (k + 1) (by omega)
      refine w_M_readDigits_4 ?_
      simp (disch := omega) only [cm_,aq_,ay_,ag_,b8_,af_,bm_,ba_,bc_,bx_,c0_,bg_,am_,ac_,b2_,bq_,ed_,bs_,ao_,as_,a2_,aw_,dw_,d6_,ea_,d3_,b5_,fl_,fn_,fh_,fu_,fp_,fz_,fq_,fk_,fr_,ft_,f0_,c5_,bd_,c3_,ck_,ct_,cx_,cr_,cf_,ch_,ci_,an_,dz_,Int.toNat_natCast,f3_,di_,dm_,dn_,er_,gv_,gy_,gu_,f4_,Int.add_zero,Int.zero_add,Int.ediv_one,Nat.reduceAdd,Nat.reduceMul,Int.reduceNeg,Nat.reduceLeDiff,List.length_cons,List.length_nil,true_and,and_true,Nat.zero_add,eq_self,Nat.reduceEqDiff,Int.reduceAdd,Int.reduceSub,Int.reduceMul,not_true_eq_false,not_false_eq_true,Nat.reduceLT,Int.reduceToNat,Int.reduceEq,Int.reduceNe,Int.reduceLT,Int.reduceLE,or_true,or_false,false_implies,true_implies]
      refine ⟨fun q => by omega, fun _ => ?_⟩
      refine w_M_readDigits_34 ?_
      simp (disch := omega) only [cm_,aq_,ay_,ag_,b8_,af_,bm_,ba_,bc_,bx_,c0_,bg_,am_,ac_,b2_,bq_,ed_,bs_,ao_,as_,a2_,aw_,dw_,d6_,ea_,d3_,b5_,fl_,fn_,fh_,fu_,fp_,fz_,fq_,fk_,fr_,ft_,f0_,c5_,bd_,c3_,ck_,ct_,cx_,cr_,cf_,ch_,ci_,an_,dz_,Int.toNat_natCast,f3_,di_,dm_,dn_,er_,gv_,gy_,gu_,f4_,Int.add_zero,Int.zero_add,Int.ediv_one,Nat.reduceAdd,Nat.reduceMul,Int.reduceNeg,Nat.reduceLeDiff,List.length_cons,List.length_nil,true_and,and_true,Nat.zero_add,eq_self,Nat.reduceEqDiff,Int.reduceAdd,Int.reduceSub,Int.reduceMul,not_true_eq_false,not_false_eq_true,Nat.reduceLT,Int.reduceToNat,Int.reduceEq,Int.reduceNe,Int.reduceLT,Int.reduceLE,or_true,or_false,false_implies,true_implies]
      refine w_M_readDigits_39 ?_
      simp (disch := omega) only [cm_,aq_,ay_,ag_,b8_,af_,bm_,ba_,bc_,bx_,c0_,bg_,am_,ac_,b2_,bq_,ed_,bs_,ao_,as_,a2_,aw_,dw_,d6_,ea_,d3_,b5_,fl_,fn_,fh_,fu_,fp_,fz_,fq_,fk_,fr_,ft_,f0_,c5_,bd_,c3_,ck_,ct_,cx_,cr_,cf_,ch_,ci_,an_,dz_,Int.toNat_natCast,f3_,di_,dm_,dn_,er_,gv_,gy_,gu_,f4_,Int.add_zero,Int.zero_add,Int.ediv_one,Nat.reduceAdd,Nat.reduceMul,Int.reduceNeg,Nat.reduceLeDiff,List.length_cons,List.length_nil,true_and,and_true,Nat.zero_add,eq_self,Nat.reduceEqDiff,Int.reduceAdd,Int.reduceSub,Int.reduceMul,not_true_eq_false,not_false_eq_true,Nat.reduceLT,Int.reduceToNat,Int.reduceEq,Int.reduceNe,Int.reduceLT,Int.reduceLE,or_true,or_false,false_implies,true_implies]
      refine w_M_readDigits_70 ?_
      simp (disch := omega) only [cm_,aq_,ay_,ag_,b8_,af_,bm_,ba_,bc_,bx_,c0_,bg_,am_,ac_,b2_,bq_,ed_,bs_,ao_,as_,a2_,aw_,dw_,d6_,ea_,d3_,b5_,fl_,fn_,fh_,fu_,fp_,fz_,fq_,fk_,fr_,ft_,f0_,c5_,bd_,c3_,ck_,ct_,cx_,cr_,cf_,ch_,ci_,an_,dz_,Int.toNat_natCast,f3_,di_,dm_,dn_,er_,gv_,gy_,gu_,f4_,Int.add_zero,Int.zero_add,Int.ediv_one,Nat.reduceAdd,Nat.reduceMul,Int.reduceNeg,Nat.reduceLeDiff,List.length_cons,List.length_nil,true_and,and_true,Nat.zero_add,eq_self,Nat.reduceEqDiff,Int.reduceAdd,Int.reduceSub,Int.reduceMul,not_true_eq_false,not_false_eq_true,Nat.reduceLT,Int.reduceToNat,Int.reduceEq,Int.reduceNe,Int.reduceLT,Int.reduceLE,or_true,or_false,false_implies,true_implies]
      refine w_M_readDigits_88 ?_
      simp (disch := omega) only [cm_,aq_,ay_,ag_,b8_,af_,bm_,ba_,bc_,bx_,c0_,bg_,am_,ac_,b2_,bq_,ed_,bs_,ao_,as_,a2_,aw_,dw_,d6_,ea_,d3_,b5_,fl_,fn_,fh_,fu_,fp_,fz_,fq_,fk_,fr_,ft_,f0_,c5_,bd_,c3_,ck_,ct_,cx_,cr_,cf_,ch_,ci_,an_,dz_,Int.toNat_natCast,f3_,di_,dm_,dn_,er_,gv_,gy_,gu_,f4_,Int.add_zero,Int.zero_add,Int.ediv_one,Nat.reduceAdd,Nat.reduceMul,Int.reduceNeg,Nat.reduceLeDiff,List.length_cons,List.length_nil,true_and,and_true,Nat.zero_add,eq_self,Nat.reduceEqDiff,Int.reduceAdd,Int.reduceSub,Int.reduceMul,not_true_eq_false,not_false_eq_true,Nat.reduceLT,Int.reduceToNat,Int.reduceEq,Int.reduceNe,Int.reduceLT,Int.reduceLE,or_true,or_false,false_implies,true_implies]
      exact step
  exact loop n 0 (Nat.zero_add _)
theorem con_MisLetter {c : Int} {h : AH} (hc : inI c) (h1 : 1 ≤ dbL c → Q (some (.int (zI 1))) h) (h0 : ¬ 1 ≤ dbL c → Q (some (.int (zI 0))) h) : Con M_M_isLetter [.int (zI c)] h Q := by
  obtain ⟨c1, c2⟩ := id hc
  refine g8_ (L := [some (.int (zI c))]) ok_M_isLetter (Nat.le_of_ble_eq_true rfl) rfl ?_
  refine w_M_isLetter_0 ?_
  by_cases d : 1 ≤ dbL c
  · have go : J M_M_isLetter 42 [some (.int (zI c))] [] h Q := by
      refine w_M_isLetter_42 ?_
      simp (disch := omega) only [cm_,aq_,ay_,ag_,b8_,af_,bm_,ba_,bc_,bx_,c0_,bg_,am_,ac_,b2_,bq_,ed_,bs_,ao_,as_,a2_,aw_,dw_,d6_,ea_,d3_,b5_,fl_,fn_,fh_,fu_,fp_,fz_,fq_,fk_,fr_,ft_,f0_,c5_,bd_,c3_,ck_,ct_,cx_,cr_,cf_,ch_,ci_,an_,dz_,Int.toNat_natCast,f3_,di_,dm_,dn_,er_,gv_,gy_,gu_,f4_,Int.add_zero,Int.zero_add,Int.ediv_one,Nat.reduceAdd,Nat.reduceMul,Int.reduceNeg,Nat.reduceLeDiff,List.length_cons,List.length_nil,true_and,and_true,Nat.zero_add,eq_self,Nat.reduceEqDiff,Int.reduceAdd,Int.reduceSub,Int.reduceMul,not_true_eq_false,not_false_eq_true,Nat.reduceLT,Int.reduceToNat,Int.reduceEq,Int.reduceNe,Int.reduceLT,Int.reduceLE,or_true,or_false,false_implies,true_implies]
      refine w_M_isLetter_47 ?_
      simp (disch := omega) only [cm_,aq_,ay_,ag_,b8_,af_,bm_,ba_,bc_,bx_,c0_,bg_,am_,ac_,b2_,bq_,ed_,bs_,ao_,as_,a2_,aw_,dw_,d6_,ea_,d3_,b5_,fl_,fn_,fh_,fu_,fp_,fz_,fq_,fk_,fr_,ft_,f0_,c5_,bd_,c3_,ck_,ct_,cx_,cr_,cf_,ch_,ci_,an_,dz_,Int.toNat_natCast,f3_,di_,dm_,dn_,er_,gv_,gy_,gu_,f4_,Int.add_zero,Int.zero_add,Int.ediv_one,Nat.reduceAdd,Nat.reduceMul,Int.reduceNeg,Nat.reduceLeDiff,List.length_cons,List.length_nil,true_and,and_true,Nat.zero_add,eq_self,Nat.reduceEqDiff,Int.reduceAdd,Int.reduceSub,Int.reduceMul,not_true_eq_false,not_false_eq_true,Nat.reduceLT,Int.reduceToNat,Int.reduceEq,Int.reduceNe,Int.reduceLT,Int.reduceLE,or_true,or_false,false_implies,true_implies]
      first | exact h1 d | exact ⟨by omega, h1 d⟩
    have dc := dbL_cases d
    simp (disch := omega) only [cm_,aq_,ay_,ag_,b8_,af_,bm_,ba_,bc_,bx_,c0_,bg_,am_,ac_,b2_,bq_,ed_,bs_,ao_,as_,a2_,aw_,dw_,d6_,ea_,d3_,b5_,fl_,fn_,fh_,fu_,fp_,fz_,fq_,fk_,fr_,ft_,f0_,c5_,bd_,c3_,ck_,ct_,cx_,cr_,cf_,ch_,ci_,an_,dz_,Int.toNat_natCast,f3_,di_,dm_,dn_,er_,gv_,gy_,gu_,f4_,Int.add_zero,Int.zero_add,Int.ediv_one,Nat.reduceAdd,Nat.reduceMul,Int.reduceNeg,Nat.reduceLeDiff,List.length_cons,List.length_nil,true_and,and_true,Nat.zero_add,eq_self,Nat.reduceEqDiff,Int.reduceAdd,Int.reduceSub,Int.reduceMul,not_true_eq_false,not_false_eq_true,Nat.reduceLT,Int.reduceToNat,Int.reduceEq,Int.reduceNe,Int.reduceLT,Int.reduceLE,or_true,or_false,false_implies,true_implies]
    repeat' (first | with_reducible refine And.intro ?_ ?_ | with_reducible intro _)
    all_goals first | exact go | (exfalso; omega)
  · have go : J M_M_isLetter 46 [some (.int (zI c))] [] h Q := by
      refine w_M_isLetter_46 ?_
      simp (disch := omega) only [cm_,aq_,ay_,ag_,b8_,af_,bm_,ba_,bc_,bx_,c0_,bg_,am_,ac_,b2_,bq_,ed_,bs_,ao_,as_,a2_,aw_,dw_,d6_,ea_,d3_,b5_,fl_,fn_,fh_,fu_,fp_,fz_,fq_,fk_,fr_,ft_,f0_,c5_,bd_,c3_,ck_,ct_,cx_,cr_,cf_,ch_,ci_,an_,dz_,Int.toNat_natCast,f3_,di_,dm_,dn_,er_,gv_,gy_,gu_,f4_,Int.add_zero,Int.zero_add,Int.ediv_one,Nat.reduceAdd,Nat.reduceMul,Int.reduceNeg,Nat.reduceLeDiff,List.length_cons,List.length_nil,true_and,and_true,Nat.zero_add,eq_self,Nat.reduceEqDiff,Int.reduceAdd,Int.reduceSub,Int.reduceMul,not_true_eq_false,not_false_eq_true,Nat.reduceLT,Int.reduceToNat,Int.reduceEq,Int.reduceNe,Int.reduceLT,Int.reduceLE,or_true,or_false,false_implies,true_implies]
      refine w_M_isLetter_47 ?_
      simp (disch := omega) only [cm_,aq_,ay_,ag_,b8_,af_,bm_,ba_,bc_,bx_,c0_,bg_,am_,ac_,b2_,bq_,ed_,bs_,ao_,as_,a2_,aw_,dw_,d6_,ea_,d3_,b5_,fl_,fn_,fh_,fu_,fp_,fz_,fq_,fk_,fr_,ft_,f0_,c5_,bd_,c3_,ck_,ct_,cx_,cr_,cf_,ch_,ci_,an_,dz_,Int.toNat_natCast,f3_,di_,dm_,dn_,er_,gv_,gy_,gu_,f4_,Int.add_zero,Int.zero_add,Int.ediv_one,Nat.reduceAdd,Nat.reduceMul,Int.reduceNeg,Nat.reduceLeDiff,List.length_cons,List.length_nil,true_and,and_true,Nat.zero_add,eq_self,Nat.reduceEqDiff,Int.reduceAdd,Int.reduceSub,Int.reduceMul,not_true_eq_false,not_false_eq_true,Nat.reduceLT,Int.reduceToNat,Int.reduceEq,Int.reduceNe,Int.reduceLT,Int.reduceLE,or_true,or_false,false_implies,true_implies]
      first | exact h0 d | exact ⟨by omega, h0 d⟩
    have nc : c ≠ 109 ∧ c ≠ 112 ∧ c ≠ 115 ∧ c ≠ 108 ∧ c ≠ 107 ∧ c ≠ 119 ∧ c ≠ 100 := by
      refine ⟨?_, ?_, ?_, ?_, ?_, ?_, ?_⟩
      all_goals
        intro q
        subst q
        exact d (by decide)
    simp (disch := omega) only [cm_,aq_,ay_,ag_,b8_,af_,bm_,ba_,bc_,bx_,c0_,bg_,am_,ac_,b2_,bq_,ed_,bs_,ao_,as_,a2_,aw_,dw_,d6_,ea_,d3_,b5_,fl_,fn_,fh_,fu_,fp_,fz_,fq_,fk_,fr_,ft_,f0_,c5_,bd_,c3_,ck_,ct_,cx_,cr_,cf_,ch_,ci_,an_,dz_,Int.toNat_natCast,f3_,di_,dm_,dn_,er_,gv_,gy_,gu_,f4_,Int.add_zero,Int.zero_add,Int.ediv_one,Nat.reduceAdd,Nat.reduceMul,Int.reduceNeg,Nat.reduceLeDiff,List.length_cons,List.length_nil,true_and,and_true,Nat.zero_add,eq_self,Nat.reduceEqDiff,Int.reduceAdd,Int.reduceSub,Int.reduceMul,not_true_eq_false,not_false_eq_true,Nat.reduceLT,Int.reduceToNat,Int.reduceEq,Int.reduceNe,Int.reduceLT,Int.reduceLE,or_true,or_false,false_implies,true_implies]
    repeat' (first | with_reducible refine And.intro ?_ ?_ | with_reducible intro _)
    all_goals first | exact go | (exfalso; omega)
end E32
end
/-! readM -/
section
/-! ===== the reference: one statement read ===== -/
section E33
variable {R : RR} {rf : Nat → Int} {lt : Nat → Int} {lsz : Int} {a0 : Int} {ib : Int} {sm : Int} {pl : Nat → Int} {lo : Nat → Int} {nu : Nat → Int} {kp : Nat → Int} {ig : Nat → Int} {hmg : Int} {p0 : Int} {tk : Int} {ki : Value} {tu : Nat → Int} {tz : Int} {tf : Nat → Int} {tn : Nat → Int} {tsz : Int} {ga : Nat → Int} {sd : Int} {bb : AH} {Q : Option Value → AH → Prop}
theorem con_MreadNumbers {c : Int} {a i : Nat} (hc : 1 ≤ dbL c) (hi : i + 1 < 98) (ha : a ≤ 190) (hL : GL lt lsz)
    (hok : (∀ j, j < (dbL c).toNat → isDg lt lsz (a + j) = true) → Q none (HM R rf lt lsz ((a + (dbL c).toNat : Nat)) (0) sm pl lo (upI (upI nu i (n1L lt lsz c a)) (i + 1) (n2L lt lsz c a)) kp ig hmg p0 tk ki tu tz tf tn tsz ga sd bb))
    (hno : ∀ (p : Nat) (nu' : Nat → Int), a ≤ p → p < a + (dbL c).toNat → isDg lt lsz p = false → (∀ j, a ≤ j → j < p → isDg lt lsz j = true) → Q none (HM R rf lt lsz ((p : Nat)) (1) sm pl lo (nu') kp ig hmg p0 tk ki tu tz tf tn tsz ga sd bb)) : Con M_M_readNumbers [.ref 90, .int (zI c), .int (zI i)] (HM R rf lt lsz ((a : Nat)) (0) sm pl lo nu kp ig hmg p0 tk ki tu tz tf tn tsz ga sd bb) Q := by
  have e1 : ((i : Int) + 1) = ((i + 1 : Nat) : Int) := by omega
  refine g8_ (L := [some (.ref 90), some (.int (zI c)), some (.int (zI i))]) ok_M_readNumbers (Nat.le_of_ble_eq_true rfl) rfl ?_
  refine w_M_readNumbers_0 ?_
  have one : ∀ n : Nat, n ≤ 2 → (∀ j, j < n → isDg lt lsz (a + j) = true) → (dbL c).toNat = n + 1 → n1L lt lsz c a = dcN lt lsz a n → n2L lt lsz c a = dcN lt lsz (a + n) 1 → J M_M_readNumbers 58 [some (.ref 90), some (.int (zI c)), some (.int (zI i))] [.int (zI (i + 1 : Nat)), .ref 100] (HM R rf lt lsz ((a + n : Nat)) (0) sm pl lo (upI nu i (dcN lt lsz a n)) kp ig hmg p0 tk ki tu tz tf tn tsz ga sd bb) Q := by
    intro n hn h hl en1 en2
    rw [en1, en2, hl] at hok
    rw [hl] at hno
    refine w_M_readNumbers_58 ?_
    simp (disch := omega) only [cm_,aq_,ay_,af_,ba_,ae_,ac_,bq_,bs_,c4_,az_,dw_,d6_,fh_,fu_,fz_,fq_,fk_,fs_,f0_,c5_,bd_,ct_,cx_,cf_,an_,cl_,ef_,Int.toNat_natCast,di_,dm_,dn_,gv_,gg_,f6_,f4_,Int.add_zero,Int.zero_add,Int.ediv_one,Nat.reduceAdd,Nat.reduceMul,Int.reduceNeg,Nat.reduceLeDiff,List.length_cons,List.length_nil,true_and,and_true,Nat.zero_add,eq_self,Nat.reduceEqDiff,Int.reduceAdd,Int.reduceSub,Int.reduceMul,not_true_eq_false,not_false_eq_true,Nat.reduceLT,Int.reduceToNat,Int.reduceEq,Int.reduceNe,Int.reduceLT,Int.reduceLE,false_implies,true_implies]
    refine con_MreadDigits (n := 1) (by omega) (by omega) hL (fun h2 => ?_) (fun p p1 p2 p3 p4 => ?_)
    · simp (disch := omega) only [cm_,aq_,ay_,af_,ba_,ae_,ac_,bq_,bs_,c4_,az_,dw_,d6_,fh_,fu_,fz_,fq_,fk_,fs_,f0_,c5_,bd_,ct_,cx_,cf_,an_,cl_,ef_,Int.toNat_natCast,di_,dm_,dn_,gv_,gg_,f6_,f4_,Int.add_zero,Int.zero_add,Int.ediv_one,Nat.reduceAdd,Nat.reduceMul,Int.reduceNeg,Nat.reduceLeDiff,List.length_cons,List.length_nil,true_and,and_true,Nat.zero_add,eq_self,Nat.reduceEqDiff,Int.reduceAdd,Int.reduceSub,Int.reduceMul,not_true_eq_false,not_false_eq_true,Nat.reduceLT,Int.reduceToNat,Int.reduceEq,Int.reduceNe,Int.reduceLT,Int.reduceLE,false_implies,true_implies]
      refine w_M_readNumbers_67 ?_
      simp (disch := omega) only [cm_,aq_,ay_,af_,ba_,ae_,ac_,bq_,bs_,c4_,az_,dw_,d6_,fh_,fu_,fz_,fq_,fk_,fs_,f0_,c5_,bd_,ct_,cx_,cf_,an_,cl_,ef_,Int.toNat_natCast,di_,dm_,dn_,gv_,gg_,f6_,f4_,Int.add_zero,Int.zero_add,Int.ediv_one,Nat.reduceAdd,Nat.reduceMul,Int.reduceNeg,Nat.reduceLeDiff,List.length_cons,List.length_nil,true_and,and_true,Nat.zero_add,eq_self,Nat.reduceEqDiff,Int.reduceAdd,Int.reduceSub,Int.reduceMul,not_true_eq_false,not_false_eq_true,Nat.reduceLT,Int.reduceToNat,Int.reduceEq,Int.reduceNe,Int.reduceLT,Int.reduceLE,false_implies,true_implies]
      refine ⟨by omega, ?_⟩
      have := hok (fun j hj => by
        rcases Nat.lt_or_ge j n with y | y
        · exact h j y
        · have := h2 0 (by omega)
          rw [show j = n by omega]
          exact this)
      rw [show a + (n + 1) = a + n + 1 by omega] at this
      exact this
    · simp (disch := omega) only [cm_,aq_,ay_,af_,ba_,ae_,ac_,bq_,bs_,c4_,az_,dw_,d6_,fh_,fu_,fz_,fq_,fk_,fs_,f0_,c5_,bd_,ct_,cx_,cf_,an_,cl_,ef_,Int.toNat_natCast,di_,dm_,dn_,gv_,gg_,f6_,f4_,Int.add_zero,Int.zero_add,Int.ediv_one,Nat.reduceAdd,Nat.reduceMul,Int.reduceNeg,Nat.reduceLeDiff,List.length_cons,List.length_nil,true_and,and_true,Nat.zero_add,eq_self,Nat.reduceEqDiff,Int.reduceAdd,Int.reduceSub,Int.reduceMul,not_true_eq_false,not_false_eq_true,Nat.reduceLT,Int.reduceToNat,Int.reduceEq,Int.reduceNe,Int.reduceLT,Int.reduceLE,false_implies,true_implies]
      refine w_M_readNumbers_67 ?_
      simp (disch := omega) only [cm_,aq_,ay_,af_,ba_,ae_,ac_,bq_,bs_,c4_,az_,dw_,d6_,fh_,fu_,fz_,fq_,fk_,fs_,f0_,c5_,bd_,ct_,cx_,cf_,an_,cl_,ef_,Int.toNat_natCast,di_,dm_,dn_,gv_,gg_,f6_,f4_,Int.add_zero,Int.zero_add,Int.ediv_one,Nat.reduceAdd,Nat.reduceMul,Int.reduceNeg,Nat.reduceLeDiff,List.length_cons,List.length_nil,true_and,and_true,Nat.zero_add,eq_self,Nat.reduceEqDiff,Int.reduceAdd,Int.reduceSub,Int.reduceMul,not_true_eq_false,not_false_eq_true,Nat.reduceLT,Int.reduceToNat,Int.reduceEq,Int.reduceNe,Int.reduceLT,Int.reduceLE,false_implies,true_implies]
      refine ⟨by omega, ?_⟩
      refine hno p _ (by omega) (by omega) p3 (fun j j1 j2 => ?_)
      rcases Nat.lt_or_ge j (a + n) with y | y
      · have := h (j - a) (by omega)
        rw [show a + (j - a) = j by omega] at this
        exact this
      · exact p4 j y j2
  have non : ∀ n : Nat, (∀ j, j < n → isDg lt lsz (a + j) = true) → (dbL c).toNat = n → n1L lt lsz c a = dcN lt lsz a n → n2L lt lsz c a = 0 → J M_M_readNumbers 66 [some (.ref 90), some (.int (zI c)), some (.int (zI i))] [.int (zI (i + 1 : Nat)), .ref 100] (HM R rf lt lsz ((a + n : Nat)) (0) sm pl lo (upI nu i (dcN lt lsz a n)) kp ig hmg p0 tk ki tu tz tf tn tsz ga sd bb) Q := by
    intro n h hl en1 en2
    rw [en1, en2, hl] at hok
    refine w_M_readNumbers_66 ?_
    simp (disch := omega) only [cm_,aq_,ay_,af_,ba_,ae_,ac_,bq_,bs_,c4_,az_,dw_,d6_,fh_,fu_,fz_,fq_,fk_,fs_,f0_,c5_,bd_,ct_,cx_,cf_,an_,cl_,ef_,Int.toNat_natCast,di_,dm_,dn_,gv_,gg_,f6_,f4_,Int.add_zero,Int.zero_add,Int.ediv_one,Nat.reduceAdd,Nat.reduceMul,Int.reduceNeg,Nat.reduceLeDiff,List.length_cons,List.length_nil,true_and,and_true,Nat.zero_add,eq_self,Nat.reduceEqDiff,Int.reduceAdd,Int.reduceSub,Int.reduceMul,not_true_eq_false,not_false_eq_true,Nat.reduceLT,Int.reduceToNat,Int.reduceEq,Int.reduceNe,Int.reduceLT,Int.reduceLE,false_implies,true_implies]
    refine w_M_readNumbers_67 ?_
    simp (disch := omega) only [cm_,aq_,ay_,af_,ba_,ae_,ac_,bq_,bs_,c4_,az_,dw_,d6_,fh_,fu_,fz_,fq_,fk_,fs_,f0_,c5_,bd_,ct_,cx_,cf_,an_,cl_,ef_,Int.toNat_natCast,di_,dm_,dn_,gv_,gg_,f6_,f4_,Int.add_zero,Int.zero_add,Int.ediv_one,Nat.reduceAdd,Nat.reduceMul,Int.reduceNeg,Nat.reduceLeDiff,List.length_cons,List.length_nil,true_and,and_true,Nat.zero_add,eq_self,Nat.reduceEqDiff,Int.reduceAdd,Int.reduceSub,Int.reduceMul,not_true_eq_false,not_false_eq_true,Nat.reduceLT,Int.reduceToNat,Int.reduceEq,Int.reduceNe,Int.reduceLT,Int.reduceLE,false_implies,true_implies]
    exact ⟨by omega, hok h⟩
  have bad1 : ∀ (p : Nat) (g : Nat → Int), a ≤ p → p < a + (dbL c).toNat → isDg lt lsz p = false → (∀ j, a ≤ j → j < p → isDg lt lsz j = true) → J M_M_readNumbers 58 [some (.ref 90), some (.int (zI c)), some (.int (zI i))] [.int (zI (i + 1 : Nat)), .ref 100] (HM R rf lt lsz ((p : Nat)) (1) sm pl lo (g) kp ig hmg p0 tk ki tu tz tf tn tsz ga sd bb) Q := by
    intro p g p1 p2 p3 p4
    refine w_M_readNumbers_58 ?_
    simp (disch := omega) only [cm_,aq_,ay_,af_,ba_,ae_,ac_,bq_,bs_,c4_,az_,dw_,d6_,fh_,fu_,fz_,fq_,fk_,fs_,f0_,c5_,bd_,ct_,cx_,cf_,an_,cl_,ef_,Int.toNat_natCast,di_,dm_,dn_,gv_,gg_,f6_,f4_,Int.add_zero,Int.zero_add,Int.ediv_one,Nat.reduceAdd,Nat.reduceMul,Int.reduceNeg,Nat.reduceLeDiff,List.length_cons,List.length_nil,true_and,and_true,Nat.zero_add,eq_self,Nat.reduceEqDiff,Int.reduceAdd,Int.reduceSub,Int.reduceMul,not_true_eq_false,not_false_eq_true,Nat.reduceLT,Int.reduceToNat,Int.reduceEq,Int.reduceNe,Int.reduceLT,Int.reduceLE,false_implies,true_implies]
    refine con_MreadDigitsB (n := 1) (by omega) ?_
    simp (disch := omega) only [cm_,aq_,ay_,af_,ba_,ae_,ac_,bq_,bs_,c4_,az_,dw_,d6_,fh_,fu_,fz_,fq_,fk_,fs_,f0_,c5_,bd_,ct_,cx_,cf_,an_,cl_,ef_,Int.toNat_natCast,di_,dm_,dn_,gv_,gg_,f6_,f4_,Int.add_zero,Int.zero_add,Int.ediv_one,Nat.reduceAdd,Nat.reduceMul,Int.reduceNeg,Nat.reduceLeDiff,List.length_cons,List.length_nil,true_and,and_true,Nat.zero_add,eq_self,Nat.reduceEqDiff,Int.reduceAdd,Int.reduceSub,Int.reduceMul,not_true_eq_false,not_false_eq_true,Nat.reduceLT,Int.reduceToNat,Int.reduceEq,Int.reduceNe,Int.reduceLT,Int.reduceLE,false_implies,true_implies]
    refine w_M_readNumbers_67 ?_
    simp (disch := omega) only [cm_,aq_,ay_,af_,ba_,ae_,ac_,bq_,bs_,c4_,az_,dw_,d6_,fh_,fu_,fz_,fq_,fk_,fs_,f0_,c5_,bd_,ct_,cx_,cf_,an_,cl_,ef_,Int.toNat_natCast,di_,dm_,dn_,gv_,gg_,f6_,f4_,Int.add_zero,Int.zero_add,Int.ediv_one,Nat.reduceAdd,Nat.reduceMul,Int.reduceNeg,Nat.reduceLeDiff,List.length_cons,List.length_nil,true_and,and_true,Nat.zero_add,eq_self,Nat.reduceEqDiff,Int.reduceAdd,Int.reduceSub,Int.reduceMul,not_true_eq_false,not_false_eq_true,Nat.reduceLT,Int.reduceToNat,Int.reduceEq,Int.reduceNe,Int.reduceLT,Int.reduceLE,false_implies,true_implies]
    exact ⟨by omega, hno p _ p1 p2 p3 p4⟩
  have bad0 : ∀ (p : Nat) (g : Nat → Int), a ≤ p → p < a + (dbL c).toNat → isDg lt lsz p = false → (∀ j, a ≤ j → j < p → isDg lt lsz j = true) → J M_M_readNumbers 66 [some (.ref 90), some (.int (zI c)), some (.int (zI i))] [.int (zI (i + 1 : Nat)), .ref 100] (HM R rf lt lsz ((p : Nat)) (1) sm pl lo (g) kp ig hmg p0 tk ki tu tz tf tn tsz ga sd bb) Q := by
    intro p g p1 p2 p3 p4
    refine w_M_readNumbers_66 ?_
    simp (disch := omega) only [cm_,aq_,ay_,af_,ba_,ae_,ac_,bq_,bs_,c4_,az_,dw_,d6_,fh_,fu_,fz_,fq_,fk_,fs_,f0_,c5_,bd_,ct_,cx_,cf_,an_,cl_,ef_,Int.toNat_natCast,di_,dm_,dn_,gv_,gg_,f6_,f4_,Int.add_zero,Int.zero_add,Int.ediv_one,Nat.reduceAdd,Nat.reduceMul,Int.reduceNeg,Nat.reduceLeDiff,List.length_cons,List.length_nil,true_and,and_true,Nat.zero_add,eq_self,Nat.reduceEqDiff,Int.reduceAdd,Int.reduceSub,Int.reduceMul,not_true_eq_false,not_false_eq_true,Nat.reduceLT,Int.reduceToNat,Int.reduceEq,Int.reduceNe,Int.reduceLT,Int.reduceLE,false_implies,true_implies]
    refine w_M_readNumbers_67 ?_
    simp (disch := omega) only [cm_,aq_,ay_,af_,ba_,ae_,ac_,bq_,bs_,c4_,az_,dw_,d6_,fh_,fu_,fz_,fq_,fk_,fs_,f0_,c5_,bd_,ct_,cx_,cf_,an_,cl_,ef_,Int.toNat_natCast,di_,dm_,dn_,gv_,gg_,f6_,f4_,Int.add_zero,Int.zero_add,Int.ediv_one,Nat.reduceAdd,Nat.reduceMul,Int.reduceNeg,Nat.reduceLeDiff,List.length_cons,List.length_nil,true_and,and_true,Nat.zero_add,eq_self,Nat.reduceEqDiff,Int.reduceAdd,Int.reduceSub,Int.reduceMul,not_true_eq_false,not_false_eq_true,Nat.reduceLT,Int.reduceToNat,Int.reduceEq,Int.reduceNe,Int.reduceLT,Int.reduceLE,false_implies,true_implies]
    exact ⟨by omega, hno p _ p1 p2 p3 p4⟩
  rcases dbL_cases hc with ⟨rfl, cl⟩ | ⟨rfl, cl⟩ | ⟨rfl, cl⟩ | ⟨rfl, cl⟩ | ⟨rfl, cl⟩ | ⟨rfl, cl⟩ | ⟨rfl, cl⟩
  all_goals simp (disch := omega) only [cm_,aq_,ay_,af_,ba_,ae_,ac_,bq_,bs_,c4_,az_,dw_,d6_,fh_,fu_,fz_,fq_,fk_,fs_,f0_,c5_,bd_,ct_,cx_,cf_,an_,cl_,ef_,Int.toNat_natCast,di_,dm_,dn_,gv_,gg_,f6_,f4_,Int.add_zero,Int.zero_add,Int.ediv_one,Nat.reduceAdd,Nat.reduceMul,Int.reduceNeg,Nat.reduceLeDiff,List.length_cons,List.length_nil,true_and,and_true,Nat.zero_add,eq_self,Nat.reduceEqDiff,Int.reduceAdd,Int.reduceSub,Int.reduceMul,not_true_eq_false,not_false_eq_true,Nat.reduceLT,Int.reduceToNat,Int.reduceEq,Int.reduceNe,Int.reduceLT,Int.reduceLE,false_implies,true_implies]
  · refine w_M_readNumbers_34 ?_
    simp (disch := omega) only [cm_,aq_,ay_,af_,ba_,ae_,ac_,bq_,bs_,c4_,az_,dw_,d6_,fh_,fu_,fz_,fq_,fk_,fs_,f0_,c5_,bd_,ct_,cx_,cf_,an_,cl_,ef_,Int.toNat_natCast,di_,dm_,dn_,gv_,gg_,f6_,f4_,Int.add_zero,Int.zero_add,Int.ediv_one,Nat.reduceAdd,Nat.reduceMul,Int.reduceNeg,Nat.reduceLeDiff,List.length_cons,List.length_nil,true_and,and_true,Nat.zero_add,eq_self,Nat.reduceEqDiff,Int.reduceAdd,Int.reduceSub,Int.reduceMul,not_true_eq_false,not_false_eq_true,Nat.reduceLT,Int.reduceToNat,Int.reduceEq,Int.reduceNe,Int.reduceLT,Int.reduceLE,false_implies,true_implies]
    refine w_M_readNumbers_35 ?_
    simp (disch := omega) only [cm_,aq_,ay_,af_,ba_,ae_,ac_,bq_,bs_,c4_,az_,dw_,d6_,fh_,fu_,fz_,fq_,fk_,fs_,f0_,c5_,bd_,ct_,cx_,cf_,an_,cl_,ef_,Int.toNat_natCast,di_,dm_,dn_,gv_,gg_,f6_,f4_,Int.add_zero,Int.zero_add,Int.ediv_one,Nat.reduceAdd,Nat.reduceMul,Int.reduceNeg,Nat.reduceLeDiff,List.length_cons,List.length_nil,true_and,and_true,Nat.zero_add,eq_self,Nat.reduceEqDiff,Int.reduceAdd,Int.reduceSub,Int.reduceMul,not_true_eq_false,not_false_eq_true,Nat.reduceLT,Int.reduceToNat,Int.reduceEq,Int.reduceNe,Int.reduceLT,Int.reduceLE,false_implies,true_implies]
    refine con_MreadDigits (n := 1) (by omega) (by omega) hL (fun h => ?_) (fun p p1 p2 p3 p4 => ?_)
    · simp (disch := omega) only [cm_,aq_,ay_,af_,ba_,ae_,ac_,bq_,bs_,c4_,az_,dw_,d6_,fh_,fu_,fz_,fq_,fk_,fs_,f0_,c5_,bd_,ct_,cx_,cf_,an_,cl_,ef_,Int.toNat_natCast,di_,dm_,dn_,gv_,gg_,f6_,f4_,Int.add_zero,Int.zero_add,Int.ediv_one,Nat.reduceAdd,Nat.reduceMul,Int.reduceNeg,Nat.reduceLeDiff,List.length_cons,List.length_nil,true_and,and_true,Nat.zero_add,eq_self,Nat.reduceEqDiff,Int.reduceAdd,Int.reduceSub,Int.reduceMul,not_true_eq_false,not_false_eq_true,Nat.reduceLT,Int.reduceToNat,Int.reduceEq,Int.reduceNe,Int.reduceLT,Int.reduceLE,false_implies,true_implies,e1]
      exact ⟨by omega, one 1 (by omega) h (by rw [cl]; rfl) rfl rfl⟩
    · simp (disch := omega) only [cm_,aq_,ay_,af_,ba_,ae_,ac_,bq_,bs_,c4_,az_,dw_,d6_,fh_,fu_,fz_,fq_,fk_,fs_,f0_,c5_,bd_,ct_,cx_,cf_,an_,cl_,ef_,Int.toNat_natCast,di_,dm_,dn_,gv_,gg_,f6_,f4_,Int.add_zero,Int.zero_add,Int.ediv_one,Nat.reduceAdd,Nat.reduceMul,Int.reduceNeg,Nat.reduceLeDiff,List.length_cons,List.length_nil,true_and,and_true,Nat.zero_add,eq_self,Nat.reduceEqDiff,Int.reduceAdd,Int.reduceSub,Int.reduceMul,not_true_eq_false,not_false_eq_true,Nat.reduceLT,Int.reduceToNat,Int.reduceEq,Int.reduceNe,Int.reduceLT,Int.reduceLE,false_implies,true_implies,e1]
      exact ⟨by omega, bad1 p _ p1 (by rw [cl]; omega) p3 p4⟩
  · refine w_M_readNumbers_34 ?_
    simp (disch := omega) only [cm_,aq_,ay_,af_,ba_,ae_,ac_,bq_,bs_,c4_,az_,dw_,d6_,fh_,fu_,fz_,fq_,fk_,fs_,f0_,c5_,bd_,ct_,cx_,cf_,an_,cl_,ef_,Int.toNat_natCast,di_,dm_,dn_,gv_,gg_,f6_,f4_,Int.add_zero,Int.zero_add,Int.ediv_one,Nat.reduceAdd,Nat.reduceMul,Int.reduceNeg,Nat.reduceLeDiff,List.length_cons,List.length_nil,true_and,and_true,Nat.zero_add,eq_self,Nat.reduceEqDiff,Int.reduceAdd,Int.reduceSub,Int.reduceMul,not_true_eq_false,not_false_eq_true,Nat.reduceLT,Int.reduceToNat,Int.reduceEq,Int.reduceNe,Int.reduceLT,Int.reduceLE,false_implies,true_implies]
    refine w_M_readNumbers_35 ?_
    simp (disch := omega) only [cm_,aq_,ay_,af_,ba_,ae_,ac_,bq_,bs_,c4_,az_,dw_,d6_,fh_,fu_,fz_,fq_,fk_,fs_,f0_,c5_,bd_,ct_,cx_,cf_,an_,cl_,ef_,Int.toNat_natCast,di_,dm_,dn_,gv_,gg_,f6_,f4_,Int.add_zero,Int.zero_add,Int.ediv_one,Nat.reduceAdd,Nat.reduceMul,Int.reduceNeg,Nat.reduceLeDiff,List.length_cons,List.length_nil,true_and,and_true,Nat.zero_add,eq_self,Nat.reduceEqDiff,Int.reduceAdd,Int.reduceSub,Int.reduceMul,not_true_eq_false,not_false_eq_true,Nat.reduceLT,Int.reduceToNat,Int.reduceEq,Int.reduceNe,Int.reduceLT,Int.reduceLE,false_implies,true_implies]
    refine con_MreadDigits (n := 1) (by omega) (by omega) hL (fun h => ?_) (fun p p1 p2 p3 p4 => ?_)
    · simp (disch := omega) only [cm_,aq_,ay_,af_,ba_,ae_,ac_,bq_,bs_,c4_,az_,dw_,d6_,fh_,fu_,fz_,fq_,fk_,fs_,f0_,c5_,bd_,ct_,cx_,cf_,an_,cl_,ef_,Int.toNat_natCast,di_,dm_,dn_,gv_,gg_,f6_,f4_,Int.add_zero,Int.zero_add,Int.ediv_one,Nat.reduceAdd,Nat.reduceMul,Int.reduceNeg,Nat.reduceLeDiff,List.length_cons,List.length_nil,true_and,and_true,Nat.zero_add,eq_self,Nat.reduceEqDiff,Int.reduceAdd,Int.reduceSub,Int.reduceMul,not_true_eq_false,not_false_eq_true,Nat.reduceLT,Int.reduceToNat,Int.reduceEq,Int.reduceNe,Int.reduceLT,Int.reduceLE,false_implies,true_implies,e1]
      exact ⟨by omega, non 1 h (by rw [cl]; rfl) rfl rfl⟩
    · simp (disch := omega) only [cm_,aq_,ay_,af_,ba_,ae_,ac_,bq_,bs_,c4_,az_,dw_,d6_,fh_,fu_,fz_,fq_,fk_,fs_,f0_,c5_,bd_,ct_,cx_,cf_,an_,cl_,ef_,Int.toNat_natCast,di_,dm_,dn_,gv_,gg_,f6_,f4_,Int.add_zero,Int.zero_add,Int.ediv_one,Nat.reduceAdd,Nat.reduceMul,Int.reduceNeg,Nat.reduceLeDiff,List.length_cons,List.length_nil,true_and,and_true,Nat.zero_add,eq_self,Nat.reduceEqDiff,Int.reduceAdd,Int.reduceSub,Int.reduceMul,not_true_eq_false,not_false_eq_true,Nat.reduceLT,Int.reduceToNat,Int.reduceEq,Int.reduceNe,Int.reduceLT,Int.reduceLE,false_implies,true_implies,e1]
      exact ⟨by omega, bad0 p _ p1 (by rw [cl]; omega) p3 p4⟩
  · refine w_M_readNumbers_30 ?_
    simp (disch := omega) only [cm_,aq_,ay_,af_,ba_,ae_,ac_,bq_,bs_,c4_,az_,dw_,d6_,fh_,fu_,fz_,fq_,fk_,fs_,f0_,c5_,bd_,ct_,cx_,cf_,an_,cl_,ef_,Int.toNat_natCast,di_,dm_,dn_,gv_,gg_,f6_,f4_,Int.add_zero,Int.zero_add,Int.ediv_one,Nat.reduceAdd,Nat.reduceMul,Int.reduceNeg,Nat.reduceLeDiff,List.length_cons,List.length_nil,true_and,and_true,Nat.zero_add,eq_self,Nat.reduceEqDiff,Int.reduceAdd,Int.reduceSub,Int.reduceMul,not_true_eq_false,not_false_eq_true,Nat.reduceLT,Int.reduceToNat,Int.reduceEq,Int.reduceNe,Int.reduceLT,Int.reduceLE,false_implies,true_implies]
    refine w_M_readNumbers_35 ?_
    simp (disch := omega) only [cm_,aq_,ay_,af_,ba_,ae_,ac_,bq_,bs_,c4_,az_,dw_,d6_,fh_,fu_,fz_,fq_,fk_,fs_,f0_,c5_,bd_,ct_,cx_,cf_,an_,cl_,ef_,Int.toNat_natCast,di_,dm_,dn_,gv_,gg_,f6_,f4_,Int.add_zero,Int.zero_add,Int.ediv_one,Nat.reduceAdd,Nat.reduceMul,Int.reduceNeg,Nat.reduceLeDiff,List.length_cons,List.length_nil,true_and,and_true,Nat.zero_add,eq_self,Nat.reduceEqDiff,Int.reduceAdd,Int.reduceSub,Int.reduceMul,not_true_eq_false,not_false_eq_true,Nat.reduceLT,Int.reduceToNat,Int.reduceEq,Int.reduceNe,Int.reduceLT,Int.reduceLE,false_implies,true_implies]
    refine con_MreadDigits (n := 2) (by omega) (by omega) hL (fun h => ?_) (fun p p1 p2 p3 p4 => ?_)
    · simp (disch := omega) only [cm_,aq_,ay_,af_,ba_,ae_,ac_,bq_,bs_,c4_,az_,dw_,d6_,fh_,fu_,fz_,fq_,fk_,fs_,f0_,c5_,bd_,ct_,cx_,cf_,an_,cl_,ef_,Int.toNat_natCast,di_,dm_,dn_,gv_,gg_,f6_,f4_,Int.add_zero,Int.zero_add,Int.ediv_one,Nat.reduceAdd,Nat.reduceMul,Int.reduceNeg,Nat.reduceLeDiff,List.length_cons,List.length_nil,true_and,and_true,Nat.zero_add,eq_self,Nat.reduceEqDiff,Int.reduceAdd,Int.reduceSub,Int.reduceMul,not_true_eq_false,not_false_eq_true,Nat.reduceLT,Int.reduceToNat,Int.reduceEq,Int.reduceNe,Int.reduceLT,Int.reduceLE,false_implies,true_implies,e1]
      exact ⟨by omega, one 2 (by omega) h (by rw [cl]; rfl) rfl rfl⟩
    · simp (disch := omega) only [cm_,aq_,ay_,af_,ba_,ae_,ac_,bq_,bs_,c4_,az_,dw_,d6_,fh_,fu_,fz_,fq_,fk_,fs_,f0_,c5_,bd_,ct_,cx_,cf_,an_,cl_,ef_,Int.toNat_natCast,di_,dm_,dn_,gv_,gg_,f6_,f4_,Int.add_zero,Int.zero_add,Int.ediv_one,Nat.reduceAdd,Nat.reduceMul,Int.reduceNeg,Nat.reduceLeDiff,List.length_cons,List.length_nil,true_and,and_true,Nat.zero_add,eq_self,Nat.reduceEqDiff,Int.reduceAdd,Int.reduceSub,Int.reduceMul,not_true_eq_false,not_false_eq_true,Nat.reduceLT,Int.reduceToNat,Int.reduceEq,Int.reduceNe,Int.reduceLT,Int.reduceLE,false_implies,true_implies,e1]
      exact ⟨by omega, bad1 p _ p1 (by rw [cl]; omega) p3 p4⟩
  · refine w_M_readNumbers_30 ?_
    simp (disch := omega) only [cm_,aq_,ay_,af_,ba_,ae_,ac_,bq_,bs_,c4_,az_,dw_,d6_,fh_,fu_,fz_,fq_,fk_,fs_,f0_,c5_,bd_,ct_,cx_,cf_,an_,cl_,ef_,Int.toNat_natCast,di_,dm_,dn_,gv_,gg_,f6_,f4_,Int.add_zero,Int.zero_add,Int.ediv_one,Nat.reduceAdd,Nat.reduceMul,Int.reduceNeg,Nat.reduceLeDiff,List.length_cons,List.length_nil,true_and,and_true,Nat.zero_add,eq_self,Nat.reduceEqDiff,Int.reduceAdd,Int.reduceSub,Int.reduceMul,not_true_eq_false,not_false_eq_true,Nat.reduceLT,Int.reduceToNat,Int.reduceEq,Int.reduceNe,Int.reduceLT,Int.reduceLE,false_implies,true_implies]
    refine w_M_readNumbers_35 ?_
    simp (disch := omega) only [cm_,aq_,ay_,af_,ba_,ae_,ac_,bq_,bs_,c4_,az_,dw_,d6_,fh_,fu_,fz_,fq_,fk_,fs_,f0_,c5_,bd_,ct_,cx_,cf_,an_,cl_,ef_,Int.toNat_natCast,di_,dm_,dn_,gv_,gg_,f6_,f4_,Int.add_zero,Int.zero_add,Int.ediv_one,Nat.reduceAdd,Nat.reduceMul,Int.reduceNeg,Nat.reduceLeDiff,List.length_cons,List.length_nil,true_and,and_true,Nat.zero_add,eq_self,Nat.reduceEqDiff,Int.reduceAdd,Int.reduceSub,Int.reduceMul,not_true_eq_false,not_false_eq_true,Nat.reduceLT,Int.reduceToNat,Int.reduceEq,Int.reduceNe,Int.reduceLT,Int.reduceLE,false_implies,true_implies]
    refine con_MreadDigits (n := 2) (by omega) (by omega) hL (fun h => ?_) (fun p p1 p2 p3 p4 => ?_)
    · simp (disch := omega) only [cm_,aq_,ay_,af_,ba_,ae_,ac_,bq_,bs_,c4_,az_,dw_,d6_,fh_,fu_,fz_,fq_,fk_,fs_,f0_,c5_,bd_,ct_,cx_,cf_,an_,cl_,ef_,Int.toNat_natCast,di_,dm_,dn_,gv_,gg_,f6_,f4_,Int.add_zero,Int.zero_add,Int.ediv_one,Nat.reduceAdd,Nat.reduceMul,Int.reduceNeg,Nat.reduceLeDiff,List.length_cons,List.length_nil,true_and,and_true,Nat.zero_add,eq_self,Nat.reduceEqDiff,Int.reduceAdd,Int.reduceSub,Int.reduceMul,not_true_eq_false,not_false_eq_true,Nat.reduceLT,Int.reduceToNat,Int.reduceEq,Int.reduceNe,Int.reduceLT,Int.reduceLE,false_implies,true_implies,e1]
      exact ⟨by omega, non 2 h (by rw [cl]; rfl) rfl rfl⟩
    · simp (disch := omega) only [cm_,aq_,ay_,af_,ba_,ae_,ac_,bq_,bs_,c4_,az_,dw_,d6_,fh_,fu_,fz_,fq_,fk_,fs_,f0_,c5_,bd_,ct_,cx_,cf_,an_,cl_,ef_,Int.toNat_natCast,di_,dm_,dn_,gv_,gg_,f6_,f4_,Int.add_zero,Int.zero_add,Int.ediv_one,Nat.reduceAdd,Nat.reduceMul,Int.reduceNeg,Nat.reduceLeDiff,List.length_cons,List.length_nil,true_and,and_true,Nat.zero_add,eq_self,Nat.reduceEqDiff,Int.reduceAdd,Int.reduceSub,Int.reduceMul,not_true_eq_false,not_false_eq_true,Nat.reduceLT,Int.reduceToNat,Int.reduceEq,Int.reduceNe,Int.reduceLT,Int.reduceLE,false_implies,true_implies,e1]
      exact ⟨by omega, bad0 p _ p1 (by rw [cl]; omega) p3 p4⟩
  · refine w_M_readNumbers_30 ?_
    simp (disch := omega) only [cm_,aq_,ay_,af_,ba_,ae_,ac_,bq_,bs_,c4_,az_,dw_,d6_,fh_,fu_,fz_,fq_,fk_,fs_,f0_,c5_,bd_,ct_,cx_,cf_,an_,cl_,ef_,Int.toNat_natCast,di_,dm_,dn_,gv_,gg_,f6_,f4_,Int.add_zero,Int.zero_add,Int.ediv_one,Nat.reduceAdd,Nat.reduceMul,Int.reduceNeg,Nat.reduceLeDiff,List.length_cons,List.length_nil,true_and,and_true,Nat.zero_add,eq_self,Nat.reduceEqDiff,Int.reduceAdd,Int.reduceSub,Int.reduceMul,not_true_eq_false,not_false_eq_true,Nat.reduceLT,Int.reduceToNat,Int.reduceEq,Int.reduceNe,Int.reduceLT,Int.reduceLE,false_implies,true_implies]
    refine w_M_readNumbers_35 ?_
    simp (disch := omega) only [cm_,aq_,ay_,af_,ba_,ae_,ac_,bq_,bs_,c4_,az_,dw_,d6_,fh_,fu_,fz_,fq_,fk_,fs_,f0_,c5_,bd_,ct_,cx_,cf_,an_,cl_,ef_,Int.toNat_natCast,di_,dm_,dn_,gv_,gg_,f6_,f4_,Int.add_zero,Int.zero_add,Int.ediv_one,Nat.reduceAdd,Nat.reduceMul,Int.reduceNeg,Nat.reduceLeDiff,List.length_cons,List.length_nil,true_and,and_true,Nat.zero_add,eq_self,Nat.reduceEqDiff,Int.reduceAdd,Int.reduceSub,Int.reduceMul,not_true_eq_false,not_false_eq_true,Nat.reduceLT,Int.reduceToNat,Int.reduceEq,Int.reduceNe,Int.reduceLT,Int.reduceLE,false_implies,true_implies]
    refine con_MreadDigits (n := 2) (by omega) (by omega) hL (fun h => ?_) (fun p p1 p2 p3 p4 => ?_)
    · simp (disch := omega) only [cm_,aq_,ay_,af_,ba_,ae_,ac_,bq_,bs_,c4_,az_,dw_,d6_,fh_,fu_,fz_,fq_,fk_,fs_,f0_,c5_,bd_,ct_,cx_,cf_,an_,cl_,ef_,Int.toNat_natCast,di_,dm_,dn_,gv_,gg_,f6_,f4_,Int.add_zero,Int.zero_add,Int.ediv_one,Nat.reduceAdd,Nat.reduceMul,Int.reduceNeg,Nat.reduceLeDiff,List.length_cons,List.length_nil,true_and,and_true,Nat.zero_add,eq_self,Nat.reduceEqDiff,Int.reduceAdd,Int.reduceSub,Int.reduceMul,not_true_eq_false,not_false_eq_true,Nat.reduceLT,Int.reduceToNat,Int.reduceEq,Int.reduceNe,Int.reduceLT,Int.reduceLE,false_implies,true_implies,e1]
      exact ⟨by omega, non 2 h (by rw [cl]; rfl) rfl rfl⟩
    · simp (disch := omega) only [cm_,aq_,ay_,af_,ba_,ae_,ac_,bq_,bs_,c4_,az_,dw_,d6_,fh_,fu_,fz_,fq_,fk_,fs_,f0_,c5_,bd_,ct_,cx_,cf_,an_,cl_,ef_,Int.toNat_natCast,di_,dm_,dn_,gv_,gg_,f6_,f4_,Int.add_zero,Int.zero_add,Int.ediv_one,Nat.reduceAdd,Nat.reduceMul,Int.reduceNeg,Nat.reduceLeDiff,List.length_cons,List.length_nil,true_and,and_true,Nat.zero_add,eq_self,Nat.reduceEqDiff,Int.reduceAdd,Int.reduceSub,Int.reduceMul,not_true_eq_false,not_false_eq_true,Nat.reduceLT,Int.reduceToNat,Int.reduceEq,Int.reduceNe,Int.reduceLT,Int.reduceLE,false_implies,true_implies,e1]
      exact ⟨by omega, bad0 p _ p1 (by rw [cl]; omega) p3 p4⟩
  · refine w_M_readNumbers_34 ?_
    simp (disch := omega) only [cm_,aq_,ay_,af_,ba_,ae_,ac_,bq_,bs_,c4_,az_,dw_,d6_,fh_,fu_,fz_,fq_,fk_,fs_,f0_,c5_,bd_,ct_,cx_,cf_,an_,cl_,ef_,Int.toNat_natCast,di_,dm_,dn_,gv_,gg_,f6_,f4_,Int.add_zero,Int.zero_add,Int.ediv_one,Nat.reduceAdd,Nat.reduceMul,Int.reduceNeg,Nat.reduceLeDiff,List.length_cons,List.length_nil,true_and,and_true,Nat.zero_add,eq_self,Nat.reduceEqDiff,Int.reduceAdd,Int.reduceSub,Int.reduceMul,not_true_eq_false,not_false_eq_true,Nat.reduceLT,Int.reduceToNat,Int.reduceEq,Int.reduceNe,Int.reduceLT,Int.reduceLE,false_implies,true_implies]
    refine w_M_readNumbers_35 ?_
    simp (disch := omega) only [cm_,aq_,ay_,af_,ba_,ae_,ac_,bq_,bs_,c4_,az_,dw_,d6_,fh_,fu_,fz_,fq_,fk_,fs_,f0_,c5_,bd_,ct_,cx_,cf_,an_,cl_,ef_,Int.toNat_natCast,di_,dm_,dn_,gv_,gg_,f6_,f4_,Int.add_zero,Int.zero_add,Int.ediv_one,Nat.reduceAdd,Nat.reduceMul,Int.reduceNeg,Nat.reduceLeDiff,List.length_cons,List.length_nil,true_and,and_true,Nat.zero_add,eq_self,Nat.reduceEqDiff,Int.reduceAdd,Int.reduceSub,Int.reduceMul,not_true_eq_false,not_false_eq_true,Nat.reduceLT,Int.reduceToNat,Int.reduceEq,Int.reduceNe,Int.reduceLT,Int.reduceLE,false_implies,true_implies]
    refine con_MreadDigits (n := 1) (by omega) (by omega) hL (fun h => ?_) (fun p p1 p2 p3 p4 => ?_)
    · simp (disch := omega) only [cm_,aq_,ay_,af_,ba_,ae_,ac_,bq_,bs_,c4_,az_,dw_,d6_,fh_,fu_,fz_,fq_,fk_,fs_,f0_,c5_,bd_,ct_,cx_,cf_,an_,cl_,ef_,Int.toNat_natCast,di_,dm_,dn_,gv_,gg_,f6_,f4_,Int.add_zero,Int.zero_add,Int.ediv_one,Nat.reduceAdd,Nat.reduceMul,Int.reduceNeg,Nat.reduceLeDiff,List.length_cons,List.length_nil,true_and,and_true,Nat.zero_add,eq_self,Nat.reduceEqDiff,Int.reduceAdd,Int.reduceSub,Int.reduceMul,not_true_eq_false,not_false_eq_true,Nat.reduceLT,Int.reduceToNat,Int.reduceEq,Int.reduceNe,Int.reduceLT,Int.reduceLE,false_implies,true_implies,e1]
      exact ⟨by omega, non 1 h (by rw [cl]; rfl) rfl rfl⟩
    · simp (disch := omega) only [cm_,aq_,ay_,af_,ba_,ae_,ac_,bq_,bs_,c4_,az_,dw_,d6_,fh_,fu_,fz_,fq_,fk_,fs_,f0_,c5_,bd_,ct_,cx_,cf_,an_,cl_,ef_,Int.toNat_natCast,di_,dm_,dn_,gv_,gg_,f6_,f4_,Int.add_zero,Int.zero_add,Int.ediv_one,Nat.reduceAdd,Nat.reduceMul,Int.reduceNeg,Nat.reduceLeDiff,List.length_cons,List.length_nil,true_and,and_true,Nat.zero_add,eq_self,Nat.reduceEqDiff,Int.reduceAdd,Int.reduceSub,Int.reduceMul,not_true_eq_false,not_false_eq_true,Nat.reduceLT,Int.reduceToNat,Int.reduceEq,Int.reduceNe,Int.reduceLT,Int.reduceLE,false_implies,true_implies,e1]
      exact ⟨by omega, bad0 p _ p1 (by rw [cl]; omega) p3 p4⟩
  · refine w_M_readNumbers_30 ?_
    simp (disch := omega) only [cm_,aq_,ay_,af_,ba_,ae_,ac_,bq_,bs_,c4_,az_,dw_,d6_,fh_,fu_,fz_,fq_,fk_,fs_,f0_,c5_,bd_,ct_,cx_,cf_,an_,cl_,ef_,Int.toNat_natCast,di_,dm_,dn_,gv_,gg_,f6_,f4_,Int.add_zero,Int.zero_add,Int.ediv_one,Nat.reduceAdd,Nat.reduceMul,Int.reduceNeg,Nat.reduceLeDiff,List.length_cons,List.length_nil,true_and,and_true,Nat.zero_add,eq_self,Nat.reduceEqDiff,Int.reduceAdd,Int.reduceSub,Int.reduceMul,not_true_eq_false,not_false_eq_true,Nat.reduceLT,Int.reduceToNat,Int.reduceEq,Int.reduceNe,Int.reduceLT,Int.reduceLE,false_implies,true_implies]
    refine w_M_readNumbers_35 ?_
    simp (disch := omega) only [cm_,aq_,ay_,af_,ba_,ae_,ac_,bq_,bs_,c4_,az_,dw_,d6_,fh_,fu_,fz_,fq_,fk_,fs_,f0_,c5_,bd_,ct_,cx_,cf_,an_,cl_,ef_,Int.toNat_natCast,di_,dm_,dn_,gv_,gg_,f6_,f4_,Int.add_zero,Int.zero_add,Int.ediv_one,Nat.reduceAdd,Nat.reduceMul,Int.reduceNeg,Nat.reduceLeDiff,List.length_cons,List.length_nil,true_and,and_true,Nat.zero_add,eq_self,Nat.reduceEqDiff,Int.reduceAdd,Int.reduceSub,Int.reduceMul,not_true_eq_false,not_false_eq_true,Nat.reduceLT,Int.reduceToNat,Int.reduceEq,Int.reduceNe,Int.reduceLT,Int.reduceLE,false_implies,true_implies]
    refine con_MreadDigits (n := 2) (by omega) (by omega) hL (fun h => ?_) (fun p p1 p2 p3 p4 => ?_)
    · simp (disch := omega) only [cm_,aq_,ay_,af_,ba_,ae_,ac_,bq_,bs_,c4_,az_,dw_,d6_,fh_,fu_,fz_,fq_,fk_,fs_,f0_,c5_,bd_,ct_,cx_,cf_,an_,cl_,ef_,Int.toNat_natCast,di_,dm_,dn_,gv_,gg_,f6_,f4_,Int.add_zero,Int.zero_add,Int.ediv_one,Nat.reduceAdd,Nat.reduceMul,Int.reduceNeg,Nat.reduceLeDiff,List.length_cons,List.length_nil,true_and,and_true,Nat.zero_add,eq_self,Nat.reduceEqDiff,Int.reduceAdd,Int.reduceSub,Int.reduceMul,not_true_eq_false,not_false_eq_true,Nat.reduceLT,Int.reduceToNat,Int.reduceEq,Int.reduceNe,Int.reduceLT,Int.reduceLE,false_implies,true_implies,e1]
      exact ⟨by omega, non 2 h (by rw [cl]; rfl) rfl rfl⟩
    · simp (disch := omega) only [cm_,aq_,ay_,af_,ba_,ae_,ac_,bq_,bs_,c4_,az_,dw_,d6_,fh_,fu_,fz_,fq_,fk_,fs_,f0_,c5_,bd_,ct_,cx_,cf_,an_,cl_,ef_,Int.toNat_natCast,di_,dm_,dn_,gv_,gg_,f6_,f4_,Int.add_zero,Int.zero_add,Int.ediv_one,Nat.reduceAdd,Nat.reduceMul,Int.reduceNeg,Nat.reduceLeDiff,List.length_cons,List.length_nil,true_and,and_true,Nat.zero_add,eq_self,Nat.reduceEqDiff,Int.reduceAdd,Int.reduceSub,Int.reduceMul,not_true_eq_false,not_false_eq_true,Nat.reduceLT,Int.reduceToNat,Int.reduceEq,Int.reduceNe,Int.reduceLT,Int.reduceLE,false_implies,true_implies,e1]
      exact ⟨by omega, bad0 p _ p1 (by rw [cl]; omega) p3 p4⟩
end E33
end
/-! readM -/
section
/-! ===== the reference: a statement read ===== -/
def nxL (lt : Nat → Int) (lsz : Int) (a : Nat) : Nat := a + 1 + lenL lt lsz a + 1
section E34
variable {R : RR} {rf : Nat → Int} {lt : Nat → Int} {lsz : Int} {a0 : Int} {ib : Int} {sm : Int} {pl : Nat → Int} {lo : Nat → Int} {nu : Nat → Int} {kp : Nat → Int} {ig : Nat → Int} {hmg : Int} {p0 : Int} {tk : Int} {ki : Value} {tu : Nat → Int} {tz : Int} {tf : Nat → Int} {tn : Nat → Int} {tsz : Int} {ga : Nat → Int} {sd : Int} {bb : AH} {Q : Option Value → AH → Prop}
theorem con_MreadStatement {a k m : Nat} {F : Int} (hL : GL lt lsz) (hk : k < 49) (ha : a ≤ 96) (hF : F = if (a : Int) < lsz then ffN lt lsz (m + 1) a else (a : Int))
    (hbad : ∀ (f : Nat) (lo' nu' : Nat → Int), f ≤ 200 → F = (f : Int) → Q none (HM R rf lt lsz ((f : Nat)) (1) ((k + 1 : Nat)) (upI pl k a) (lo') (nu') kp ig hmg p0 tk ki tu tz tf tn tsz ga sd bb))
    (hgood : wfS lt lsz a → F = ffN lt lsz m (nxL lt lsz a) → ((nxL lt lsz a : Nat) : Int) ≤ lsz → Q none (HM R rf lt lsz ((nxL lt lsz a : Nat)) (0) ((k + 1 : Nat)) (upI pl k a) (upI lo k (atL lt lsz a)) (upI (upI nu (2 * k) (n1L lt lsz (atL lt lsz a) (a + 1))) (2 * k + 1) (n2L lt lsz (atL lt lsz a) (a + 1))) kp ig hmg p0 tk ki tu tz tf tn tsz ga sd bb)) : Con M_M_readStatement [.ref 90] (HM R rf lt lsz ((a : Nat)) (0) ((k : Nat)) pl lo nu kp ig hmg p0 tk ki tu tz tf tn tsz ga sd bb) Q := by
  have hl := hL.1
  have hr := hrL_rng hL a
  have d2 : 2 * (k : Int) = ((2 * k : Nat) : Int) := by omega
  obtain ⟨c, hc⟩ : ∃ c, c = hrL lt lsz a := ⟨_, rfl⟩
  refine g8_ (L := [some (.ref 90), none, none]) ok_M_readStatement (Nat.le_of_ble_eq_true rfl) rfl ?_
  refine w_M_readStatement_0 ?_
  simp (disch := omega) only [cm_,aq_,ay_,ag_,af_,ba_,bx_,bg_,ae_,ac_,b2_,bq_,ed_,bs_,c4_,a2_,ar_,av_,dw_,d6_,ea_,d3_,b5_,b1_,fl_,fn_,fh_,fu_,fz_,fq_,fk_,fr_,fs_,f0_,c5_,bt_,bd_,c3_,ck_,ct_,cx_,cf_,ci_,an_,cl_,d0_,Int.toNat_natCast,f3_,di_,dm_,dn_,gv_,g2_,gw_,gu_,gp_,gr_,f4_,Int.add_zero,Int.zero_add,Int.ediv_one,Nat.reduceAdd,Nat.reduceMul,Int.reduceNeg,Nat.reduceLeDiff,List.length_cons,List.length_nil,true_and,and_true,Nat.zero_add,eq_self,Nat.reduceEqDiff,Int.reduceAdd,Int.reduceSub,Int.reduceMul,not_true_eq_false,not_false_eq_true,Nat.reduceLT,Int.reduceToNat,Int.reduceEq,Int.reduceNe,Int.reduceLT,Int.reduceLE,or_true,or_false,false_implies,true_implies]
  refine con_Mhere (by omega) hL ?_
  rw [← hc]
  simp (disch := omega) only [cm_,aq_,ay_,ag_,af_,ba_,bx_,bg_,ae_,ac_,b2_,bq_,ed_,bs_,c4_,a2_,ar_,av_,dw_,d6_,ea_,d3_,b5_,b1_,fl_,fn_,fh_,fu_,fz_,fq_,fk_,fr_,fs_,f0_,c5_,bt_,bd_,c3_,ck_,ct_,cx_,cf_,ci_,an_,cl_,d0_,Int.toNat_natCast,f3_,di_,dm_,dn_,gv_,g2_,gw_,gu_,gp_,gr_,f4_,Int.add_zero,Int.zero_add,Int.ediv_one,Nat.reduceAdd,Nat.reduceMul,Int.reduceNeg,Nat.reduceLeDiff,List.length_cons,List.length_nil,true_and,and_true,Nat.zero_add,eq_self,Nat.reduceEqDiff,Int.reduceAdd,Int.reduceSub,Int.reduceMul,not_true_eq_false,not_false_eq_true,Nat.reduceLT,Int.reduceToNat,Int.reduceEq,Int.reduceNe,Int.reduceLT,Int.reduceLE,or_true,or_false,false_implies,true_implies]
  refine ⟨by omega, by omega, ?_⟩
  have last : ∀ (f : Nat) (lo' nu' : Nat → Int), f ≤ 200 → F = (f : Int) → J M_M_readStatement 86 [some (.ref 90), some (.int (zI k)), some (.int (zI c))] [] (HM R rf lt lsz ((f : Nat)) (1) ((k : Nat)) (upI pl k a) (lo') (nu') kp ig hmg p0 tk ki tu tz tf tn tsz ga sd bb) Q := by
    intro f lo' nu' hf he
    refine w_M_readStatement_86 ?_
    simp (disch := omega) only [cm_,aq_,ay_,ag_,af_,ba_,bx_,bg_,ae_,ac_,b2_,bq_,ed_,bs_,c4_,a2_,ar_,av_,dw_,d6_,ea_,d3_,b5_,b1_,fl_,fn_,fh_,fu_,fz_,fq_,fk_,fr_,fs_,f0_,c5_,bt_,bd_,c3_,ck_,ct_,cx_,cf_,ci_,an_,cl_,d0_,Int.toNat_natCast,f3_,di_,dm_,dn_,gv_,g2_,gw_,gu_,gp_,gr_,f4_,Int.add_zero,Int.zero_add,Int.ediv_one,Nat.reduceAdd,Nat.reduceMul,Int.reduceNeg,Nat.reduceLeDiff,List.length_cons,List.length_nil,true_and,and_true,Nat.zero_add,eq_self,Nat.reduceEqDiff,Int.reduceAdd,Int.reduceSub,Int.reduceMul,not_true_eq_false,not_false_eq_true,Nat.reduceLT,Int.reduceToNat,Int.reduceEq,Int.reduceNe,Int.reduceLT,Int.reduceLE,or_true,or_false,false_implies,true_implies]
    refine w_M_readStatement_103 ?_
    simp (disch := omega) only [cm_,aq_,ay_,ag_,af_,ba_,bx_,bg_,ae_,ac_,b2_,bq_,ed_,bs_,c4_,a2_,ar_,av_,dw_,d6_,ea_,d3_,b5_,b1_,fl_,fn_,fh_,fu_,fz_,fq_,fk_,fr_,fs_,f0_,c5_,bt_,bd_,c3_,ck_,ct_,cx_,cf_,ci_,an_,cl_,d0_,Int.toNat_natCast,f3_,di_,dm_,dn_,gv_,g2_,gw_,gu_,gp_,gr_,f4_,Int.add_zero,Int.zero_add,Int.ediv_one,Nat.reduceAdd,Nat.reduceMul,Int.reduceNeg,Nat.reduceLeDiff,List.length_cons,List.length_nil,true_and,and_true,Nat.zero_add,eq_self,Nat.reduceEqDiff,Int.reduceAdd,Int.reduceSub,Int.reduceMul,not_true_eq_false,not_false_eq_true,Nat.reduceLT,Int.reduceToNat,Int.reduceEq,Int.reduceNe,Int.reduceLT,Int.reduceLE,or_true,or_false,false_implies,true_implies]
    refine w_M_readStatement_108 ?_
    simp (disch := omega) only [cm_,aq_,ay_,ag_,af_,ba_,bx_,bg_,ae_,ac_,b2_,bq_,ed_,bs_,c4_,a2_,ar_,av_,dw_,d6_,ea_,d3_,b5_,b1_,fl_,fn_,fh_,fu_,fz_,fq_,fk_,fr_,fs_,f0_,c5_,bt_,bd_,c3_,ck_,ct_,cx_,cf_,ci_,an_,cl_,d0_,Int.toNat_natCast,f3_,di_,dm_,dn_,gv_,g2_,gw_,gu_,gp_,gr_,f4_,Int.add_zero,Int.zero_add,Int.ediv_one,Nat.reduceAdd,Nat.reduceMul,Int.reduceNeg,Nat.reduceLeDiff,List.length_cons,List.length_nil,true_and,and_true,Nat.zero_add,eq_self,Nat.reduceEqDiff,Int.reduceAdd,Int.reduceSub,Int.reduceMul,not_true_eq_false,not_false_eq_true,Nat.reduceLT,Int.reduceToNat,Int.reduceEq,Int.reduceNe,Int.reduceLT,Int.reduceLE,or_true,or_false,false_implies,true_implies]
    refine w_M_readStatement_128 ?_
    simp (disch := omega) only [cm_,aq_,ay_,ag_,af_,ba_,bx_,bg_,ae_,ac_,b2_,bq_,ed_,bs_,c4_,a2_,ar_,av_,dw_,d6_,ea_,d3_,b5_,b1_,fl_,fn_,fh_,fu_,fz_,fq_,fk_,fr_,fs_,f0_,c5_,bt_,bd_,c3_,ck_,ct_,cx_,cf_,ci_,an_,cl_,d0_,Int.toNat_natCast,f3_,di_,dm_,dn_,gv_,g2_,gw_,gu_,gp_,gr_,f4_,Int.add_zero,Int.zero_add,Int.ediv_one,Nat.reduceAdd,Nat.reduceMul,Int.reduceNeg,Nat.reduceLeDiff,List.length_cons,List.length_nil,true_and,and_true,Nat.zero_add,eq_self,Nat.reduceEqDiff,Int.reduceAdd,Int.reduceSub,Int.reduceMul,not_true_eq_false,not_false_eq_true,Nat.reduceLT,Int.reduceToNat,Int.reduceEq,Int.reduceNe,Int.reduceLT,Int.reduceLE,or_true,or_false,false_implies,true_implies]
    exact hbad f lo' nu' hf he
  refine con_MisLetter (by unfold inI; omega) (fun cl => ?_) (fun cl => ?_)
  · have ain : (a : Int) < lsz ∧ hrL lt lsz a = atL lt lsz a := by
      rcases hrL_at lt lsz a with z | ⟨_, z, _⟩
      · exact z
      · rw [hc, z] at cl
        exact absurd cl (by decide)
    have ec : c = atL lt lsz a := by rw [hc]; exact ain.2
    have hL1 : lenL lt lsz a = (dbL c).toNat := by rw [ec]; rfl
    have gd := dbL_rng c
    rw [if_pos ain.1] at hF
    have hff : F = if firstN (fun p => !isDg lt lsz p) (a + 1) (lenL lt lsz a) ≠ -9 then firstN (fun p => !isDg lt lsz p) (a + 1) (lenL lt lsz a) else if atL lt lsz ((a + 1 + lenL lt lsz a : Nat) : Int) ≠ 59 then ((a + 1 + lenL lt lsz a : Nat) : Int) else ffN lt lsz m (a + 1 + lenL lt lsz a + 1) := by
      rw [hF]
      show (if lsz ≤ a then (-9 : Int) else if dbL (atL lt lsz a) < 0 then (a : Int) else _) = _
      rw [if_neg (by omega), if_neg (by rw [← ec]; omega)]
    simp (disch := omega) only [cm_,aq_,ay_,ag_,af_,ba_,bx_,bg_,ae_,ac_,b2_,bq_,ed_,bs_,c4_,a2_,ar_,av_,dw_,d6_,ea_,d3_,b5_,b1_,fl_,fn_,fh_,fu_,fz_,fq_,fk_,fr_,fs_,f0_,c5_,bt_,bd_,c3_,ck_,ct_,cx_,cf_,ci_,an_,cl_,d0_,Int.toNat_natCast,f3_,di_,dm_,dn_,gv_,g2_,gw_,gu_,gp_,gr_,f4_,Int.add_zero,Int.zero_add,Int.ediv_one,Nat.reduceAdd,Nat.reduceMul,Int.reduceNeg,Nat.reduceLeDiff,List.length_cons,List.length_nil,true_and,and_true,Nat.zero_add,eq_self,Nat.reduceEqDiff,Int.reduceAdd,Int.reduceSub,Int.reduceMul,not_true_eq_false,not_false_eq_true,Nat.reduceLT,Int.reduceToNat,Int.reduceEq,Int.reduceNe,Int.reduceLT,Int.reduceLE,or_true,or_false,false_implies,true_implies]
    refine w_M_readStatement_46 ?_
    simp (disch := omega) only [cm_,aq_,ay_,ag_,af_,ba_,bx_,bg_,ae_,ac_,b2_,bq_,ed_,bs_,c4_,a2_,ar_,av_,dw_,d6_,ea_,d3_,b5_,b1_,fl_,fn_,fh_,fu_,fz_,fq_,fk_,fr_,fs_,f0_,c5_,bt_,bd_,c3_,ck_,ct_,cx_,cf_,ci_,an_,cl_,d0_,Int.toNat_natCast,f3_,di_,dm_,dn_,gv_,g2_,gw_,gu_,gp_,gr_,f4_,Int.add_zero,Int.zero_add,Int.ediv_one,Nat.reduceAdd,Nat.reduceMul,Int.reduceNeg,Nat.reduceLeDiff,List.length_cons,List.length_nil,true_and,and_true,Nat.zero_add,eq_self,Nat.reduceEqDiff,Int.reduceAdd,Int.reduceSub,Int.reduceMul,not_true_eq_false,not_false_eq_true,Nat.reduceLT,Int.reduceToNat,Int.reduceEq,Int.reduceNe,Int.reduceLT,Int.reduceLE,or_true,or_false,false_implies,true_implies]
    refine w_M_readStatement_47 ?_
    simp (disch := omega) only [cm_,aq_,ay_,ag_,af_,ba_,bx_,bg_,ae_,ac_,b2_,bq_,ed_,bs_,c4_,a2_,ar_,av_,dw_,d6_,ea_,d3_,b5_,b1_,fl_,fn_,fh_,fu_,fz_,fq_,fk_,fr_,fs_,f0_,c5_,bt_,bd_,c3_,ck_,ct_,cx_,cf_,ci_,an_,cl_,d0_,Int.toNat_natCast,f3_,di_,dm_,dn_,gv_,g2_,gw_,gu_,gp_,gr_,f4_,Int.add_zero,Int.zero_add,Int.ediv_one,Nat.reduceAdd,Nat.reduceMul,Int.reduceNeg,Nat.reduceLeDiff,List.length_cons,List.length_nil,true_and,and_true,Nat.zero_add,eq_self,Nat.reduceEqDiff,Int.reduceAdd,Int.reduceSub,Int.reduceMul,not_true_eq_false,not_false_eq_true,Nat.reduceLT,Int.reduceToNat,Int.reduceEq,Int.reduceNe,Int.reduceLT,Int.reduceLE,or_true,or_false,false_implies,true_implies]
    refine w_M_readStatement_66 ?_
    simp (disch := omega) only [cm_,aq_,ay_,ag_,af_,ba_,bx_,bg_,ae_,ac_,b2_,bq_,ed_,bs_,c4_,a2_,ar_,av_,dw_,d6_,ea_,d3_,b5_,b1_,fl_,fn_,fh_,fu_,fz_,fq_,fk_,fr_,fs_,f0_,c5_,bt_,bd_,c3_,ck_,ct_,cx_,cf_,ci_,an_,cl_,d0_,Int.toNat_natCast,f3_,di_,dm_,dn_,gv_,g2_,gw_,gu_,gp_,gr_,f4_,Int.add_zero,Int.zero_add,Int.ediv_one,Nat.reduceAdd,Nat.reduceMul,Int.reduceNeg,Nat.reduceLeDiff,List.length_cons,List.length_nil,true_and,and_true,Nat.zero_add,eq_self,Nat.reduceEqDiff,Int.reduceAdd,Int.reduceSub,Int.reduceMul,not_true_eq_false,not_false_eq_true,Nat.reduceLT,Int.reduceToNat,Int.reduceEq,Int.reduceNe,Int.reduceLT,Int.reduceLE,or_true,or_false,false_implies,true_implies]
    refine w_M_readStatement_67 ?_
    simp (disch := omega) only [cm_,aq_,ay_,ag_,af_,ba_,bx_,bg_,ae_,ac_,b2_,bq_,ed_,bs_,c4_,a2_,ar_,av_,dw_,d6_,ea_,d3_,b5_,b1_,fl_,fn_,fh_,fu_,fz_,fq_,fk_,fr_,fs_,f0_,c5_,bt_,bd_,c3_,ck_,ct_,cx_,cf_,ci_,an_,cl_,d0_,Int.toNat_natCast,f3_,di_,dm_,dn_,gv_,g2_,gw_,gu_,gp_,gr_,f4_,Int.add_zero,Int.zero_add,Int.ediv_one,Nat.reduceAdd,Nat.reduceMul,Int.reduceNeg,Nat.reduceLeDiff,List.length_cons,List.length_nil,true_and,and_true,Nat.zero_add,eq_self,Nat.reduceEqDiff,Int.reduceAdd,Int.reduceSub,Int.reduceMul,not_true_eq_false,not_false_eq_true,Nat.reduceLT,Int.reduceToNat,Int.reduceEq,Int.reduceNe,Int.reduceLT,Int.reduceLE,or_true,or_false,false_implies,true_implies,d2]
    refine con_MreadNumbers (a := a + 1) cl (by omega) (by omega) hL (fun h => ?_) (fun p nu' p1 p2 p3 p4 => ?_)
    · have f0 : firstN (fun p => !isDg lt lsz p) (a + 1) (lenL lt lsz a) = -9 := firstN_no (fun i i1 i2 => by
        have := h (i - (a + 1)) (by omega)
        rw [show a + 1 + (i - (a + 1)) = i by omega] at this
        simp [this])
      rw [f0, if_neg (by omega)] at hff
      have er := hrL_rng hL (a + 1 + lenL lt lsz a)
      rw [← hL1]
      simp (disch := omega) only [cm_,aq_,ay_,ag_,af_,ba_,bx_,bg_,ae_,ac_,b2_,bq_,ed_,bs_,c4_,a2_,ar_,av_,dw_,d6_,ea_,d3_,b5_,b1_,fl_,fn_,fh_,fu_,fz_,fq_,fk_,fr_,fs_,f0_,c5_,bt_,bd_,c3_,ck_,ct_,cx_,cf_,ci_,an_,cl_,d0_,Int.toNat_natCast,f3_,di_,dm_,dn_,gv_,g2_,gw_,gu_,gp_,gr_,f4_,Int.add_zero,Int.zero_add,Int.ediv_one,Nat.reduceAdd,Nat.reduceMul,Int.reduceNeg,Nat.reduceLeDiff,List.length_cons,List.length_nil,true_and,and_true,Nat.zero_add,eq_self,Nat.reduceEqDiff,Int.reduceAdd,Int.reduceSub,Int.reduceMul,not_true_eq_false,not_false_eq_true,Nat.reduceLT,Int.reduceToNat,Int.reduceEq,Int.reduceNe,Int.reduceLT,Int.reduceLE,or_true,or_false,false_implies,true_implies]
      refine w_M_readStatement_86 ?_
      simp (disch := omega) only [cm_,aq_,ay_,ag_,af_,ba_,bx_,bg_,ae_,ac_,b2_,bq_,ed_,bs_,c4_,a2_,ar_,av_,dw_,d6_,ea_,d3_,b5_,b1_,fl_,fn_,fh_,fu_,fz_,fq_,fk_,fr_,fs_,f0_,c5_,bt_,bd_,c3_,ck_,ct_,cx_,cf_,ci_,an_,cl_,d0_,Int.toNat_natCast,f3_,di_,dm_,dn_,gv_,g2_,gw_,gu_,gp_,gr_,f4_,Int.add_zero,Int.zero_add,Int.ediv_one,Nat.reduceAdd,Nat.reduceMul,Int.reduceNeg,Nat.reduceLeDiff,List.length_cons,List.length_nil,true_and,and_true,Nat.zero_add,eq_self,Nat.reduceEqDiff,Int.reduceAdd,Int.reduceSub,Int.reduceMul,not_true_eq_false,not_false_eq_true,Nat.reduceLT,Int.reduceToNat,Int.reduceEq,Int.reduceNe,Int.reduceLT,Int.reduceLE,or_true,or_false,false_implies,true_implies]
      refine con_Mhere (by omega) hL ?_
      simp (disch := omega) only [cm_,aq_,ay_,ag_,af_,ba_,bx_,bg_,ae_,ac_,b2_,bq_,ed_,bs_,c4_,a2_,ar_,av_,dw_,d6_,ea_,d3_,b5_,b1_,fl_,fn_,fh_,fu_,fz_,fq_,fk_,fr_,fs_,f0_,c5_,bt_,bd_,c3_,ck_,ct_,cx_,cf_,ci_,an_,cl_,d0_,Int.toNat_natCast,f3_,di_,dm_,dn_,gv_,g2_,gw_,gu_,gp_,gr_,f4_,Int.add_zero,Int.zero_add,Int.ediv_one,Nat.reduceAdd,Nat.reduceMul,Int.reduceNeg,Nat.reduceLeDiff,List.length_cons,List.length_nil,true_and,and_true,Nat.zero_add,eq_self,Nat.reduceEqDiff,Int.reduceAdd,Int.reduceSub,Int.reduceMul,not_true_eq_false,not_false_eq_true,Nat.reduceLT,Int.reduceToNat,Int.reduceEq,Int.reduceNe,Int.reduceLT,Int.reduceLE,or_true,or_false,false_implies,true_implies]
      refine ⟨fun c5 => ?_, fun c5 => ?_⟩
      · have e59 : atL lt lsz ((a + 1 + lenL lt lsz a : Nat) : Int) = 59 ∧ ((a + 1 + lenL lt lsz a : Nat) : Int) < lsz := by
          rcases hrL_at lt lsz (a + 1 + lenL lt lsz a) with ⟨z1, z⟩ | ⟨_, z, _⟩
          · exact ⟨by omega, z1⟩
          · omega
        rw [if_neg (by omega)] at hff
        have wf : wfS lt lsz a := by
          refine ⟨ain.1, by rw [← ec]; exact cl, fun j j1 j2 => ?_⟩
          have := h (j - 1) (by omega)
          rw [show a + 1 + (j - 1) = a + j by omega] at this
          simp only [isDg, decide_eq_true_eq] at this
          simp only [dgL]
          rw [if_pos this]
          omega
        refine w_M_readStatement_107 ?_
        simp (disch := omega) only [cm_,aq_,ay_,ag_,af_,ba_,bx_,bg_,ae_,ac_,b2_,bq_,ed_,bs_,c4_,a2_,ar_,av_,dw_,d6_,ea_,d3_,b5_,b1_,fl_,fn_,fh_,fu_,fz_,fq_,fk_,fr_,fs_,f0_,c5_,bt_,bd_,c3_,ck_,ct_,cx_,cf_,ci_,an_,cl_,d0_,Int.toNat_natCast,f3_,di_,dm_,dn_,gv_,g2_,gw_,gu_,gp_,gr_,f4_,Int.add_zero,Int.zero_add,Int.ediv_one,Nat.reduceAdd,Nat.reduceMul,Int.reduceNeg,Nat.reduceLeDiff,List.length_cons,List.length_nil,true_and,and_true,Nat.zero_add,eq_self,Nat.reduceEqDiff,Int.reduceAdd,Int.reduceSub,Int.reduceMul,not_true_eq_false,not_false_eq_true,Nat.reduceLT,Int.reduceToNat,Int.reduceEq,Int.reduceNe,Int.reduceLT,Int.reduceLE,or_true,or_false,false_implies,true_implies]
        refine w_M_readStatement_108 ?_
        simp (disch := omega) only [cm_,aq_,ay_,ag_,af_,ba_,bx_,bg_,ae_,ac_,b2_,bq_,ed_,bs_,c4_,a2_,ar_,av_,dw_,d6_,ea_,d3_,b5_,b1_,fl_,fn_,fh_,fu_,fz_,fq_,fk_,fr_,fs_,f0_,c5_,bt_,bd_,c3_,ck_,ct_,cx_,cf_,ci_,an_,cl_,d0_,Int.toNat_natCast,f3_,di_,dm_,dn_,gv_,g2_,gw_,gu_,gp_,gr_,f4_,Int.add_zero,Int.zero_add,Int.ediv_one,Nat.reduceAdd,Nat.reduceMul,Int.reduceNeg,Nat.reduceLeDiff,List.length_cons,List.length_nil,true_and,and_true,Nat.zero_add,eq_self,Nat.reduceEqDiff,Int.reduceAdd,Int.reduceSub,Int.reduceMul,not_true_eq_false,not_false_eq_true,Nat.reduceLT,Int.reduceToNat,Int.reduceEq,Int.reduceNe,Int.reduceLT,Int.reduceLE,or_true,or_false,false_implies,true_implies]
        refine w_M_readStatement_127 ?_
        simp (disch := omega) only [cm_,aq_,ay_,ag_,af_,ba_,bx_,bg_,ae_,ac_,b2_,bq_,ed_,bs_,c4_,a2_,ar_,av_,dw_,d6_,ea_,d3_,b5_,b1_,fl_,fn_,fh_,fu_,fz_,fq_,fk_,fr_,fs_,f0_,c5_,bt_,bd_,c3_,ck_,ct_,cx_,cf_,ci_,an_,cl_,d0_,Int.toNat_natCast,f3_,di_,dm_,dn_,gv_,g2_,gw_,gu_,gp_,gr_,f4_,Int.add_zero,Int.zero_add,Int.ediv_one,Nat.reduceAdd,Nat.reduceMul,Int.reduceNeg,Nat.reduceLeDiff,List.length_cons,List.length_nil,true_and,and_true,Nat.zero_add,eq_self,Nat.reduceEqDiff,Int.reduceAdd,Int.reduceSub,Int.reduceMul,not_true_eq_false,not_false_eq_true,Nat.reduceLT,Int.reduceToNat,Int.reduceEq,Int.reduceNe,Int.reduceLT,Int.reduceLE,or_true,or_false,false_implies,true_implies]
        refine w_M_readStatement_128 ?_
        simp (disch := omega) only [cm_,aq_,ay_,ag_,af_,ba_,bx_,bg_,ae_,ac_,b2_,bq_,ed_,bs_,c4_,a2_,ar_,av_,dw_,d6_,ea_,d3_,b5_,b1_,fl_,fn_,fh_,fu_,fz_,fq_,fk_,fr_,fs_,f0_,c5_,bt_,bd_,c3_,ck_,ct_,cx_,cf_,ci_,an_,cl_,d0_,Int.toNat_natCast,f3_,di_,dm_,dn_,gv_,g2_,gw_,gu_,gp_,gr_,f4_,Int.add_zero,Int.zero_add,Int.ediv_one,Nat.reduceAdd,Nat.reduceMul,Int.reduceNeg,Nat.reduceLeDiff,List.length_cons,List.length_nil,true_and,and_true,Nat.zero_add,eq_self,Nat.reduceEqDiff,Int.reduceAdd,Int.reduceSub,Int.reduceMul,not_true_eq_false,not_false_eq_true,Nat.reduceLT,Int.reduceToNat,Int.reduceEq,Int.reduceNe,Int.reduceLT,Int.reduceLE,or_true,or_false,false_implies,true_implies]
        have := hgood wf hff (by unfold nxL; omega)
        rw [← ec] at this
        exact this
      · have n59 : atL lt lsz ((a + 1 + lenL lt lsz a : Nat) : Int) ≠ 59 := by
          rcases hrL_at lt lsz (a + 1 + lenL lt lsz a) with ⟨z1, z⟩ | ⟨_, _, z⟩
          · omega
          · omega
        rw [if_pos n59] at hff
        refine w_M_readStatement_103 ?_
        simp (disch := omega) only [cm_,aq_,ay_,ag_,af_,ba_,bx_,bg_,ae_,ac_,b2_,bq_,ed_,bs_,c4_,a2_,ar_,av_,dw_,d6_,ea_,d3_,b5_,b1_,fl_,fn_,fh_,fu_,fz_,fq_,fk_,fr_,fs_,f0_,c5_,bt_,bd_,c3_,ck_,ct_,cx_,cf_,ci_,an_,cl_,d0_,Int.toNat_natCast,f3_,di_,dm_,dn_,gv_,g2_,gw_,gu_,gp_,gr_,f4_,Int.add_zero,Int.zero_add,Int.ediv_one,Nat.reduceAdd,Nat.reduceMul,Int.reduceNeg,Nat.reduceLeDiff,List.length_cons,List.length_nil,true_and,and_true,Nat.zero_add,eq_self,Nat.reduceEqDiff,Int.reduceAdd,Int.reduceSub,Int.reduceMul,not_true_eq_false,not_false_eq_true,Nat.reduceLT,Int.reduceToNat,Int.reduceEq,Int.reduceNe,Int.reduceLT,Int.reduceLE,or_true,or_false,false_implies,true_implies]
        refine w_M_readStatement_108 ?_
        simp (disch := omega) only [cm_,aq_,ay_,ag_,af_,ba_,bx_,bg_,ae_,ac_,b2_,bq_,ed_,bs_,c4_,a2_,ar_,av_,dw_,d6_,ea_,d3_,b5_,b1_,fl_,fn_,fh_,fu_,fz_,fq_,fk_,fr_,fs_,f0_,c5_,bt_,bd_,c3_,ck_,ct_,cx_,cf_,ci_,an_,cl_,d0_,Int.toNat_natCast,f3_,di_,dm_,dn_,gv_,g2_,gw_,gu_,gp_,gr_,f4_,Int.add_zero,Int.zero_add,Int.ediv_one,Nat.reduceAdd,Nat.reduceMul,Int.reduceNeg,Nat.reduceLeDiff,List.length_cons,List.length_nil,true_and,and_true,Nat.zero_add,eq_self,Nat.reduceEqDiff,Int.reduceAdd,Int.reduceSub,Int.reduceMul,not_true_eq_false,not_false_eq_true,Nat.reduceLT,Int.reduceToNat,Int.reduceEq,Int.reduceNe,Int.reduceLT,Int.reduceLE,or_true,or_false,false_implies,true_implies]
        refine w_M_readStatement_128 ?_
        simp (disch := omega) only [cm_,aq_,ay_,ag_,af_,ba_,bx_,bg_,ae_,ac_,b2_,bq_,ed_,bs_,c4_,a2_,ar_,av_,dw_,d6_,ea_,d3_,b5_,b1_,fl_,fn_,fh_,fu_,fz_,fq_,fk_,fr_,fs_,f0_,c5_,bt_,bd_,c3_,ck_,ct_,cx_,cf_,ci_,an_,cl_,d0_,Int.toNat_natCast,f3_,di_,dm_,dn_,gv_,g2_,gw_,gu_,gp_,gr_,f4_,Int.add_zero,Int.zero_add,Int.ediv_one,Nat.reduceAdd,Nat.reduceMul,Int.reduceNeg,Nat.reduceLeDiff,List.length_cons,List.length_nil,true_and,and_true,Nat.zero_add,eq_self,Nat.reduceEqDiff,Int.reduceAdd,Int.reduceSub,Int.reduceMul,not_true_eq_false,not_false_eq_true,Nat.reduceLT,Int.reduceToNat,Int.reduceEq,Int.reduceNe,Int.reduceLT,Int.reduceLE,or_true,or_false,false_implies,true_implies]
        exact hbad _ _ _ (by omega) hff
    · have f0 : firstN (fun p => !isDg lt lsz p) (a + 1) (lenL lt lsz a) = (p : Int) := firstN_at p1 (by omega) (by simp [p3]) (fun i i1 i2 => by simp [p4 i i1 i2])
      rw [f0, if_pos (by omega)] at hff
      simp (disch := omega) only [cm_,aq_,ay_,ag_,af_,ba_,bx_,bg_,ae_,ac_,b2_,bq_,ed_,bs_,c4_,a2_,ar_,av_,dw_,d6_,ea_,d3_,b5_,b1_,fl_,fn_,fh_,fu_,fz_,fq_,fk_,fr_,fs_,f0_,c5_,bt_,bd_,c3_,ck_,ct_,cx_,cf_,ci_,an_,cl_,d0_,Int.toNat_natCast,f3_,di_,dm_,dn_,gv_,g2_,gw_,gu_,gp_,gr_,f4_,Int.add_zero,Int.zero_add,Int.ediv_one,Nat.reduceAdd,Nat.reduceMul,Int.reduceNeg,Nat.reduceLeDiff,List.length_cons,List.length_nil,true_and,and_true,Nat.zero_add,eq_self,Nat.reduceEqDiff,Int.reduceAdd,Int.reduceSub,Int.reduceMul,not_true_eq_false,not_false_eq_true,Nat.reduceLT,Int.reduceToNat,Int.reduceEq,Int.reduceNe,Int.reduceLT,Int.reduceLE,or_true,or_false,false_implies,true_implies]
      exact last p _ _ (by omega) hff
  · have hf : F = (a : Int) := by
      rw [hF]
      rcases hrL_at lt lsz a with ⟨z1, z⟩ | ⟨z1, z, _⟩
      · rw [if_pos z1]
        have gd := dbL_rng c
        have ec : atL lt lsz a = c := by rw [hc, z]
        simp only [ffN]
        rw [if_neg (by omega), ec, if_pos (by omega)]
      · rw [if_neg z1]
    simp (disch := omega) only [cm_,aq_,ay_,ag_,af_,ba_,bx_,bg_,ae_,ac_,b2_,bq_,ed_,bs_,c4_,a2_,ar_,av_,dw_,d6_,ea_,d3_,b5_,b1_,fl_,fn_,fh_,fu_,fz_,fq_,fk_,fr_,fs_,f0_,c5_,bt_,bd_,c3_,ck_,ct_,cx_,cf_,ci_,an_,cl_,d0_,Int.toNat_natCast,f3_,di_,dm_,dn_,gv_,g2_,gw_,gu_,gp_,gr_,f4_,Int.add_zero,Int.zero_add,Int.ediv_one,Nat.reduceAdd,Nat.reduceMul,Int.reduceNeg,Nat.reduceLeDiff,List.length_cons,List.length_nil,true_and,and_true,Nat.zero_add,eq_self,Nat.reduceEqDiff,Int.reduceAdd,Int.reduceSub,Int.reduceMul,not_true_eq_false,not_false_eq_true,Nat.reduceLT,Int.reduceToNat,Int.reduceEq,Int.reduceNe,Int.reduceLT,Int.reduceLE,or_true,or_false,false_implies,true_implies]
    refine w_M_readStatement_42 ?_
    simp (disch := omega) only [cm_,aq_,ay_,ag_,af_,ba_,bx_,bg_,ae_,ac_,b2_,bq_,ed_,bs_,c4_,a2_,ar_,av_,dw_,d6_,ea_,d3_,b5_,b1_,fl_,fn_,fh_,fu_,fz_,fq_,fk_,fr_,fs_,f0_,c5_,bt_,bd_,c3_,ck_,ct_,cx_,cf_,ci_,an_,cl_,d0_,Int.toNat_natCast,f3_,di_,dm_,dn_,gv_,g2_,gw_,gu_,gp_,gr_,f4_,Int.add_zero,Int.zero_add,Int.ediv_one,Nat.reduceAdd,Nat.reduceMul,Int.reduceNeg,Nat.reduceLeDiff,List.length_cons,List.length_nil,true_and,and_true,Nat.zero_add,eq_self,Nat.reduceEqDiff,Int.reduceAdd,Int.reduceSub,Int.reduceMul,not_true_eq_false,not_false_eq_true,Nat.reduceLT,Int.reduceToNat,Int.reduceEq,Int.reduceNe,Int.reduceLT,Int.reduceLE,or_true,or_false,false_implies,true_implies]
    refine w_M_readStatement_47 ?_
    simp (disch := omega) only [cm_,aq_,ay_,ag_,af_,ba_,bx_,bg_,ae_,ac_,b2_,bq_,ed_,bs_,c4_,a2_,ar_,av_,dw_,d6_,ea_,d3_,b5_,b1_,fl_,fn_,fh_,fu_,fz_,fq_,fk_,fr_,fs_,f0_,c5_,bt_,bd_,c3_,ck_,ct_,cx_,cf_,ci_,an_,cl_,d0_,Int.toNat_natCast,f3_,di_,dm_,dn_,gv_,g2_,gw_,gu_,gp_,gr_,f4_,Int.add_zero,Int.zero_add,Int.ediv_one,Nat.reduceAdd,Nat.reduceMul,Int.reduceNeg,Nat.reduceLeDiff,List.length_cons,List.length_nil,true_and,and_true,Nat.zero_add,eq_self,Nat.reduceEqDiff,Int.reduceAdd,Int.reduceSub,Int.reduceMul,not_true_eq_false,not_false_eq_true,Nat.reduceLT,Int.reduceToNat,Int.reduceEq,Int.reduceNe,Int.reduceLT,Int.reduceLE,or_true,or_false,false_implies,true_implies]
    refine w_M_readStatement_67 ?_
    simp (disch := omega) only [cm_,aq_,ay_,ag_,af_,ba_,bx_,bg_,ae_,ac_,b2_,bq_,ed_,bs_,c4_,a2_,ar_,av_,dw_,d6_,ea_,d3_,b5_,b1_,fl_,fn_,fh_,fu_,fz_,fq_,fk_,fr_,fs_,f0_,c5_,bt_,bd_,c3_,ck_,ct_,cx_,cf_,ci_,an_,cl_,d0_,Int.toNat_natCast,f3_,di_,dm_,dn_,gv_,g2_,gw_,gu_,gp_,gr_,f4_,Int.add_zero,Int.zero_add,Int.ediv_one,Nat.reduceAdd,Nat.reduceMul,Int.reduceNeg,Nat.reduceLeDiff,List.length_cons,List.length_nil,true_and,and_true,Nat.zero_add,eq_self,Nat.reduceEqDiff,Int.reduceAdd,Int.reduceSub,Int.reduceMul,not_true_eq_false,not_false_eq_true,Nat.reduceLT,Int.reduceToNat,Int.reduceEq,Int.reduceNe,Int.reduceLT,Int.reduceLE,or_true,or_false,false_implies,true_implies]
    exact last a _ _ (by omega) hf
end E34
end
/-! reignM -/
section
/-! ===== the reference: a reign told in letters ===== -/
theorem obF_okI {lt : Nat → Int} {lsz : Int} {A B : RR} {a : Nat} (hL : GL lt lsz) (hw : wfS lt lsz a) (hG : GI A) (h : obF g6_ A lt lsz a = some B) : GI B := by
  obtain ⟨w1, w2, w3⟩ := hw
  have d1 := dgL_rng hL ((a : Int) + 1)
  have d2 := dgL_rng hL ((a : Int) + 2)
  have d3 := dgL_rng hL ((a : Int) + 3)
  have hl : lenL lt lsz a = (dbL (atL lt lsz a)).toNat := rfl
  have gm := hG.1.men
  have f1 : 0 ≤ dgL lt lsz ((a : Int) + 1) := (w3 1 (by omega) (by omega)).1
  have f2 : 2 ≤ dbL (atL lt lsz a) → 0 ≤ dgL lt lsz ((a : Int) + 2) := fun q => (w3 2 (by omega) (by omega)).1
  have f3 : 3 ≤ dbL (atL lt lsz a) → 0 ≤ dgL lt lsz ((a : Int) + 3) := fun q => (w3 3 (by omega) (by omega)).1
  simp only [obF] at h
  generalize hp : dgL lt lsz ((a : Int) + 1) * 10 + dgL lt lsz ((a : Int) + 2) = p at *
  rcases dbL_cases w2 with ⟨c, cl⟩ | ⟨c, cl⟩ | ⟨c, cl⟩ | ⟨c, cl⟩ | ⟨c, cl⟩ | ⟨c, cl⟩ | ⟨c, cl⟩
  all_goals rw [cl] at f2 f3
  all_goals simp only [c, Int.reduceEq, if_true, if_false] at h
  · split at h
    · rename_i q
      cases h
      exact hG.add q.2 (by omega) (by omega)
    · cases h
  · have hf := hG.1.fa (dgL lt lsz ((a : Int) + 1)).toNat
    split at h
    · rename_i q
      cases h
      exact hG.setFa _ (by omega) (by omega) (by omega)
    · cases h
  · split at h
    · cases h
      exact hG.setSl _ (by omega) (by omega)
    · cases h
  · split at h
    · cases h
      exact hG.setLoad (by omega)
    · cases h
  · split at h
    · cases h
      exact hG.setKing (by omega)
    · cases h
  · cases h
    exact hG.setSnow (by omega)
  · split at h
    · cases h
      exact hG.dsX p.toNat
    · cases h
theorem dcN_1 (lt : Nat → Int) (lsz : Int) (a : Nat) : dcN lt lsz a 1 = dgL lt lsz (a : Nat) := by
  show 10 * 0 + dgL lt lsz ((a + 0 : Nat) : Int) = _
  rw [Nat.add_zero]
  omega
theorem dcN_2 (lt : Nat → Int) (lsz : Int) (a : Nat) : dcN lt lsz a 2 = dgL lt lsz (a : Nat) * 10 + dgL lt lsz ((a + 1 : Nat) : Int) := by
  have : dcN lt lsz a 2 = 10 * dcN lt lsz a 1 + dgL lt lsz ((a + 1 : Nat) : Int) := rfl
  rw [this, dcN_1]
  omega
section E35
variable {R : RR} {rf : Nat → Int} {lt : Nat → Int} {lsz : Int} {a0 : Int} {ib : Int} {sm : Int} {pl : Nat → Int} {lo : Nat → Int} {nu : Nat → Int} {kp : Nat → Int} {ig : Nat → Int} {hmg : Int} {p0 : Int} {tk : Int} {ki : Value} {tu : Nat → Int} {tz : Int} {tf : Nat → Int} {tn : Nat → Int} {tsz : Int} {ga : Nat → Int} {sd : Int} {bb : AH} {Q : Option Value → AH → Prop}
theorem con_MpardonTold {m : Int} (hm : inI m) (hG : GR R) (h1 : g7_ R m → rFa R m.toNat ≠ 2 → Q (some (.int (zI 1))) (HM (sFa R (upI (rFa R) m.toNat (1 - rFa R m.toNat))) rf lt lsz a0 ib sm pl lo nu kp ig hmg p0 tk ki tu tz tf tn tsz ga sd bb)) (h0 : ¬ (g7_ R m ∧ rFa R m.toNat ≠ 2) → Q (some (.int (zI 0))) (HM R rf lt lsz a0 ib sm pl lo nu kp ig hmg p0 tk ki tu tz tf tn tsz ga sd bb)) : Con M_M_pardonTold [.ref 90, .int (zI m)] (HM R rf lt lsz a0 ib sm pl lo nu kp ig hmg p0 tk ki tu tz tf tn tsz ga sd bb) Q := by
  have gm := hG.men
  have gf := hG.fa m.toNat
  refine g8_ (L := [some (.ref 90), some (.int (zI m)), none]) ok_M_pardonTold (Nat.le_of_ble_eq_true rfl) rfl ?_
  refine w_M_pardonTold_0 ?_
  have bad : ¬ (g7_ R m ∧ rFa R m.toNat ≠ 2) → J M_M_pardonTold 22 [some (.ref 90), some (.int (zI m)), none] [] (HM R rf lt lsz a0 ib sm pl lo nu kp ig hmg p0 tk ki tu tz tf tn tsz ga sd bb) Q := by
    intro q
    refine w_M_pardonTold_22 ?_
    simp (disch := omega) only [cm_,aq_,ay_,ag_,af_,bm_,ah_,ba_,bc_,bx_,c0_,am_,ae_,ac_,b2_,bq_,ed_,bs_,a0_,as_,az_,ar_,aw_,dw_,d6_,ea_,d3_,b5_,fl_,fn_,fh_,fu_,fz_,fq_,fk_,fr_,ft_,fs_,f0_,c5_,bt_,bd_,c3_,ct_,cr_,cz_,eb_,d5_,cf_,ch_,ci_,an_,cl_,fv_,d1_,d0_,ef_,Int.toNat_natCast,di_,dm_,dn_,er_,gv_,g1_,g4_,gw_,gg_,gu_,gt_,gs_,f4_,Int.add_zero,Int.zero_add,Int.ediv_one,Nat.reduceAdd,Nat.reduceMul,Int.reduceNeg,Nat.reduceLeDiff,List.length_cons,List.length_nil,true_and,and_true,Nat.zero_add,eq_self,Nat.reduceEqDiff,Int.reduceAdd,Int.reduceSub,Int.reduceMul,not_true_eq_false,not_false_eq_true,Nat.reduceLT,Int.reduceToNat,Int.reduceEq,Int.reduceNe,Int.reduceLT,Int.reduceLE,or_true,true_or,or_false,false_or,and_self,false_implies,true_implies]
    refine w_M_pardonTold_23 ?_
    simp (disch := omega) only [cm_,aq_,ay_,ag_,af_,bm_,ah_,ba_,bc_,bx_,c0_,am_,ae_,ac_,b2_,bq_,ed_,bs_,a0_,as_,az_,ar_,aw_,dw_,d6_,ea_,d3_,b5_,fl_,fn_,fh_,fu_,fz_,fq_,fk_,fr_,ft_,fs_,f0_,c5_,bt_,bd_,c3_,ct_,cr_,cz_,eb_,d5_,cf_,ch_,ci_,an_,cl_,fv_,d1_,d0_,ef_,Int.toNat_natCast,di_,dm_,dn_,er_,gv_,g1_,g4_,gw_,gg_,gu_,gt_,gs_,f4_,Int.add_zero,Int.zero_add,Int.ediv_one,Nat.reduceAdd,Nat.reduceMul,Int.reduceNeg,Nat.reduceLeDiff,List.length_cons,List.length_nil,true_and,and_true,Nat.zero_add,eq_self,Nat.reduceEqDiff,Int.reduceAdd,Int.reduceSub,Int.reduceMul,not_true_eq_false,not_false_eq_true,Nat.reduceLT,Int.reduceToNat,Int.reduceEq,Int.reduceNe,Int.reduceLT,Int.reduceLE,or_true,true_or,or_false,false_or,and_self,false_implies,true_implies]
    refine w_M_pardonTold_42 ?_
    simp (disch := omega) only [cm_,aq_,ay_,ag_,af_,bm_,ah_,ba_,bc_,bx_,c0_,am_,ae_,ac_,b2_,bq_,ed_,bs_,a0_,as_,az_,ar_,aw_,dw_,d6_,ea_,d3_,b5_,fl_,fn_,fh_,fu_,fz_,fq_,fk_,fr_,ft_,fs_,f0_,c5_,bt_,bd_,c3_,ct_,cr_,cz_,eb_,d5_,cf_,ch_,ci_,an_,cl_,fv_,d1_,d0_,ef_,Int.toNat_natCast,di_,dm_,dn_,er_,gv_,g1_,g4_,gw_,gg_,gu_,gt_,gs_,f4_,Int.add_zero,Int.zero_add,Int.ediv_one,Nat.reduceAdd,Nat.reduceMul,Int.reduceNeg,Nat.reduceLeDiff,List.length_cons,List.length_nil,true_and,and_true,Nat.zero_add,eq_self,Nat.reduceEqDiff,Int.reduceAdd,Int.reduceSub,Int.reduceMul,not_true_eq_false,not_false_eq_true,Nat.reduceLT,Int.reduceToNat,Int.reduceEq,Int.reduceNe,Int.reduceLT,Int.reduceLE,or_true,true_or,or_false,false_or,and_self,false_implies,true_implies]
    exact h0 q
  simp (disch := omega) only [cm_,aq_,ay_,ag_,af_,bm_,ah_,ba_,bc_,bx_,c0_,am_,ae_,ac_,b2_,bq_,ed_,bs_,a0_,as_,az_,ar_,aw_,dw_,d6_,ea_,d3_,b5_,fl_,fn_,fh_,fu_,fz_,fq_,fk_,fr_,ft_,fs_,f0_,c5_,bt_,bd_,c3_,ct_,cr_,cz_,eb_,d5_,cf_,ch_,ci_,an_,cl_,fv_,d1_,d0_,ef_,Int.toNat_natCast,di_,dm_,dn_,er_,gv_,g1_,g4_,gw_,gg_,gu_,gt_,gs_,f4_,Int.add_zero,Int.zero_add,Int.ediv_one,Nat.reduceAdd,Nat.reduceMul,Int.reduceNeg,Nat.reduceLeDiff,List.length_cons,List.length_nil,true_and,and_true,Nat.zero_add,eq_self,Nat.reduceEqDiff,Int.reduceAdd,Int.reduceSub,Int.reduceMul,not_true_eq_false,not_false_eq_true,Nat.reduceLT,Int.reduceToNat,Int.reduceEq,Int.reduceNe,Int.reduceLT,Int.reduceLE,or_true,true_or,or_false,false_or,and_self,false_implies,true_implies]
  refine con_MisMan hm hG (fun c => ?_) (fun c => ?_)
  · have e : m = (m.toNat : Int) := by unfold g7_ at c; omega
    obtain ⟨b, hb⟩ : ∃ b : Nat, b = m.toNat := ⟨_, rfl⟩
    have b8 : b < 8 := by unfold g7_ at c; omega
    rw [← hb] at e h1 h0 gf bad
    subst e
    simp (disch := omega) only [cm_,aq_,ay_,ag_,af_,bm_,ah_,ba_,bc_,bx_,c0_,am_,ae_,ac_,b2_,bq_,ed_,bs_,a0_,as_,az_,ar_,aw_,dw_,d6_,ea_,d3_,b5_,fl_,fn_,fh_,fu_,fz_,fq_,fk_,fr_,ft_,fs_,f0_,c5_,bt_,bd_,c3_,ct_,cr_,cz_,eb_,d5_,cf_,ch_,ci_,an_,cl_,fv_,d1_,d0_,ef_,Int.toNat_natCast,di_,dm_,dn_,er_,gv_,g1_,g4_,gw_,gg_,gu_,gt_,gs_,f4_,Int.add_zero,Int.zero_add,Int.ediv_one,Nat.reduceAdd,Nat.reduceMul,Int.reduceNeg,Nat.reduceLeDiff,List.length_cons,List.length_nil,true_and,and_true,Nat.zero_add,eq_self,Nat.reduceEqDiff,Int.reduceAdd,Int.reduceSub,Int.reduceMul,not_true_eq_false,not_false_eq_true,Nat.reduceLT,Int.reduceToNat,Int.reduceEq,Int.reduceNe,Int.reduceLT,Int.reduceLE,or_true,true_or,or_false,false_or,and_self,false_implies,true_implies]
    refine ⟨by omega, fun c2 => bad (fun q => q.2 (by omega)), fun c2 => ?_⟩
    refine w_M_pardonTold_23 ?_
    simp (disch := omega) only [cm_,aq_,ay_,ag_,af_,bm_,ah_,ba_,bc_,bx_,c0_,am_,ae_,ac_,b2_,bq_,ed_,bs_,a0_,as_,az_,ar_,aw_,dw_,d6_,ea_,d3_,b5_,fl_,fn_,fh_,fu_,fz_,fq_,fk_,fr_,ft_,fs_,f0_,c5_,bt_,bd_,c3_,ct_,cr_,cz_,eb_,d5_,cf_,ch_,ci_,an_,cl_,fv_,d1_,d0_,ef_,Int.toNat_natCast,di_,dm_,dn_,er_,gv_,g1_,g4_,gw_,gg_,gu_,gt_,gs_,f4_,Int.add_zero,Int.zero_add,Int.ediv_one,Nat.reduceAdd,Nat.reduceMul,Int.reduceNeg,Nat.reduceLeDiff,List.length_cons,List.length_nil,true_and,and_true,Nat.zero_add,eq_self,Nat.reduceEqDiff,Int.reduceAdd,Int.reduceSub,Int.reduceMul,not_true_eq_false,not_false_eq_true,Nat.reduceLT,Int.reduceToNat,Int.reduceEq,Int.reduceNe,Int.reduceLT,Int.reduceLE,or_true,true_or,or_false,false_or,and_self,false_implies,true_implies]
    refine ⟨by omega, by omega, ?_⟩
    refine w_M_pardonTold_42 ?_
    simp (disch := omega) only [cm_,aq_,ay_,ag_,af_,bm_,ah_,ba_,bc_,bx_,c0_,am_,ae_,ac_,b2_,bq_,ed_,bs_,a0_,as_,az_,ar_,aw_,dw_,d6_,ea_,d3_,b5_,fl_,fn_,fh_,fu_,fz_,fq_,fk_,fr_,ft_,fs_,f0_,c5_,bt_,bd_,c3_,ct_,cr_,cz_,eb_,d5_,cf_,ch_,ci_,an_,cl_,fv_,d1_,d0_,ef_,Int.toNat_natCast,di_,dm_,dn_,er_,gv_,g1_,g4_,gw_,gg_,gu_,gt_,gs_,f4_,Int.add_zero,Int.zero_add,Int.ediv_one,Nat.reduceAdd,Nat.reduceMul,Int.reduceNeg,Nat.reduceLeDiff,List.length_cons,List.length_nil,true_and,and_true,Nat.zero_add,eq_self,Nat.reduceEqDiff,Int.reduceAdd,Int.reduceSub,Int.reduceMul,not_true_eq_false,not_false_eq_true,Nat.reduceLT,Int.reduceToNat,Int.reduceEq,Int.reduceNe,Int.reduceLT,Int.reduceLE,or_true,true_or,or_false,false_or,and_self,false_implies,true_implies]
    exact h1 c (by omega)
  · simp (disch := omega) only [cm_,aq_,ay_,ag_,af_,bm_,ah_,ba_,bc_,bx_,c0_,am_,ae_,ac_,b2_,bq_,ed_,bs_,a0_,as_,az_,ar_,aw_,dw_,d6_,ea_,d3_,b5_,fl_,fn_,fh_,fu_,fz_,fq_,fk_,fr_,ft_,fs_,f0_,c5_,bt_,bd_,c3_,ct_,cr_,cz_,eb_,d5_,cf_,ch_,ci_,an_,cl_,fv_,d1_,d0_,ef_,Int.toNat_natCast,di_,dm_,dn_,er_,gv_,g1_,g4_,gw_,gg_,gu_,gt_,gs_,f4_,Int.add_zero,Int.zero_add,Int.ediv_one,Nat.reduceAdd,Nat.reduceMul,Int.reduceNeg,Nat.reduceLeDiff,List.length_cons,List.length_nil,true_and,and_true,Nat.zero_add,eq_self,Nat.reduceEqDiff,Int.reduceAdd,Int.reduceSub,Int.reduceMul,not_true_eq_false,not_false_eq_true,Nat.reduceLT,Int.reduceToNat,Int.reduceEq,Int.reduceNe,Int.reduceLT,Int.reduceLE,or_true,true_or,or_false,false_or,and_self,false_implies,true_implies]
    exact bad (fun q => c q.1)
theorem con_MdaysTold {n : Int} (hn : 0 ≤ n ∧ n ≤ 99) (hI : GI R) (hD : 0 ≤ hh_ R ∧ hh_ R ≤ 999) (h1 : 1 ≤ n → n ≤ 60 → hh_ R + n ≤ 999 → Q (some (.int (zI 1))) (HM (g6_ R n.toNat) rf lt lsz a0 ib sm pl lo nu kp ig hmg p0 tk ki tu tz tf tn tsz ga sd bb)) (h0 : ¬ ((1 ≤ n ∧ n ≤ 60) ∧ hh_ R + n ≤ 999) → Q (some (.int (zI 0))) (HM R rf lt lsz a0 ib sm pl lo nu kp ig hmg p0 tk ki tu tz tf tn tsz ga sd bb)) : Con M_M_daysTold [.ref 90, .int (zI n)] (HM R rf lt lsz a0 ib sm pl lo nu kp ig hmg p0 tk ki tu tz tf tn tsz ga sd bb) Q := by
  refine g8_ (L := [some (.ref 90), some (.int (zI n)), none]) ok_M_daysTold (Nat.le_of_ble_eq_true rfl) rfl ?_
  refine w_M_daysTold_0 ?_
  have bad : ¬ ((1 ≤ n ∧ n ≤ 60) ∧ hh_ R + n ≤ 999) → J M_M_daysTold 28 [some (.ref 90), some (.int (zI n)), none] [] (HM R rf lt lsz a0 ib sm pl lo nu kp ig hmg p0 tk ki tu tz tf tn tsz ga sd bb) Q := by
    intro q
    refine w_M_daysTold_28 ?_
    simp (disch := omega) only [cm_,aq_,ay_,ag_,af_,bm_,ah_,ba_,bc_,bx_,c0_,am_,ae_,ac_,b2_,bq_,ed_,bs_,a0_,as_,az_,ar_,aw_,dw_,d6_,ea_,d3_,b5_,fl_,fn_,fh_,fu_,fz_,fq_,fk_,fr_,ft_,fs_,f0_,c5_,bt_,bd_,c3_,ct_,cr_,cz_,eb_,d5_,cf_,ch_,ci_,an_,cl_,fv_,d1_,d0_,ef_,Int.toNat_natCast,di_,dm_,dn_,er_,gv_,g1_,g4_,gw_,gg_,gu_,gt_,gs_,f4_,Int.add_zero,Int.zero_add,Int.ediv_one,Nat.reduceAdd,Nat.reduceMul,Int.reduceNeg,Nat.reduceLeDiff,List.length_cons,List.length_nil,true_and,and_true,Nat.zero_add,eq_self,Nat.reduceEqDiff,Int.reduceAdd,Int.reduceSub,Int.reduceMul,not_true_eq_false,not_false_eq_true,Nat.reduceLT,Int.reduceToNat,Int.reduceEq,Int.reduceNe,Int.reduceLT,Int.reduceLE,or_true,true_or,or_false,false_or,and_self,false_implies,true_implies]
    refine w_M_daysTold_29 ?_
    simp (disch := omega) only [cm_,aq_,ay_,ag_,af_,bm_,ah_,ba_,bc_,bx_,c0_,am_,ae_,ac_,b2_,bq_,ed_,bs_,a0_,as_,az_,ar_,aw_,dw_,d6_,ea_,d3_,b5_,fl_,fn_,fh_,fu_,fz_,fq_,fk_,fr_,ft_,fs_,f0_,c5_,bt_,bd_,c3_,ct_,cr_,cz_,eb_,d5_,cf_,ch_,ci_,an_,cl_,fv_,d1_,d0_,ef_,Int.toNat_natCast,di_,dm_,dn_,er_,gv_,g1_,g4_,gw_,gg_,gu_,gt_,gs_,f4_,Int.add_zero,Int.zero_add,Int.ediv_one,Nat.reduceAdd,Nat.reduceMul,Int.reduceNeg,Nat.reduceLeDiff,List.length_cons,List.length_nil,true_and,and_true,Nat.zero_add,eq_self,Nat.reduceEqDiff,Int.reduceAdd,Int.reduceSub,Int.reduceMul,not_true_eq_false,not_false_eq_true,Nat.reduceLT,Int.reduceToNat,Int.reduceEq,Int.reduceNe,Int.reduceLT,Int.reduceLE,or_true,true_or,or_false,false_or,and_self,false_implies,true_implies]
    refine w_M_daysTold_39 ?_
    simp (disch := omega) only [cm_,aq_,ay_,ag_,af_,bm_,ah_,ba_,bc_,bx_,c0_,am_,ae_,ac_,b2_,bq_,ed_,bs_,a0_,as_,az_,ar_,aw_,dw_,d6_,ea_,d3_,b5_,fl_,fn_,fh_,fu_,fz_,fq_,fk_,fr_,ft_,fs_,f0_,c5_,bt_,bd_,c3_,ct_,cr_,cz_,eb_,d5_,cf_,ch_,ci_,an_,cl_,fv_,d1_,d0_,ef_,Int.toNat_natCast,di_,dm_,dn_,er_,gv_,g1_,g4_,gw_,gg_,gu_,gt_,gs_,f4_,Int.add_zero,Int.zero_add,Int.ediv_one,Nat.reduceAdd,Nat.reduceMul,Int.reduceNeg,Nat.reduceLeDiff,List.length_cons,List.length_nil,true_and,and_true,Nat.zero_add,eq_self,Nat.reduceEqDiff,Int.reduceAdd,Int.reduceSub,Int.reduceMul,not_true_eq_false,not_false_eq_true,Nat.reduceLT,Int.reduceToNat,Int.reduceEq,Int.reduceNe,Int.reduceLT,Int.reduceLE,or_true,true_or,or_false,false_or,and_self,false_implies,true_implies]
    exact h0 q
  simp (disch := omega) only [cm_,aq_,ay_,ag_,af_,bm_,ah_,ba_,bc_,bx_,c0_,am_,ae_,ac_,b2_,bq_,ed_,bs_,a0_,as_,az_,ar_,aw_,dw_,d6_,ea_,d3_,b5_,fl_,fn_,fh_,fu_,fz_,fq_,fk_,fr_,ft_,fs_,f0_,c5_,bt_,bd_,c3_,ct_,cr_,cz_,eb_,d5_,cf_,ch_,ci_,an_,cl_,fv_,d1_,d0_,ef_,Int.toNat_natCast,di_,dm_,dn_,er_,gv_,g1_,g4_,gw_,gg_,gu_,gt_,gs_,f4_,Int.add_zero,Int.zero_add,Int.ediv_one,Nat.reduceAdd,Nat.reduceMul,Int.reduceNeg,Nat.reduceLeDiff,List.length_cons,List.length_nil,true_and,and_true,Nat.zero_add,eq_self,Nat.reduceEqDiff,Int.reduceAdd,Int.reduceSub,Int.reduceMul,not_true_eq_false,not_false_eq_true,Nat.reduceLT,Int.reduceToNat,Int.reduceEq,Int.reduceNe,Int.reduceLT,Int.reduceLE,or_true,true_or,or_false,false_or,and_self,false_implies,true_implies]
  refine con_Min (by unfold inI; omega) (by unfold inI; omega) (by unfold inI; omega) (fun c => ?_) (fun c => ?_)
  · simp (disch := omega) only [cm_,aq_,ay_,ag_,af_,bm_,ah_,ba_,bc_,bx_,c0_,am_,ae_,ac_,b2_,bq_,ed_,bs_,a0_,as_,az_,ar_,aw_,dw_,d6_,ea_,d3_,b5_,fl_,fn_,fh_,fu_,fz_,fq_,fk_,fr_,ft_,fs_,f0_,c5_,bt_,bd_,c3_,ct_,cr_,cz_,eb_,d5_,cf_,ch_,ci_,an_,cl_,fv_,d1_,d0_,ef_,Int.toNat_natCast,di_,dm_,dn_,er_,gv_,g1_,g4_,gw_,gg_,gu_,gt_,gs_,f4_,Int.add_zero,Int.zero_add,Int.ediv_one,Nat.reduceAdd,Nat.reduceMul,Int.reduceNeg,Nat.reduceLeDiff,List.length_cons,List.length_nil,true_and,and_true,Nat.zero_add,eq_self,Nat.reduceEqDiff,Int.reduceAdd,Int.reduceSub,Int.reduceMul,not_true_eq_false,not_false_eq_true,Nat.reduceLT,Int.reduceToNat,Int.reduceEq,Int.reduceNe,Int.reduceLT,Int.reduceLE,or_true,true_or,or_false,false_or,and_self,false_implies,true_implies]
    refine ⟨fun c2 => bad (by omega), fun c2 => ?_⟩
    refine w_M_daysTold_29 ?_
    simp (disch := omega) only [cm_,aq_,ay_,ag_,af_,bm_,ah_,ba_,bc_,bx_,c0_,am_,ae_,ac_,b2_,bq_,ed_,bs_,a0_,as_,az_,ar_,aw_,dw_,d6_,ea_,d3_,b5_,fl_,fn_,fh_,fu_,fz_,fq_,fk_,fr_,ft_,fs_,f0_,c5_,bt_,bd_,c3_,ct_,cr_,cz_,eb_,d5_,cf_,ch_,ci_,an_,cl_,fv_,d1_,d0_,ef_,Int.toNat_natCast,di_,dm_,dn_,er_,gv_,g1_,g4_,gw_,gg_,gu_,gt_,gs_,f4_,Int.add_zero,Int.zero_add,Int.ediv_one,Nat.reduceAdd,Nat.reduceMul,Int.reduceNeg,Nat.reduceLeDiff,List.length_cons,List.length_nil,true_and,and_true,Nat.zero_add,eq_self,Nat.reduceEqDiff,Int.reduceAdd,Int.reduceSub,Int.reduceMul,not_true_eq_false,not_false_eq_true,Nat.reduceLT,Int.reduceToNat,Int.reduceEq,Int.reduceNe,Int.reduceLT,Int.reduceLE,or_true,true_or,or_false,false_or,and_self,false_implies,true_implies]
    have hnn : n = (n.toNat : Int) := by omega
    rw [hnn]
    refine con_MgoDays (n := n.toNat) (by omega) hI ?_
    simp (disch := omega) only [cm_,aq_,ay_,ag_,af_,bm_,ah_,ba_,bc_,bx_,c0_,am_,ae_,ac_,b2_,bq_,ed_,bs_,a0_,as_,az_,ar_,aw_,dw_,d6_,ea_,d3_,b5_,fl_,fn_,fh_,fu_,fz_,fq_,fk_,fr_,ft_,fs_,f0_,c5_,bt_,bd_,c3_,ct_,cr_,cz_,eb_,d5_,cf_,ch_,ci_,an_,cl_,fv_,d1_,d0_,ef_,Int.toNat_natCast,di_,dm_,dn_,er_,gv_,g1_,g4_,gw_,gg_,gu_,gt_,gs_,f4_,Int.add_zero,Int.zero_add,Int.ediv_one,Nat.reduceAdd,Nat.reduceMul,Int.reduceNeg,Nat.reduceLeDiff,List.length_cons,List.length_nil,true_and,and_true,Nat.zero_add,eq_self,Nat.reduceEqDiff,Int.reduceAdd,Int.reduceSub,Int.reduceMul,not_true_eq_false,not_false_eq_true,Nat.reduceLT,Int.reduceToNat,Int.reduceEq,Int.reduceNe,Int.reduceLT,Int.reduceLE,or_true,true_or,or_false,false_or,and_self,false_implies,true_implies]
    refine w_M_daysTold_39 ?_
    simp (disch := omega) only [cm_,aq_,ay_,ag_,af_,bm_,ah_,ba_,bc_,bx_,c0_,am_,ae_,ac_,b2_,bq_,ed_,bs_,a0_,as_,az_,ar_,aw_,dw_,d6_,ea_,d3_,b5_,fl_,fn_,fh_,fu_,fz_,fq_,fk_,fr_,ft_,fs_,f0_,c5_,bt_,bd_,c3_,ct_,cr_,cz_,eb_,d5_,cf_,ch_,ci_,an_,cl_,fv_,d1_,d0_,ef_,Int.toNat_natCast,di_,dm_,dn_,er_,gv_,g1_,g4_,gw_,gg_,gu_,gt_,gs_,f4_,Int.add_zero,Int.zero_add,Int.ediv_one,Nat.reduceAdd,Nat.reduceMul,Int.reduceNeg,Nat.reduceLeDiff,List.length_cons,List.length_nil,true_and,and_true,Nat.zero_add,eq_self,Nat.reduceEqDiff,Int.reduceAdd,Int.reduceSub,Int.reduceMul,not_true_eq_false,not_false_eq_true,Nat.reduceLT,Int.reduceToNat,Int.reduceEq,Int.reduceNe,Int.reduceLT,Int.reduceLE,or_true,true_or,or_false,false_or,and_self,false_implies,true_implies]
    exact h1 (by omega) (by omega) (by omega)
  · simp (disch := omega) only [cm_,aq_,ay_,ag_,af_,bm_,ah_,ba_,bc_,bx_,c0_,am_,ae_,ac_,b2_,bq_,ed_,bs_,a0_,as_,az_,ar_,aw_,dw_,d6_,ea_,d3_,b5_,fl_,fn_,fh_,fu_,fz_,fq_,fk_,fr_,ft_,fs_,f0_,c5_,bt_,bd_,c3_,ct_,cr_,cz_,eb_,d5_,cf_,ch_,ci_,an_,cl_,fv_,d1_,d0_,ef_,Int.toNat_natCast,di_,dm_,dn_,er_,gv_,g1_,g4_,gw_,gg_,gu_,gt_,gs_,f4_,Int.add_zero,Int.zero_add,Int.ediv_one,Nat.reduceAdd,Nat.reduceMul,Int.reduceNeg,Nat.reduceLeDiff,List.length_cons,List.length_nil,true_and,and_true,Nat.zero_add,eq_self,Nat.reduceEqDiff,Int.reduceAdd,Int.reduceSub,Int.reduceMul,not_true_eq_false,not_false_eq_true,Nat.reduceLT,Int.reduceToNat,Int.reduceEq,Int.reduceNe,Int.reduceLT,Int.reduceLE,or_true,true_or,or_false,false_or,and_self,false_implies,true_implies]
    exact bad (fun q => c q.1)
theorem con_McomesTold {k a : Nat} {l0 : Int} (hk : k < 49) (ha : a < 96) (hL : GL lt l0) (hw : wfS lt l0 a) (hI : GI R) (hD : 0 ≤ hh_ R ∧ hh_ R ≤ 999) (hlo : lo k = atL lt l0 a) (hn1 : nu (2 * k) = n1L lt l0 (atL lt l0 a) (a + 1)) (hn2 : nu (2 * k + 1) = n2L lt l0 (atL lt l0 a) (a + 1)) (h1 : ∀ B, obF g6_ R lt l0 a = some B → Q (some (.int (zI 1))) (HM (B) rf lt lsz a0 ib sm pl lo nu kp ig hmg p0 tk ki tu tz tf tn tsz ga sd bb)) (h0 : obF g6_ R lt l0 a = none → Q (some (.int (zI 0))) (HM R rf lt lsz a0 ib sm pl lo nu kp ig hmg p0 tk ki tu tz tf tn tsz ga sd bb)) : Con M_M_comesTold [.ref 90, .int (zI k)] (HM R rf lt lsz a0 ib sm pl lo nu kp ig hmg p0 tk ki tu tz tf tn tsz ga sd bb) Q := by
  obtain ⟨w1, w2, w3⟩ := id hw
  have hG := hI.1
  have gm := hG.men
  have d1 := dgL_rng hL ((a : Int) + 1)
  have d2 := dgL_rng hL ((a : Int) + 2)
  have d3 := dgL_rng hL ((a : Int) + 3)
  have e11 : (((a + 1 : Nat) : Int)) = (a : Int) + 1 := by omega
  have e12 : (((a + 1 + 1 : Nat) : Int)) = (a : Int) + 2 := by omega
  have e13 : (((a + 1 + 2 : Nat) : Int)) = (a : Int) + 3 := by omega
  have hl : lenL lt l0 a = (dbL (atL lt l0 a)).toNat := rfl
  have f1 : 0 ≤ dgL lt l0 ((a : Int) + 1) := (w3 1 (by omega) (by omega)).1
  have f2 : 2 ≤ dbL (atL lt l0 a) → 0 ≤ dgL lt l0 ((a : Int) + 2) := fun q => (w3 2 (by omega) (by omega)).1
  have f3 : 3 ≤ dbL (atL lt l0 a) → 0 ≤ dgL lt l0 ((a : Int) + 3) := fun q => (w3 3 (by omega) (by omega)).1
  have x1 : 2 * (k : Int) = ((2 * k : Nat) : Int) := by omega
  have x2 : ((2 * k : Nat) : Int) + 1 = ((2 * k + 1 : Nat) : Int) := by omega
  simp only [n1L, dcN_1, dcN_2, e11, e12] at hn1
  simp only [n2L, dcN_1, e11, e12, e13] at hn2
  simp only [obF] at h1 h0
  generalize hf : dgL lt l0 ((a : Int) + 1) = f at *
  generalize hp : f * 10 + dgL lt l0 ((a : Int) + 2) = p at *
  refine g8_ (L := [some (.ref 90), some (.int (zI k)), none, none, none]) ok_M_comesTold (Nat.le_of_ble_eq_true rfl) rfl ?_
  refine w_M_comesTold_0 ?_
  rcases dbL_cases w2 with ⟨c, cl⟩ | ⟨c, cl⟩ | ⟨c, cl⟩ | ⟨c, cl⟩ | ⟨c, cl⟩ | ⟨c, cl⟩ | ⟨c, cl⟩
  all_goals rw [cl] at f2 f3
  all_goals simp only [c, Int.reduceEq, if_true, if_false, or_false, or_true, true_or, false_or] at h1 h0 hn1 hn2
  all_goals rw [c] at hlo
  all_goals simp (disch := omega) only [cm_,aq_,ay_,ag_,af_,bm_,ah_,ba_,bc_,bx_,c0_,am_,ae_,ac_,b2_,bq_,ed_,bs_,a0_,as_,az_,ar_,aw_,dw_,d6_,ea_,d3_,b5_,fl_,fn_,fh_,fu_,fz_,fq_,fk_,fr_,ft_,fs_,f0_,c5_,bt_,bd_,c3_,ct_,cr_,cz_,eb_,d5_,cf_,ch_,ci_,an_,cl_,fv_,d1_,d0_,ef_,Int.toNat_natCast,di_,dm_,dn_,er_,gv_,g1_,g4_,gw_,gg_,gu_,gt_,gs_,f4_,Int.add_zero,Int.zero_add,Int.ediv_one,Nat.reduceAdd,Nat.reduceMul,Int.reduceNeg,Nat.reduceLeDiff,List.length_cons,List.length_nil,true_and,and_true,Nat.zero_add,eq_self,Nat.reduceEqDiff,Int.reduceAdd,Int.reduceSub,Int.reduceMul,not_true_eq_false,not_false_eq_true,Nat.reduceLT,Int.reduceToNat,Int.reduceEq,Int.reduceNe,Int.reduceLT,Int.reduceLE,or_true,true_or,or_false,false_or,and_self,false_implies,true_implies,x1,x2,hn1,hn2,hlo]
  all_goals refine ⟨by omega, by omega, by omega, ?_⟩
  all_goals first | refine ⟨?_, fun q => absurd q (by omega)⟩ | skip
  · refine w_M_comesTold_96 ?_
    simp (disch := omega) only [cm_,aq_,ay_,ag_,af_,bm_,ah_,ba_,bc_,bx_,c0_,am_,ae_,ac_,b2_,bq_,ed_,bs_,a0_,as_,az_,ar_,aw_,dw_,d6_,ea_,d3_,b5_,fl_,fn_,fh_,fu_,fz_,fq_,fk_,fr_,ft_,fs_,f0_,c5_,bt_,bd_,c3_,ct_,cr_,cz_,eb_,d5_,cf_,ch_,ci_,an_,cl_,fv_,d1_,d0_,ef_,Int.toNat_natCast,di_,dm_,dn_,er_,gv_,g1_,g4_,gw_,gg_,gu_,gt_,gs_,f4_,Int.add_zero,Int.zero_add,Int.ediv_one,Nat.reduceAdd,Nat.reduceMul,Int.reduceNeg,Nat.reduceLeDiff,List.length_cons,List.length_nil,true_and,and_true,Nat.zero_add,eq_self,Nat.reduceEqDiff,Int.reduceAdd,Int.reduceSub,Int.reduceMul,not_true_eq_false,not_false_eq_true,Nat.reduceLT,Int.reduceToNat,Int.reduceEq,Int.reduceNe,Int.reduceLT,Int.reduceLE,or_true,true_or,or_false,false_or,and_self,false_implies,true_implies]
    refine con_MmanComes (by omega) hG (fun q1 q2 => ?_) (fun q => ?_)
    · simp (disch := omega) only [cm_,aq_,ay_,ag_,af_,bm_,ah_,ba_,bc_,bx_,c0_,am_,ae_,ac_,b2_,bq_,ed_,bs_,a0_,as_,az_,ar_,aw_,dw_,d6_,ea_,d3_,b5_,fl_,fn_,fh_,fu_,fz_,fq_,fk_,fr_,ft_,fs_,f0_,c5_,bt_,bd_,c3_,ct_,cr_,cz_,eb_,d5_,cf_,ch_,ci_,an_,cl_,fv_,d1_,d0_,ef_,Int.toNat_natCast,di_,dm_,dn_,er_,gv_,g1_,g4_,gw_,gg_,gu_,gt_,gs_,f4_,Int.add_zero,Int.zero_add,Int.ediv_one,Nat.reduceAdd,Nat.reduceMul,Int.reduceNeg,Nat.reduceLeDiff,List.length_cons,List.length_nil,true_and,and_true,Nat.zero_add,eq_self,Nat.reduceEqDiff,Int.reduceAdd,Int.reduceSub,Int.reduceMul,not_true_eq_false,not_false_eq_true,Nat.reduceLT,Int.reduceToNat,Int.reduceEq,Int.reduceNe,Int.reduceLT,Int.reduceLE,or_true,true_or,or_false,false_or,and_self,false_implies,true_implies]
      first | exact h1 _ (if_pos ⟨q1, q2⟩) | exact ⟨by omega, h1 _ (if_pos ⟨q1, q2⟩)⟩
    · simp (disch := omega) only [cm_,aq_,ay_,ag_,af_,bm_,ah_,ba_,bc_,bx_,c0_,am_,ae_,ac_,b2_,bq_,ed_,bs_,a0_,as_,az_,ar_,aw_,dw_,d6_,ea_,d3_,b5_,fl_,fn_,fh_,fu_,fz_,fq_,fk_,fr_,ft_,fs_,f0_,c5_,bt_,bd_,c3_,ct_,cr_,cz_,eb_,d5_,cf_,ch_,ci_,an_,cl_,fv_,d1_,d0_,ef_,Int.toNat_natCast,di_,dm_,dn_,er_,gv_,g1_,g4_,gw_,gg_,gu_,gt_,gs_,f4_,Int.add_zero,Int.zero_add,Int.ediv_one,Nat.reduceAdd,Nat.reduceMul,Int.reduceNeg,Nat.reduceLeDiff,List.length_cons,List.length_nil,true_and,and_true,Nat.zero_add,eq_self,Nat.reduceEqDiff,Int.reduceAdd,Int.reduceSub,Int.reduceMul,not_true_eq_false,not_false_eq_true,Nat.reduceLT,Int.reduceToNat,Int.reduceEq,Int.reduceNe,Int.reduceLT,Int.reduceLE,or_true,true_or,or_false,false_or,and_self,false_implies,true_implies]
      first | exact h0 (if_neg q) | exact ⟨by omega, h0 (if_neg q)⟩
  · refine w_M_comesTold_103 ?_
    simp (disch := omega) only [cm_,aq_,ay_,ag_,af_,bm_,ah_,ba_,bc_,bx_,c0_,am_,ae_,ac_,b2_,bq_,ed_,bs_,a0_,as_,az_,ar_,aw_,dw_,d6_,ea_,d3_,b5_,fl_,fn_,fh_,fu_,fz_,fq_,fk_,fr_,ft_,fs_,f0_,c5_,bt_,bd_,c3_,ct_,cr_,cz_,eb_,d5_,cf_,ch_,ci_,an_,cl_,fv_,d1_,d0_,ef_,Int.toNat_natCast,di_,dm_,dn_,er_,gv_,g1_,g4_,gw_,gg_,gu_,gt_,gs_,f4_,Int.add_zero,Int.zero_add,Int.ediv_one,Nat.reduceAdd,Nat.reduceMul,Int.reduceNeg,Nat.reduceLeDiff,List.length_cons,List.length_nil,true_and,and_true,Nat.zero_add,eq_self,Nat.reduceEqDiff,Int.reduceAdd,Int.reduceSub,Int.reduceMul,not_true_eq_false,not_false_eq_true,Nat.reduceLT,Int.reduceToNat,Int.reduceEq,Int.reduceNe,Int.reduceLT,Int.reduceLE,or_true,true_or,or_false,false_or,and_self,false_implies,true_implies]
    refine con_MpardonTold (by unfold inI; omega) hG (fun q1 q2 => ?_) (fun q => ?_)
    · simp (disch := omega) only [cm_,aq_,ay_,ag_,af_,bm_,ah_,ba_,bc_,bx_,c0_,am_,ae_,ac_,b2_,bq_,ed_,bs_,a0_,as_,az_,ar_,aw_,dw_,d6_,ea_,d3_,b5_,fl_,fn_,fh_,fu_,fz_,fq_,fk_,fr_,ft_,fs_,f0_,c5_,bt_,bd_,c3_,ct_,cr_,cz_,eb_,d5_,cf_,ch_,ci_,an_,cl_,fv_,d1_,d0_,ef_,Int.toNat_natCast,di_,dm_,dn_,er_,gv_,g1_,g4_,gw_,gg_,gu_,gt_,gs_,f4_,Int.add_zero,Int.zero_add,Int.ediv_one,Nat.reduceAdd,Nat.reduceMul,Int.reduceNeg,Nat.reduceLeDiff,List.length_cons,List.length_nil,true_and,and_true,Nat.zero_add,eq_self,Nat.reduceEqDiff,Int.reduceAdd,Int.reduceSub,Int.reduceMul,not_true_eq_false,not_false_eq_true,Nat.reduceLT,Int.reduceToNat,Int.reduceEq,Int.reduceNe,Int.reduceLT,Int.reduceLE,or_true,true_or,or_false,false_or,and_self,false_implies,true_implies]
      first | exact h1 _ (if_pos ⟨q1.2, q2⟩) | exact ⟨by omega, h1 _ (if_pos ⟨q1.2, q2⟩)⟩
    · simp (disch := omega) only [cm_,aq_,ay_,ag_,af_,bm_,ah_,ba_,bc_,bx_,c0_,am_,ae_,ac_,b2_,bq_,ed_,bs_,a0_,as_,az_,ar_,aw_,dw_,d6_,ea_,d3_,b5_,fl_,fn_,fh_,fu_,fz_,fq_,fk_,fr_,ft_,fs_,f0_,c5_,bt_,bd_,c3_,ct_,cr_,cz_,eb_,d5_,cf_,ch_,ci_,an_,cl_,fv_,d1_,d0_,ef_,Int.toNat_natCast,di_,dm_,dn_,er_,gv_,g1_,g4_,gw_,gg_,gu_,gt_,gs_,f4_,Int.add_zero,Int.zero_add,Int.ediv_one,Nat.reduceAdd,Nat.reduceMul,Int.reduceNeg,Nat.reduceLeDiff,List.length_cons,List.length_nil,true_and,and_true,Nat.zero_add,eq_self,Nat.reduceEqDiff,Int.reduceAdd,Int.reduceSub,Int.reduceMul,not_true_eq_false,not_false_eq_true,Nat.reduceLT,Int.reduceToNat,Int.reduceEq,Int.reduceNe,Int.reduceLT,Int.reduceLE,or_true,true_or,or_false,false_or,and_self,false_implies,true_implies]
      have := h0 (if_neg (fun z => q ⟨⟨f1, z.1⟩, z.2⟩))
      first | exact this | exact ⟨by omega, this⟩
  · refine w_M_comesTold_109 ?_
    simp (disch := omega) only [cm_,aq_,ay_,ag_,af_,bm_,ah_,ba_,bc_,bx_,c0_,am_,ae_,ac_,b2_,bq_,ed_,bs_,a0_,as_,az_,ar_,aw_,dw_,d6_,ea_,d3_,b5_,fl_,fn_,fh_,fu_,fz_,fq_,fk_,fr_,ft_,fs_,f0_,c5_,bt_,bd_,c3_,ct_,cr_,cz_,eb_,d5_,cf_,ch_,ci_,an_,cl_,fv_,d1_,d0_,ef_,Int.toNat_natCast,di_,dm_,dn_,er_,gv_,g1_,g4_,gw_,gg_,gu_,gt_,gs_,f4_,Int.add_zero,Int.zero_add,Int.ediv_one,Nat.reduceAdd,Nat.reduceMul,Int.reduceNeg,Nat.reduceLeDiff,List.length_cons,List.length_nil,true_and,and_true,Nat.zero_add,eq_self,Nat.reduceEqDiff,Int.reduceAdd,Int.reduceSub,Int.reduceMul,not_true_eq_false,not_false_eq_true,Nat.reduceLT,Int.reduceToNat,Int.reduceEq,Int.reduceNe,Int.reduceLT,Int.reduceLE,or_true,true_or,or_false,false_or,and_self,false_implies,true_implies]
    refine ⟨fun q => ?_, fun q => ?_⟩
    · refine w_M_comesTold_119 ?_
      simp (disch := omega) only [cm_,aq_,ay_,ag_,af_,bm_,ah_,ba_,bc_,bx_,c0_,am_,ae_,ac_,b2_,bq_,ed_,bs_,a0_,as_,az_,ar_,aw_,dw_,d6_,ea_,d3_,b5_,fl_,fn_,fh_,fu_,fz_,fq_,fk_,fr_,ft_,fs_,f0_,c5_,bt_,bd_,c3_,ct_,cr_,cz_,eb_,d5_,cf_,ch_,ci_,an_,cl_,fv_,d1_,d0_,ef_,Int.toNat_natCast,di_,dm_,dn_,er_,gv_,g1_,g4_,gw_,gg_,gu_,gt_,gs_,f4_,Int.add_zero,Int.zero_add,Int.ediv_one,Nat.reduceAdd,Nat.reduceMul,Int.reduceNeg,Nat.reduceLeDiff,List.length_cons,List.length_nil,true_and,and_true,Nat.zero_add,eq_self,Nat.reduceEqDiff,Int.reduceAdd,Int.reduceSub,Int.reduceMul,not_true_eq_false,not_false_eq_true,Nat.reduceLT,Int.reduceToNat,Int.reduceEq,Int.reduceNe,Int.reduceLT,Int.reduceLE,or_true,true_or,or_false,false_or,and_self,false_implies,true_implies]
      refine w_M_comesTold_120 ?_
      simp (disch := omega) only [cm_,aq_,ay_,ag_,af_,bm_,ah_,ba_,bc_,bx_,c0_,am_,ae_,ac_,b2_,bq_,ed_,bs_,a0_,as_,az_,ar_,aw_,dw_,d6_,ea_,d3_,b5_,fl_,fn_,fh_,fu_,fz_,fq_,fk_,fr_,ft_,fs_,f0_,c5_,bt_,bd_,c3_,ct_,cr_,cz_,eb_,d5_,cf_,ch_,ci_,an_,cl_,fv_,d1_,d0_,ef_,Int.toNat_natCast,di_,dm_,dn_,er_,gv_,g1_,g4_,gw_,gg_,gu_,gt_,gs_,f4_,Int.add_zero,Int.zero_add,Int.ediv_one,Nat.reduceAdd,Nat.reduceMul,Int.reduceNeg,Nat.reduceLeDiff,List.length_cons,List.length_nil,true_and,and_true,Nat.zero_add,eq_self,Nat.reduceEqDiff,Int.reduceAdd,Int.reduceSub,Int.reduceMul,not_true_eq_false,not_false_eq_true,Nat.reduceLT,Int.reduceToNat,Int.reduceEq,Int.reduceNe,Int.reduceLT,Int.reduceLE,or_true,true_or,or_false,false_or,and_self,false_implies,true_implies]
      refine w_M_comesTold_134 ?_
      simp (disch := omega) only [cm_,aq_,ay_,ag_,af_,bm_,ah_,ba_,bc_,bx_,c0_,am_,ae_,ac_,b2_,bq_,ed_,bs_,a0_,as_,az_,ar_,aw_,dw_,d6_,ea_,d3_,b5_,fl_,fn_,fh_,fu_,fz_,fq_,fk_,fr_,ft_,fs_,f0_,c5_,bt_,bd_,c3_,ct_,cr_,cz_,eb_,d5_,cf_,ch_,ci_,an_,cl_,fv_,d1_,d0_,ef_,Int.toNat_natCast,di_,dm_,dn_,er_,gv_,g1_,g4_,gw_,gg_,gu_,gt_,gs_,f4_,Int.add_zero,Int.zero_add,Int.ediv_one,Nat.reduceAdd,Nat.reduceMul,Int.reduceNeg,Nat.reduceLeDiff,List.length_cons,List.length_nil,true_and,and_true,Nat.zero_add,eq_self,Nat.reduceEqDiff,Int.reduceAdd,Int.reduceSub,Int.reduceMul,not_true_eq_false,not_false_eq_true,Nat.reduceLT,Int.reduceToNat,Int.reduceEq,Int.reduceNe,Int.reduceLT,Int.reduceLE,or_true,true_or,or_false,false_or,and_self,false_implies,true_implies]
      exact h0 (if_neg (by omega))
    · refine w_M_comesTold_120 ?_
      have hp2 : p = (p.toNat : Int) := by omega
      simp (disch := omega) only [cm_,aq_,ay_,ag_,af_,bm_,ah_,ba_,bc_,bx_,c0_,am_,ae_,ac_,b2_,bq_,ed_,bs_,a0_,as_,az_,ar_,aw_,dw_,d6_,ea_,d3_,b5_,fl_,fn_,fh_,fu_,fz_,fq_,fk_,fr_,ft_,fs_,f0_,c5_,bt_,bd_,c3_,ct_,cr_,cz_,eb_,d5_,cf_,ch_,ci_,an_,cl_,fv_,d1_,d0_,ef_,Int.toNat_natCast,di_,dm_,dn_,er_,gv_,g1_,g4_,gw_,gg_,gu_,gt_,gs_,f4_,Int.add_zero,Int.zero_add,Int.ediv_one,Nat.reduceAdd,Nat.reduceMul,Int.reduceNeg,Nat.reduceLeDiff,List.length_cons,List.length_nil,true_and,and_true,Nat.zero_add,eq_self,Nat.reduceEqDiff,Int.reduceAdd,Int.reduceSub,Int.reduceMul,not_true_eq_false,not_false_eq_true,Nat.reduceLT,Int.reduceToNat,Int.reduceEq,Int.reduceNe,Int.reduceLT,Int.reduceLE,or_true,true_or,or_false,false_or,and_self,false_implies,true_implies]
      refine ⟨by omega, ?_⟩
      refine w_M_comesTold_134 ?_
      simp (disch := omega) only [cm_,aq_,ay_,ag_,af_,bm_,ah_,ba_,bc_,bx_,c0_,am_,ae_,ac_,b2_,bq_,ed_,bs_,a0_,as_,az_,ar_,aw_,dw_,d6_,ea_,d3_,b5_,fl_,fn_,fh_,fu_,fz_,fq_,fk_,fr_,ft_,fs_,f0_,c5_,bt_,bd_,c3_,ct_,cr_,cz_,eb_,d5_,cf_,ch_,ci_,an_,cl_,fv_,d1_,d0_,ef_,Int.toNat_natCast,di_,dm_,dn_,er_,gv_,g1_,g4_,gw_,gg_,gu_,gt_,gs_,f4_,Int.add_zero,Int.zero_add,Int.ediv_one,Nat.reduceAdd,Nat.reduceMul,Int.reduceNeg,Nat.reduceLeDiff,List.length_cons,List.length_nil,true_and,and_true,Nat.zero_add,eq_self,Nat.reduceEqDiff,Int.reduceAdd,Int.reduceSub,Int.reduceMul,not_true_eq_false,not_false_eq_true,Nat.reduceLT,Int.reduceToNat,Int.reduceEq,Int.reduceNe,Int.reduceLT,Int.reduceLE,or_true,true_or,or_false,false_or,and_self,false_implies,true_implies]
      exact h1 _ (if_pos (by omega))
  · refine w_M_comesTold_137 ?_
    simp (disch := omega) only [cm_,aq_,ay_,ag_,af_,bm_,ah_,ba_,bc_,bx_,c0_,am_,ae_,ac_,b2_,bq_,ed_,bs_,a0_,as_,az_,ar_,aw_,dw_,d6_,ea_,d3_,b5_,fl_,fn_,fh_,fu_,fz_,fq_,fk_,fr_,ft_,fs_,f0_,c5_,bt_,bd_,c3_,ct_,cr_,cz_,eb_,d5_,cf_,ch_,ci_,an_,cl_,fv_,d1_,d0_,ef_,Int.toNat_natCast,di_,dm_,dn_,er_,gv_,g1_,g4_,gw_,gg_,gu_,gt_,gs_,f4_,Int.add_zero,Int.zero_add,Int.ediv_one,Nat.reduceAdd,Nat.reduceMul,Int.reduceNeg,Nat.reduceLeDiff,List.length_cons,List.length_nil,true_and,and_true,Nat.zero_add,eq_self,Nat.reduceEqDiff,Int.reduceAdd,Int.reduceSub,Int.reduceMul,not_true_eq_false,not_false_eq_true,Nat.reduceLT,Int.reduceToNat,Int.reduceEq,Int.reduceNe,Int.reduceLT,Int.reduceLE,or_true,true_or,or_false,false_or,and_self,false_implies,true_implies]
    refine con_Min (by unfold inI; omega) (by unfold inI; omega) (by unfold inI; omega) (fun q => ?_) (fun q => ?_)
    · simp (disch := omega) only [cm_,aq_,ay_,ag_,af_,bm_,ah_,ba_,bc_,bx_,c0_,am_,ae_,ac_,b2_,bq_,ed_,bs_,a0_,as_,az_,ar_,aw_,dw_,d6_,ea_,d3_,b5_,fl_,fn_,fh_,fu_,fz_,fq_,fk_,fr_,ft_,fs_,f0_,c5_,bt_,bd_,c3_,ct_,cr_,cz_,eb_,d5_,cf_,ch_,ci_,an_,cl_,fv_,d1_,d0_,ef_,Int.toNat_natCast,di_,dm_,dn_,er_,gv_,g1_,g4_,gw_,gg_,gu_,gt_,gs_,f4_,Int.add_zero,Int.zero_add,Int.ediv_one,Nat.reduceAdd,Nat.reduceMul,Int.reduceNeg,Nat.reduceLeDiff,List.length_cons,List.length_nil,true_and,and_true,Nat.zero_add,eq_self,Nat.reduceEqDiff,Int.reduceAdd,Int.reduceSub,Int.reduceMul,not_true_eq_false,not_false_eq_true,Nat.reduceLT,Int.reduceToNat,Int.reduceEq,Int.reduceNe,Int.reduceLT,Int.reduceLE,or_true,true_or,or_false,false_or,and_self,false_implies,true_implies]
      refine w_M_comesTold_162 ?_
      simp (disch := omega) only [cm_,aq_,ay_,ag_,af_,bm_,ah_,ba_,bc_,bx_,c0_,am_,ae_,ac_,b2_,bq_,ed_,bs_,a0_,as_,az_,ar_,aw_,dw_,d6_,ea_,d3_,b5_,fl_,fn_,fh_,fu_,fz_,fq_,fk_,fr_,ft_,fs_,f0_,c5_,bt_,bd_,c3_,ct_,cr_,cz_,eb_,d5_,cf_,ch_,ci_,an_,cl_,fv_,d1_,d0_,ef_,Int.toNat_natCast,di_,dm_,dn_,er_,gv_,g1_,g4_,gw_,gg_,gu_,gt_,gs_,f4_,Int.add_zero,Int.zero_add,Int.ediv_one,Nat.reduceAdd,Nat.reduceMul,Int.reduceNeg,Nat.reduceLeDiff,List.length_cons,List.length_nil,true_and,and_true,Nat.zero_add,eq_self,Nat.reduceEqDiff,Int.reduceAdd,Int.reduceSub,Int.reduceMul,not_true_eq_false,not_false_eq_true,Nat.reduceLT,Int.reduceToNat,Int.reduceEq,Int.reduceNe,Int.reduceLT,Int.reduceLE,or_true,true_or,or_false,false_or,and_self,false_implies,true_implies]
      exact h1 _ (if_pos q)
    · simp (disch := omega) only [cm_,aq_,ay_,ag_,af_,bm_,ah_,ba_,bc_,bx_,c0_,am_,ae_,ac_,b2_,bq_,ed_,bs_,a0_,as_,az_,ar_,aw_,dw_,d6_,ea_,d3_,b5_,fl_,fn_,fh_,fu_,fz_,fq_,fk_,fr_,ft_,fs_,f0_,c5_,bt_,bd_,c3_,ct_,cr_,cz_,eb_,d5_,cf_,ch_,ci_,an_,cl_,fv_,d1_,d0_,ef_,Int.toNat_natCast,di_,dm_,dn_,er_,gv_,g1_,g4_,gw_,gg_,gu_,gt_,gs_,f4_,Int.add_zero,Int.zero_add,Int.ediv_one,Nat.reduceAdd,Nat.reduceMul,Int.reduceNeg,Nat.reduceLeDiff,List.length_cons,List.length_nil,true_and,and_true,Nat.zero_add,eq_self,Nat.reduceEqDiff,Int.reduceAdd,Int.reduceSub,Int.reduceMul,not_true_eq_false,not_false_eq_true,Nat.reduceLT,Int.reduceToNat,Int.reduceEq,Int.reduceNe,Int.reduceLT,Int.reduceLE,or_true,true_or,or_false,false_or,and_self,false_implies,true_implies]
      refine w_M_comesTold_158 ?_
      simp (disch := omega) only [cm_,aq_,ay_,ag_,af_,bm_,ah_,ba_,bc_,bx_,c0_,am_,ae_,ac_,b2_,bq_,ed_,bs_,a0_,as_,az_,ar_,aw_,dw_,d6_,ea_,d3_,b5_,fl_,fn_,fh_,fu_,fz_,fq_,fk_,fr_,ft_,fs_,f0_,c5_,bt_,bd_,c3_,ct_,cr_,cz_,eb_,d5_,cf_,ch_,ci_,an_,cl_,fv_,d1_,d0_,ef_,Int.toNat_natCast,di_,dm_,dn_,er_,gv_,g1_,g4_,gw_,gg_,gu_,gt_,gs_,f4_,Int.add_zero,Int.zero_add,Int.ediv_one,Nat.reduceAdd,Nat.reduceMul,Int.reduceNeg,Nat.reduceLeDiff,List.length_cons,List.length_nil,true_and,and_true,Nat.zero_add,eq_self,Nat.reduceEqDiff,Int.reduceAdd,Int.reduceSub,Int.reduceMul,not_true_eq_false,not_false_eq_true,Nat.reduceLT,Int.reduceToNat,Int.reduceEq,Int.reduceNe,Int.reduceLT,Int.reduceLE,or_true,true_or,or_false,false_or,and_self,false_implies,true_implies]
      refine w_M_comesTold_162 ?_
      simp (disch := omega) only [cm_,aq_,ay_,ag_,af_,bm_,ah_,ba_,bc_,bx_,c0_,am_,ae_,ac_,b2_,bq_,ed_,bs_,a0_,as_,az_,ar_,aw_,dw_,d6_,ea_,d3_,b5_,fl_,fn_,fh_,fu_,fz_,fq_,fk_,fr_,ft_,fs_,f0_,c5_,bt_,bd_,c3_,ct_,cr_,cz_,eb_,d5_,cf_,ch_,ci_,an_,cl_,fv_,d1_,d0_,ef_,Int.toNat_natCast,di_,dm_,dn_,er_,gv_,g1_,g4_,gw_,gg_,gu_,gt_,gs_,f4_,Int.add_zero,Int.zero_add,Int.ediv_one,Nat.reduceAdd,Nat.reduceMul,Int.reduceNeg,Nat.reduceLeDiff,List.length_cons,List.length_nil,true_and,and_true,Nat.zero_add,eq_self,Nat.reduceEqDiff,Int.reduceAdd,Int.reduceSub,Int.reduceMul,not_true_eq_false,not_false_eq_true,Nat.reduceLT,Int.reduceToNat,Int.reduceEq,Int.reduceNe,Int.reduceLT,Int.reduceLE,or_true,true_or,or_false,false_or,and_self,false_implies,true_implies]
      exact h0 (if_neg q)
  · refine w_M_comesTold_168 ?_
    simp (disch := omega) only [cm_,aq_,ay_,ag_,af_,bm_,ah_,ba_,bc_,bx_,c0_,am_,ae_,ac_,b2_,bq_,ed_,bs_,a0_,as_,az_,ar_,aw_,dw_,d6_,ea_,d3_,b5_,fl_,fn_,fh_,fu_,fz_,fq_,fk_,fr_,ft_,fs_,f0_,c5_,bt_,bd_,c3_,ct_,cr_,cz_,eb_,d5_,cf_,ch_,ci_,an_,cl_,fv_,d1_,d0_,ef_,Int.toNat_natCast,di_,dm_,dn_,er_,gv_,g1_,g4_,gw_,gg_,gu_,gt_,gs_,f4_,Int.add_zero,Int.zero_add,Int.ediv_one,Nat.reduceAdd,Nat.reduceMul,Int.reduceNeg,Nat.reduceLeDiff,List.length_cons,List.length_nil,true_and,and_true,Nat.zero_add,eq_self,Nat.reduceEqDiff,Int.reduceAdd,Int.reduceSub,Int.reduceMul,not_true_eq_false,not_false_eq_true,Nat.reduceLT,Int.reduceToNat,Int.reduceEq,Int.reduceNe,Int.reduceLT,Int.reduceLE,or_true,true_or,or_false,false_or,and_self,false_implies,true_implies]
    refine ⟨fun q => ?_, fun q => ?_⟩
    · refine w_M_comesTold_178 ?_
      simp (disch := omega) only [cm_,aq_,ay_,ag_,af_,bm_,ah_,ba_,bc_,bx_,c0_,am_,ae_,ac_,b2_,bq_,ed_,bs_,a0_,as_,az_,ar_,aw_,dw_,d6_,ea_,d3_,b5_,fl_,fn_,fh_,fu_,fz_,fq_,fk_,fr_,ft_,fs_,f0_,c5_,bt_,bd_,c3_,ct_,cr_,cz_,eb_,d5_,cf_,ch_,ci_,an_,cl_,fv_,d1_,d0_,ef_,Int.toNat_natCast,di_,dm_,dn_,er_,gv_,g1_,g4_,gw_,gg_,gu_,gt_,gs_,f4_,Int.add_zero,Int.zero_add,Int.ediv_one,Nat.reduceAdd,Nat.reduceMul,Int.reduceNeg,Nat.reduceLeDiff,List.length_cons,List.length_nil,true_and,and_true,Nat.zero_add,eq_self,Nat.reduceEqDiff,Int.reduceAdd,Int.reduceSub,Int.reduceMul,not_true_eq_false,not_false_eq_true,Nat.reduceLT,Int.reduceToNat,Int.reduceEq,Int.reduceNe,Int.reduceLT,Int.reduceLE,or_true,true_or,or_false,false_or,and_self,false_implies,true_implies]
      refine w_M_comesTold_179 ?_
      simp (disch := omega) only [cm_,aq_,ay_,ag_,af_,bm_,ah_,ba_,bc_,bx_,c0_,am_,ae_,ac_,b2_,bq_,ed_,bs_,a0_,as_,az_,ar_,aw_,dw_,d6_,ea_,d3_,b5_,fl_,fn_,fh_,fu_,fz_,fq_,fk_,fr_,ft_,fs_,f0_,c5_,bt_,bd_,c3_,ct_,cr_,cz_,eb_,d5_,cf_,ch_,ci_,an_,cl_,fv_,d1_,d0_,ef_,Int.toNat_natCast,di_,dm_,dn_,er_,gv_,g1_,g4_,gw_,gg_,gu_,gt_,gs_,f4_,Int.add_zero,Int.zero_add,Int.ediv_one,Nat.reduceAdd,Nat.reduceMul,Int.reduceNeg,Nat.reduceLeDiff,List.length_cons,List.length_nil,true_and,and_true,Nat.zero_add,eq_self,Nat.reduceEqDiff,Int.reduceAdd,Int.reduceSub,Int.reduceMul,not_true_eq_false,not_false_eq_true,Nat.reduceLT,Int.reduceToNat,Int.reduceEq,Int.reduceNe,Int.reduceLT,Int.reduceLE,or_true,true_or,or_false,false_or,and_self,false_implies,true_implies]
      refine w_M_comesTold_191 ?_
      simp (disch := omega) only [cm_,aq_,ay_,ag_,af_,bm_,ah_,ba_,bc_,bx_,c0_,am_,ae_,ac_,b2_,bq_,ed_,bs_,a0_,as_,az_,ar_,aw_,dw_,d6_,ea_,d3_,b5_,fl_,fn_,fh_,fu_,fz_,fq_,fk_,fr_,ft_,fs_,f0_,c5_,bt_,bd_,c3_,ct_,cr_,cz_,eb_,d5_,cf_,ch_,ci_,an_,cl_,fv_,d1_,d0_,ef_,Int.toNat_natCast,di_,dm_,dn_,er_,gv_,g1_,g4_,gw_,gg_,gu_,gt_,gs_,f4_,Int.add_zero,Int.zero_add,Int.ediv_one,Nat.reduceAdd,Nat.reduceMul,Int.reduceNeg,Nat.reduceLeDiff,List.length_cons,List.length_nil,true_and,and_true,Nat.zero_add,eq_self,Nat.reduceEqDiff,Int.reduceAdd,Int.reduceSub,Int.reduceMul,not_true_eq_false,not_false_eq_true,Nat.reduceLT,Int.reduceToNat,Int.reduceEq,Int.reduceNe,Int.reduceLT,Int.reduceLE,or_true,true_or,or_false,false_or,and_self,false_implies,true_implies]
      refine w_M_comesTold_195 ?_
      simp (disch := omega) only [cm_,aq_,ay_,ag_,af_,bm_,ah_,ba_,bc_,bx_,c0_,am_,ae_,ac_,b2_,bq_,ed_,bs_,a0_,as_,az_,ar_,aw_,dw_,d6_,ea_,d3_,b5_,fl_,fn_,fh_,fu_,fz_,fq_,fk_,fr_,ft_,fs_,f0_,c5_,bt_,bd_,c3_,ct_,cr_,cz_,eb_,d5_,cf_,ch_,ci_,an_,cl_,fv_,d1_,d0_,ef_,Int.toNat_natCast,di_,dm_,dn_,er_,gv_,g1_,g4_,gw_,gg_,gu_,gt_,gs_,f4_,Int.add_zero,Int.zero_add,Int.ediv_one,Nat.reduceAdd,Nat.reduceMul,Int.reduceNeg,Nat.reduceLeDiff,List.length_cons,List.length_nil,true_and,and_true,Nat.zero_add,eq_self,Nat.reduceEqDiff,Int.reduceAdd,Int.reduceSub,Int.reduceMul,not_true_eq_false,not_false_eq_true,Nat.reduceLT,Int.reduceToNat,Int.reduceEq,Int.reduceNe,Int.reduceLT,Int.reduceLE,or_true,true_or,or_false,false_or,and_self,false_implies,true_implies]
      exact h0 (if_neg (by omega))
    · refine w_M_comesTold_179 ?_
      simp (disch := omega) only [cm_,aq_,ay_,ag_,af_,bm_,ah_,ba_,bc_,bx_,c0_,am_,ae_,ac_,b2_,bq_,ed_,bs_,a0_,as_,az_,ar_,aw_,dw_,d6_,ea_,d3_,b5_,fl_,fn_,fh_,fu_,fz_,fq_,fk_,fr_,ft_,fs_,f0_,c5_,bt_,bd_,c3_,ct_,cr_,cz_,eb_,d5_,cf_,ch_,ci_,an_,cl_,fv_,d1_,d0_,ef_,Int.toNat_natCast,di_,dm_,dn_,er_,gv_,g1_,g4_,gw_,gg_,gu_,gt_,gs_,f4_,Int.add_zero,Int.zero_add,Int.ediv_one,Nat.reduceAdd,Nat.reduceMul,Int.reduceNeg,Nat.reduceLeDiff,List.length_cons,List.length_nil,true_and,and_true,Nat.zero_add,eq_self,Nat.reduceEqDiff,Int.reduceAdd,Int.reduceSub,Int.reduceMul,not_true_eq_false,not_false_eq_true,Nat.reduceLT,Int.reduceToNat,Int.reduceEq,Int.reduceNe,Int.reduceLT,Int.reduceLE,or_true,true_or,or_false,false_or,and_self,false_implies,true_implies]
      refine w_M_comesTold_195 ?_
      simp (disch := omega) only [cm_,aq_,ay_,ag_,af_,bm_,ah_,ba_,bc_,bx_,c0_,am_,ae_,ac_,b2_,bq_,ed_,bs_,a0_,as_,az_,ar_,aw_,dw_,d6_,ea_,d3_,b5_,fl_,fn_,fh_,fu_,fz_,fq_,fk_,fr_,ft_,fs_,f0_,c5_,bt_,bd_,c3_,ct_,cr_,cz_,eb_,d5_,cf_,ch_,ci_,an_,cl_,fv_,d1_,d0_,ef_,Int.toNat_natCast,di_,dm_,dn_,er_,gv_,g1_,g4_,gw_,gg_,gu_,gt_,gs_,f4_,Int.add_zero,Int.zero_add,Int.ediv_one,Nat.reduceAdd,Nat.reduceMul,Int.reduceNeg,Nat.reduceLeDiff,List.length_cons,List.length_nil,true_and,and_true,Nat.zero_add,eq_self,Nat.reduceEqDiff,Int.reduceAdd,Int.reduceSub,Int.reduceMul,not_true_eq_false,not_false_eq_true,Nat.reduceLT,Int.reduceToNat,Int.reduceEq,Int.reduceNe,Int.reduceLT,Int.reduceLE,or_true,true_or,or_false,false_or,and_self,false_implies,true_implies]
      exact h1 _ (if_pos (by omega))
  · refine w_M_comesTold_201 ?_
    simp (disch := omega) only [cm_,aq_,ay_,ag_,af_,bm_,ah_,ba_,bc_,bx_,c0_,am_,ae_,ac_,b2_,bq_,ed_,bs_,a0_,as_,az_,ar_,aw_,dw_,d6_,ea_,d3_,b5_,fl_,fn_,fh_,fu_,fz_,fq_,fk_,fr_,ft_,fs_,f0_,c5_,bt_,bd_,c3_,ct_,cr_,cz_,eb_,d5_,cf_,ch_,ci_,an_,cl_,fv_,d1_,d0_,ef_,Int.toNat_natCast,di_,dm_,dn_,er_,gv_,g1_,g4_,gw_,gg_,gu_,gt_,gs_,f4_,Int.add_zero,Int.zero_add,Int.ediv_one,Nat.reduceAdd,Nat.reduceMul,Int.reduceNeg,Nat.reduceLeDiff,List.length_cons,List.length_nil,true_and,and_true,Nat.zero_add,eq_self,Nat.reduceEqDiff,Int.reduceAdd,Int.reduceSub,Int.reduceMul,not_true_eq_false,not_false_eq_true,Nat.reduceLT,Int.reduceToNat,Int.reduceEq,Int.reduceNe,Int.reduceLT,Int.reduceLE,or_true,true_or,or_false,false_or,and_self,false_implies,true_implies]
    exact h1 _ rfl
  · refine w_M_comesTold_208 ?_
    simp (disch := omega) only [cm_,aq_,ay_,ag_,af_,bm_,ah_,ba_,bc_,bx_,c0_,am_,ae_,ac_,b2_,bq_,ed_,bs_,a0_,as_,az_,ar_,aw_,dw_,d6_,ea_,d3_,b5_,fl_,fn_,fh_,fu_,fz_,fq_,fk_,fr_,ft_,fs_,f0_,c5_,bt_,bd_,c3_,ct_,cr_,cz_,eb_,d5_,cf_,ch_,ci_,an_,cl_,fv_,d1_,d0_,ef_,Int.toNat_natCast,di_,dm_,dn_,er_,gv_,g1_,g4_,gw_,gg_,gu_,gt_,gs_,f4_,Int.add_zero,Int.zero_add,Int.ediv_one,Nat.reduceAdd,Nat.reduceMul,Int.reduceNeg,Nat.reduceLeDiff,List.length_cons,List.length_nil,true_and,and_true,Nat.zero_add,eq_self,Nat.reduceEqDiff,Int.reduceAdd,Int.reduceSub,Int.reduceMul,not_true_eq_false,not_false_eq_true,Nat.reduceLT,Int.reduceToNat,Int.reduceEq,Int.reduceNe,Int.reduceLT,Int.reduceLE,or_true,true_or,or_false,false_or,and_self,false_implies,true_implies]
    refine con_MdaysTold (by omega) hI hD (fun q1 q2 q3 => ?_) (fun q => ?_)
    · simp (disch := omega) only [cm_,aq_,ay_,ag_,af_,bm_,ah_,ba_,bc_,bx_,c0_,am_,ae_,ac_,b2_,bq_,ed_,bs_,a0_,as_,az_,ar_,aw_,dw_,d6_,ea_,d3_,b5_,fl_,fn_,fh_,fu_,fz_,fq_,fk_,fr_,ft_,fs_,f0_,c5_,bt_,bd_,c3_,ct_,cr_,cz_,eb_,d5_,cf_,ch_,ci_,an_,cl_,fv_,d1_,d0_,ef_,Int.toNat_natCast,di_,dm_,dn_,er_,gv_,g1_,g4_,gw_,gg_,gu_,gt_,gs_,f4_,Int.add_zero,Int.zero_add,Int.ediv_one,Nat.reduceAdd,Nat.reduceMul,Int.reduceNeg,Nat.reduceLeDiff,List.length_cons,List.length_nil,true_and,and_true,Nat.zero_add,eq_self,Nat.reduceEqDiff,Int.reduceAdd,Int.reduceSub,Int.reduceMul,not_true_eq_false,not_false_eq_true,Nat.reduceLT,Int.reduceToNat,Int.reduceEq,Int.reduceNe,Int.reduceLT,Int.reduceLE,or_true,true_or,or_false,false_or,and_self,false_implies,true_implies]
      first | exact h1 _ (if_pos ⟨⟨q1, q2⟩, q3⟩) | exact ⟨by omega, h1 _ (if_pos ⟨⟨q1, q2⟩, q3⟩)⟩
    · simp (disch := omega) only [cm_,aq_,ay_,ag_,af_,bm_,ah_,ba_,bc_,bx_,c0_,am_,ae_,ac_,b2_,bq_,ed_,bs_,a0_,as_,az_,ar_,aw_,dw_,d6_,ea_,d3_,b5_,fl_,fn_,fh_,fu_,fz_,fq_,fk_,fr_,ft_,fs_,f0_,c5_,bt_,bd_,c3_,ct_,cr_,cz_,eb_,d5_,cf_,ch_,ci_,an_,cl_,fv_,d1_,d0_,ef_,Int.toNat_natCast,di_,dm_,dn_,er_,gv_,g1_,g4_,gw_,gg_,gu_,gt_,gs_,f4_,Int.add_zero,Int.zero_add,Int.ediv_one,Nat.reduceAdd,Nat.reduceMul,Int.reduceNeg,Nat.reduceLeDiff,List.length_cons,List.length_nil,true_and,and_true,Nat.zero_add,eq_self,Nat.reduceEqDiff,Int.reduceAdd,Int.reduceSub,Int.reduceMul,not_true_eq_false,not_false_eq_true,Nat.reduceLT,Int.reduceToNat,Int.reduceEq,Int.reduceNe,Int.reduceLT,Int.reduceLE,or_true,true_or,or_false,false_or,and_self,false_implies,true_implies]
      first | exact h0 (if_neg q) | exact ⟨by omega, h0 (if_neg q)⟩
end E35
end
/-! reignM -/
section
theorem ffF_rng {lt : Nat → Int} {lsz : Int} (hL : GL lt lsz) : ffF lt lsz = -9 ∨ (0 ≤ ffF lt lsz ∧ ffF lt lsz ≤ 200) := by
  have gl := hL.1
  have : ∀ m a : Nat, a ≤ 96 → ffN lt lsz m a = -9 ∨ (0 ≤ ffN lt lsz m a ∧ ffN lt lsz m a ≤ 200) := by
    intro m
    induction m with
    | zero => intro a h; left; rfl
    | succ m ih =>
      intro a h
      have gd := dbL_rng (atL lt lsz a)
      have hL1 : lenL lt lsz a = (dbL (atL lt lsz a)).toNat := rfl
      have hf := firstN_rng (fun p => !isDg lt lsz p) (a + 1) (lenL lt lsz a)
      simp only [ffN]
      split
      · omega
      · split
        · omega
        · split
          · omega
          · split
            · omega
            · rename_i c3
              have c3 : atL lt lsz ((a + 1 + lenL lt lsz a : Nat) : Int) = 59 := Classical.not_not.mp c3
              have : ((a + 1 + lenL lt lsz a : Nat) : Int) < lsz := by
                simp only [atL] at c3
                split at c3 <;> omega
              exact ih _ (by omega)
  simp only [ffF]
  split
  · omega
  · exact this 100 0 (by omega)
def plN (lt : Nat → Int) (lsz : Int) : Nat → Nat
  | 0 => 0
  | k + 1 => nxL lt lsz (plN lt lsz k)
/-- what has been read of the first k statements -/
def RD (lt : Nat → Int) (lsz : Int) (k : Nat) (pl lo nu : Nat → Int) : Prop := ∀ j, j < k → (((plN lt lsz j : Nat) : Int) < lsz ∧ 3 * (j + 1) ≤ plN lt lsz (j + 1) ∧ wfS lt lsz (plN lt lsz j) ∧ pl j = ((plN lt lsz j : Nat) : Int) ∧ lo j = atL lt lsz (plN lt lsz j) ∧ nu (2 * j) = n1L lt lsz (atL lt lsz (plN lt lsz j)) (plN lt lsz j + 1) ∧ nu (2 * j + 1) = n2L lt lsz (atL lt lsz (plN lt lsz j)) (plN lt lsz j + 1))
section E36
variable {R I : RR} {im : Int} {P : Nat → RR} {pz : Int} {lt : Nat → Int} {lsz : Int} {tn : Nat → Int} {tsz : Int} {rf : Nat → Int} {bb h : AH} {Q : Option Value → AH → Prop}
theorem M_reign (hL : GL lt lsz) (hD : 0 ≤ hh_ R ∧ hh_ R ≤ 999) (hI : GI R)  (W : (MW R I im P pz lt lsz tn tsz rf bb h))
    (h1 : 0 ≤ ffF lt lsz → ∀ h, (MW R I im P pz lt (0) tn tsz rf bb h) → Q (some (.int (zI (-1000 - ffF lt lsz)))) h)
    (h2 : ffF lt lsz = -9 → (rgN g6_ lt lsz 100 0 R 0).1 < 0 → ∀ h, (MW R I im P pz lt (0) tn tsz rf bb h) → Q (some (.int (zI (rgN g6_ lt lsz 100 0 R 0).1))) h)
    (h3 : ffF lt lsz = -9 → 0 ≤ (rgN g6_ lt lsz 100 0 R 0).1 → GI (rgN g6_ lt lsz 100 0 R 0).2 → 0 ≤ hh_ (rgN g6_ lt lsz 100 0 R 0).2 → hh_ (rgN g6_ lt lsz 100 0 R 0).2 ≤ 999 → ∀ h, (MW ((rgN g6_ lt lsz 100 0 R 0).2) I im P (0) lt (0) tn tsz rf bb h) → Q (some (.int (zI (rgN g6_ lt lsz 100 0 R 0).1))) h) : Con M_M_reign [.ref 90] h Q := by
  obtain ⟨a0, ib, sm, pl, lo, nu, kp, ig, p0, tk, ki, tu, tf, ga, sd, rfl, hIg, hTu, hPz⟩ := W
  have hG := hI.1
  have gl := hL.1
  have fr := ffF_rng hL
  obtain ⟨E, hE⟩ : ∃ E, E = rgN g6_ lt lsz 100 0 R 0 := ⟨_, rfl⟩
  rw [← hE] at h2 h3
  obtain ⟨F, hF⟩ : ∃ F, F = ffF lt lsz := ⟨_, rfl⟩
  rw [← hF] at h1 h2 h3 fr
  refine g8_ (L := [some (.ref 90), none]) ok_M_reign (Nat.le_of_ble_eq_true rfl) rfl ?_
  refine w_M_reign_0 ?_
  simp (disch := omega) only [cm_,aq_,ay_,ag_,b8_,af_,bc_,am_,ac_,b2_,bq_,ed_,bs_,ao_,a2_,az_,dw_,d6_,ea_,b1_,fl_,fn_,fh_,fu_,fp_,fz_,fq_,fk_,fr_,ft_,f0_,c5_,bt_,bd_,c3_,ck_,ct_,cx_,cr_,cf_,ch_,an_,d0_,Int.toNat_natCast,f3_,di_,dm_,dn_,gv_,g2_,gu_,f4_,Int.add_zero,Int.zero_add,Int.ediv_one,Nat.reduceAdd,Nat.reduceMul,Int.reduceNeg,Nat.reduceLeDiff,List.length_cons,List.length_nil,true_and,and_true,Nat.zero_add,eq_self,Nat.reduceEqDiff,Int.reduceAdd,Int.reduceSub,Int.reduceMul,not_true_eq_false,not_false_eq_true,Nat.reduceLT,Int.reduceToNat,Int.reduceEq,Int.reduceNe,Int.reduceLT,Int.reduceLE,or_false,false_implies,true_implies]
  have fault : ∀ (f : Nat) (s : Int) (p' l' n' : Nat → Int) y, F = (f : Int) → J M_M_reign 52 [some (.ref 90), y] [] (HM R rf lt lsz ((f : Nat)) (1) (s) (p') (l') (n') kp ig (im) p0 tk ki tu (pz) tf tn tsz ga sd bb) Q := by
    intro f s p' l' n' y hf
    have h1 := h1 (by omega)
    rw [hf] at h1
    refine w_M_reign_52 ?_
    simp (disch := omega) only [cm_,aq_,ay_,ag_,b8_,af_,bc_,am_,ac_,b2_,bq_,ed_,bs_,ao_,a2_,az_,dw_,d6_,ea_,b1_,fl_,fn_,fh_,fu_,fp_,fz_,fq_,fk_,fr_,ft_,f0_,c5_,bt_,bd_,c3_,ck_,ct_,cx_,cr_,cf_,ch_,an_,d0_,Int.toNat_natCast,f3_,di_,dm_,dn_,gv_,g2_,gu_,f4_,Int.add_zero,Int.zero_add,Int.ediv_one,Nat.reduceAdd,Nat.reduceMul,Int.reduceNeg,Nat.reduceLeDiff,List.length_cons,List.length_nil,true_and,and_true,Nat.zero_add,eq_self,Nat.reduceEqDiff,Int.reduceAdd,Int.reduceSub,Int.reduceMul,not_true_eq_false,not_false_eq_true,Nat.reduceLT,Int.reduceToNat,Int.reduceEq,Int.reduceNe,Int.reduceLT,Int.reduceLE,or_false,false_implies,true_implies]
    exact h1 _ ⟨_, _, _, _, _, _, _, _, _, _, _, _, _, _, _, rfl, hIg, hTu, hPz⟩
  have obey : ∀ (K : Nat) (a : Int) (p' l' n' x : Nat → Int), F = -9 → KP x R → 1 ≤ K → K ≤ 33 → ¬ ((plN lt lsz K : Nat) : Int) < lsz → RD lt lsz K p' l' n' → ∀ r k : Nat, k + r = K → ∀ B, GI B → 0 ≤ hh_ B ∧ hh_ B ≤ 999 → rgN g6_ lt lsz (100 - k) (plN lt lsz k) B (k : Int) = E → J M_M_reign 79 [some (.ref 90), some (.int (zI k))] [] (HM (B) rf lt (0) (a) (0) ((K : Nat)) (p') (l') (n') (x) ig (im) (49) (1) (.ref 101) tu (pz) tf tn tsz ga sd bb) Q := by
    intro K a p' l' n' x hf hx K1 K2 hend hR r
    induction r with
    | zero =>
      intro k hk B hB hd he
      have e : k = K := by omega
      subst e
      obtain ⟨q, hq⟩ : ∃ q, 100 - k = q + 1 := ⟨99 - k, by omega⟩
      rw [hq] at he
      simp only [rgN] at he
      rw [if_pos (by omega)] at he
      rw [← he] at h3
      have h3 := h3 hf (by show (0 : Int) ≤ (k : Int); omega) hB hd.1 hd.2
      refine w_M_reign_79 ?_
      simp (disch := omega) only [cm_,aq_,ay_,ag_,b8_,af_,bc_,am_,ac_,b2_,bq_,ed_,bs_,ao_,a2_,az_,dw_,d6_,ea_,b1_,fl_,fn_,fh_,fu_,fp_,fz_,fq_,fk_,fr_,ft_,f0_,c5_,bt_,bd_,c3_,ck_,ct_,cx_,cr_,cf_,ch_,an_,d0_,Int.toNat_natCast,f3_,di_,dm_,dn_,gv_,g2_,gu_,f4_,Int.add_zero,Int.zero_add,Int.ediv_one,Nat.reduceAdd,Nat.reduceMul,Int.reduceNeg,Nat.reduceLeDiff,List.length_cons,List.length_nil,true_and,and_true,Nat.zero_add,eq_self,Nat.reduceEqDiff,Int.reduceAdd,Int.reduceSub,Int.reduceMul,not_true_eq_false,not_false_eq_true,Nat.reduceLT,Int.reduceToNat,Int.reduceEq,Int.reduceNe,Int.reduceLT,Int.reduceLE,or_false,false_implies,true_implies]
      refine ⟨fun _ => ?_, fun q => by omega⟩
      refine w_M_reign_116 ?_
      simp (disch := omega) only [cm_,aq_,ay_,ag_,b8_,af_,bc_,am_,ac_,b2_,bq_,ed_,bs_,ao_,a2_,az_,dw_,d6_,ea_,b1_,fl_,fn_,fh_,fu_,fp_,fz_,fq_,fk_,fr_,ft_,f0_,c5_,bt_,bd_,c3_,ck_,ct_,cx_,cr_,cf_,ch_,an_,d0_,Int.toNat_natCast,f3_,di_,dm_,dn_,gv_,g2_,gu_,f4_,Int.add_zero,Int.zero_add,Int.ediv_one,Nat.reduceAdd,Nat.reduceMul,Int.reduceNeg,Nat.reduceLeDiff,List.length_cons,List.length_nil,true_and,and_true,Nat.zero_add,eq_self,Nat.reduceEqDiff,Int.reduceAdd,Int.reduceSub,Int.reduceMul,not_true_eq_false,not_false_eq_true,Nat.reduceLT,Int.reduceToNat,Int.reduceEq,Int.reduceNe,Int.reduceLT,Int.reduceLE,or_false,false_implies,true_implies]
      exact h3 _ ⟨_, _, _, _, _, _, _, _, _, _, _, _, _, _, _, rfl, hIg, fun i hi => by omega, by omega⟩
    | succ r ih =>
      intro k hk B hB hd he
      have step := ih (k + 1) (by omega)
      obtain ⟨r1, r2, r3, r4, r5, r6, r7⟩ := hR k (by omega)
      obtain ⟨q, hq⟩ : ∃ q, 100 - k = q + 1 := ⟨99 - k, by omega⟩
      have hq2 : 100 - (k + 1) = q := by omega
      rw [hq2] at step
      rw [hq] at he
      simp only [rgN] at he
      rw [if_neg (by omega)] at he
      refine w_M_reign_79 ?_
      simp (disch := omega) only [cm_,aq_,ay_,ag_,b8_,af_,bc_,am_,ac_,b2_,bq_,ed_,bs_,ao_,a2_,az_,dw_,d6_,ea_,b1_,fl_,fn_,fh_,fu_,fp_,fz_,fq_,fk_,fr_,ft_,f0_,c5_,bt_,bd_,c3_,ck_,ct_,cx_,cr_,cf_,ch_,an_,d0_,Int.toNat_natCast,f3_,di_,dm_,dn_,gv_,g2_,gu_,f4_,Int.add_zero,Int.zero_add,Int.ediv_one,Nat.reduceAdd,Nat.reduceMul,Int.reduceNeg,Nat.reduceLeDiff,List.length_cons,List.length_nil,true_and,and_true,Nat.zero_add,eq_self,Nat.reduceEqDiff,Int.reduceAdd,Int.reduceSub,Int.reduceMul,not_true_eq_false,not_false_eq_true,Nat.reduceLT,Int.reduceToNat,Int.reduceEq,Int.reduceNe,Int.reduceLT,Int.reduceLE,or_false,false_implies,true_implies]
      refine ⟨fun q => by omega, fun _ => ?_⟩
      refine con_McomesTold (l0 := lsz) (k := k) (a := plN lt lsz k) (by omega) (by omega) hL r3 hB hd r5 r6 r7 (fun C hC => ?_) (fun hC => ?_)
      · rw [hC] at he
        have gB := obF_ok hL r3 hB.1 hd (fun n => ⟨hB.1.dsX n, daysX_day B n⟩) hC
        simp (disch := omega) only [cm_,aq_,ay_,ag_,b8_,af_,bc_,am_,ac_,b2_,bq_,ed_,bs_,ao_,a2_,az_,dw_,d6_,ea_,b1_,fl_,fn_,fh_,fu_,fp_,fz_,fq_,fk_,fr_,ft_,f0_,c5_,bt_,bd_,c3_,ck_,ct_,cx_,cr_,cf_,ch_,an_,d0_,Int.toNat_natCast,f3_,di_,dm_,dn_,gv_,g2_,gu_,f4_,Int.add_zero,Int.zero_add,Int.ediv_one,Nat.reduceAdd,Nat.reduceMul,Int.reduceNeg,Nat.reduceLeDiff,List.length_cons,List.length_nil,true_and,and_true,Nat.zero_add,eq_self,Nat.reduceEqDiff,Int.reduceAdd,Int.reduceSub,Int.reduceMul,not_true_eq_false,not_false_eq_true,Nat.reduceLT,Int.reduceToNat,Int.reduceEq,Int.reduceNe,Int.reduceLT,Int.reduceLE,or_false,false_implies,true_implies]
        refine w_M_reign_110 ?_
        simp (disch := omega) only [cm_,aq_,ay_,ag_,b8_,af_,bc_,am_,ac_,b2_,bq_,ed_,bs_,ao_,a2_,az_,dw_,d6_,ea_,b1_,fl_,fn_,fh_,fu_,fp_,fz_,fq_,fk_,fr_,ft_,f0_,c5_,bt_,bd_,c3_,ck_,ct_,cx_,cr_,cf_,ch_,an_,d0_,Int.toNat_natCast,f3_,di_,dm_,dn_,gv_,g2_,gu_,f4_,Int.add_zero,Int.zero_add,Int.ediv_one,Nat.reduceAdd,Nat.reduceMul,Int.reduceNeg,Nat.reduceLeDiff,List.length_cons,List.length_nil,true_and,and_true,Nat.zero_add,eq_self,Nat.reduceEqDiff,Int.reduceAdd,Int.reduceSub,Int.reduceMul,not_true_eq_false,not_false_eq_true,Nat.reduceLT,Int.reduceToNat,Int.reduceEq,Int.reduceNe,Int.reduceLT,Int.reduceLE,or_false,false_implies,true_implies]
        exact step C (obF_okI hL r3 hB hC) gB.2 he
      · rw [hC] at he
        rw [← he] at h2
        have h2 := h2 hf (by show -2000 - ((plN lt lsz k : Nat) : Int) < 0; omega)
        simp (disch := omega) only [cm_,aq_,ay_,ag_,b8_,af_,bc_,am_,ac_,b2_,bq_,ed_,bs_,ao_,a2_,az_,dw_,d6_,ea_,b1_,fl_,fn_,fh_,fu_,fp_,fz_,fq_,fk_,fr_,ft_,f0_,c5_,bt_,bd_,c3_,ck_,ct_,cx_,cr_,cf_,ch_,an_,d0_,Int.toNat_natCast,f3_,di_,dm_,dn_,gv_,g2_,gu_,f4_,Int.add_zero,Int.zero_add,Int.ediv_one,Nat.reduceAdd,Nat.reduceMul,Int.reduceNeg,Nat.reduceLeDiff,List.length_cons,List.length_nil,true_and,and_true,Nat.zero_add,eq_self,Nat.reduceEqDiff,Int.reduceAdd,Int.reduceSub,Int.reduceMul,not_true_eq_false,not_false_eq_true,Nat.reduceLT,Int.reduceToNat,Int.reduceEq,Int.reduceNe,Int.reduceLT,Int.reduceLE,or_false,false_implies,true_implies]
        refine con_Magain hx hB.2.2 hI.2.2 ?_
        simp (disch := omega) only [cm_,aq_,ay_,ag_,b8_,af_,bc_,am_,ac_,b2_,bq_,ed_,bs_,ao_,a2_,az_,dw_,d6_,ea_,b1_,fl_,fn_,fh_,fu_,fp_,fz_,fq_,fk_,fr_,ft_,f0_,c5_,bt_,bd_,c3_,ck_,ct_,cx_,cr_,cf_,ch_,an_,d0_,Int.toNat_natCast,f3_,di_,dm_,dn_,gv_,g2_,gu_,f4_,Int.add_zero,Int.zero_add,Int.ediv_one,Nat.reduceAdd,Nat.reduceMul,Int.reduceNeg,Nat.reduceLeDiff,List.length_cons,List.length_nil,true_and,and_true,Nat.zero_add,eq_self,Nat.reduceEqDiff,Int.reduceAdd,Int.reduceSub,Int.reduceMul,not_true_eq_false,not_false_eq_true,Nat.reduceLT,Int.reduceToNat,Int.reduceEq,Int.reduceNe,Int.reduceLT,Int.reduceLE,or_false,false_implies,true_implies,r4]
        refine ⟨by omega, ?_⟩
        exact h2 _ ⟨_, _, _, _, _, _, _, _, _, _, _, _, _, _, _, rfl, hIg, hTu, hPz⟩
  have read : ∀ r k : Nat, lsz + 3 < (plN lt lsz k : Nat) + 3 * r → 3 * k ≤ plN lt lsz k → ((plN lt lsz k : Nat) : Int) ≤ lsz → (k = 0 ∨ ffN lt lsz (100 - k) (plN lt lsz k) = F) → ∀ p' l' n', RD lt lsz k p' l' n' → ∀ y, J M_M_reign 20 [some (.ref 90), y] [] (HM R rf lt lsz ((plN lt lsz k : Nat)) (0) ((k : Nat)) (p') (l') (n') kp ig (im) p0 tk ki tu (pz) tf tn tsz ga sd bb) Q := by
    intro r
    induction r with
    | zero => intro k q1 q2 q3; omega
    | succ r ih =>
      intro k q1 q2 q3 q4 p' l' n' hR y
      have go : F = (if ((plN lt lsz k : Nat) : Int) < lsz then ffN lt lsz ((99 - k) + 1) (plN lt lsz k) else ((plN lt lsz k : Nat) : Int)) → J M_M_reign 45 [some (.ref 90), y] [] (HM R rf lt lsz ((plN lt lsz k : Nat)) (0) ((k : Nat)) (p') (l') (n') kp ig (im) p0 tk ki tu (pz) tf tn tsz ga sd bb) Q := by
        intro hf
        refine w_M_reign_45 ?_
        simp (disch := omega) only [cm_,aq_,ay_,ag_,b8_,af_,bc_,am_,ac_,b2_,bq_,ed_,bs_,ao_,a2_,az_,dw_,d6_,ea_,b1_,fl_,fn_,fh_,fu_,fp_,fz_,fq_,fk_,fr_,ft_,f0_,c5_,bt_,bd_,c3_,ck_,ct_,cx_,cr_,cf_,ch_,an_,d0_,Int.toNat_natCast,f3_,di_,dm_,dn_,gv_,g2_,gu_,f4_,Int.add_zero,Int.zero_add,Int.ediv_one,Nat.reduceAdd,Nat.reduceMul,Int.reduceNeg,Nat.reduceLeDiff,List.length_cons,List.length_nil,true_and,and_true,Nat.zero_add,eq_self,Nat.reduceEqDiff,Int.reduceAdd,Int.reduceSub,Int.reduceMul,not_true_eq_false,not_false_eq_true,Nat.reduceLT,Int.reduceToNat,Int.reduceEq,Int.reduceNe,Int.reduceLT,Int.reduceLE,or_false,false_implies,true_implies]
        refine con_MreadStatement (a := plN lt lsz k) (k := k) (m := 99 - k) hL (by omega) (by omega) hf (fun f lo' nu' f1 f2 => ?_) (fun wf f2 f3 => ?_)
        · simp (disch := omega) only [cm_,aq_,ay_,ag_,b8_,af_,bc_,am_,ac_,b2_,bq_,ed_,bs_,ao_,a2_,az_,dw_,d6_,ea_,b1_,fl_,fn_,fh_,fu_,fp_,fz_,fq_,fk_,fr_,ft_,f0_,c5_,bt_,bd_,c3_,ck_,ct_,cx_,cr_,cf_,ch_,an_,d0_,Int.toNat_natCast,f3_,di_,dm_,dn_,gv_,g2_,gu_,f4_,Int.add_zero,Int.zero_add,Int.ediv_one,Nat.reduceAdd,Nat.reduceMul,Int.reduceNeg,Nat.reduceLeDiff,List.length_cons,List.length_nil,true_and,and_true,Nat.zero_add,eq_self,Nat.reduceEqDiff,Int.reduceAdd,Int.reduceSub,Int.reduceMul,not_true_eq_false,not_false_eq_true,Nat.reduceLT,Int.reduceToNat,Int.reduceEq,Int.reduceNe,Int.reduceLT,Int.reduceLE,or_false,false_implies,true_implies]
          refine w_M_reign_20 ?_
          simp (disch := omega) only [cm_,aq_,ay_,ag_,b8_,af_,bc_,am_,ac_,b2_,bq_,ed_,bs_,ao_,a2_,az_,dw_,d6_,ea_,b1_,fl_,fn_,fh_,fu_,fp_,fz_,fq_,fk_,fr_,ft_,f0_,c5_,bt_,bd_,c3_,ck_,ct_,cx_,cr_,cf_,ch_,an_,d0_,Int.toNat_natCast,f3_,di_,dm_,dn_,gv_,g2_,gu_,f4_,Int.add_zero,Int.zero_add,Int.ediv_one,Nat.reduceAdd,Nat.reduceMul,Int.reduceNeg,Nat.reduceLeDiff,List.length_cons,List.length_nil,true_and,and_true,Nat.zero_add,eq_self,Nat.reduceEqDiff,Int.reduceAdd,Int.reduceSub,Int.reduceMul,not_true_eq_false,not_false_eq_true,Nat.reduceLT,Int.reduceToNat,Int.reduceEq,Int.reduceNe,Int.reduceLT,Int.reduceLE,or_false,false_implies,true_implies]
          exact fault f _ _ _ _ _ f2
        · simp (disch := omega) only [cm_,aq_,ay_,ag_,b8_,af_,bc_,am_,ac_,b2_,bq_,ed_,bs_,ao_,a2_,az_,dw_,d6_,ea_,b1_,fl_,fn_,fh_,fu_,fp_,fz_,fq_,fk_,fr_,ft_,f0_,c5_,bt_,bd_,c3_,ck_,ct_,cx_,cr_,cf_,ch_,an_,d0_,Int.toNat_natCast,f3_,di_,dm_,dn_,gv_,g2_,gu_,f4_,Int.add_zero,Int.zero_add,Int.ediv_one,Nat.reduceAdd,Nat.reduceMul,Int.reduceNeg,Nat.reduceLeDiff,List.length_cons,List.length_nil,true_and,and_true,Nat.zero_add,eq_self,Nat.reduceEqDiff,Int.reduceAdd,Int.reduceSub,Int.reduceMul,not_true_eq_false,not_false_eq_true,Nat.reduceLT,Int.reduceToNat,Int.reduceEq,Int.reduceNe,Int.reduceLT,Int.reduceLE,or_false,false_implies,true_implies]
          have hl3 : 3 ≤ nxL lt lsz (plN lt lsz k) - plN lt lsz k := by
            have := wf.2.1
            have hl1 : lenL lt lsz (plN lt lsz k) = (dbL (atL lt lsz (plN lt lsz k))).toNat := rfl
            unfold nxL
            omega
          have e2 : plN lt lsz (k + 1) = nxL lt lsz (plN lt lsz k) := rfl
          rw [← e2] at hl3 f2 f3 ⊢
          refine ih (k + 1) (by omega) (by omega) f3 (Or.inr (by rw [show 100 - (k + 1) = 99 - k by omega]; exact f2.symm)) _ _ _ (fun j hj => ?_) _
          by_cases hjk : j = k
          · subst hjk
            refine ⟨wf.1, by omega, wf, ?_, ?_, ?_, ?_⟩
            · simp only [upI, if_true]
            · simp only [upI, if_true]
            · simp only [upI]
              rw [if_neg (by omega)]
              first | rw [if_pos rfl] | rw [if_pos trivial]
            · simp only [upI, if_true]
          · obtain ⟨r1, r2, r3, r4, r5, r6, r7⟩ := hR j (by omega)
            refine ⟨r1, r2, r3, ?_, ?_, ?_, ?_⟩
            · simp only [upI]
              rw [if_neg hjk]; exact r4
            · simp only [upI]
              rw [if_neg hjk]; exact r5
            · simp only [upI]
              rw [if_neg (by omega), if_neg (by omega)]; exact r6
            · simp only [upI]
              rw [if_neg (by omega), if_neg (by omega)]; exact r7
      refine w_M_reign_20 ?_
      simp (disch := omega) only [cm_,aq_,ay_,ag_,b8_,af_,bc_,am_,ac_,b2_,bq_,ed_,bs_,ao_,a2_,az_,dw_,d6_,ea_,b1_,fl_,fn_,fh_,fu_,fp_,fz_,fq_,fk_,fr_,ft_,f0_,c5_,bt_,bd_,c3_,ck_,ct_,cx_,cr_,cf_,ch_,an_,d0_,Int.toNat_natCast,f3_,di_,dm_,dn_,gv_,g2_,gu_,f4_,Int.add_zero,Int.zero_add,Int.ediv_one,Nat.reduceAdd,Nat.reduceMul,Int.reduceNeg,Nat.reduceLeDiff,List.length_cons,List.length_nil,true_and,and_true,Nat.zero_add,eq_self,Nat.reduceEqDiff,Int.reduceAdd,Int.reduceSub,Int.reduceMul,not_true_eq_false,not_false_eq_true,Nat.reduceLT,Int.reduceToNat,Int.reduceEq,Int.reduceNe,Int.reduceLT,Int.reduceLE,or_false,false_implies,true_implies]
      refine ⟨fun c => ?_, fun c => ?_⟩
      · have k0 : k = 0 := by omega
        refine go ?_
        subst k0
        rw [hF]
        simp only [ffF]
        by_cases z : lsz = 0
        · rw [if_pos z]
          show (0 : Int) = if ((0 : Nat) : Int) < lsz then _ else ((0 : Nat) : Int)
          rw [if_neg (by omega)]
          rfl
        · rw [if_neg z]
          show _ = if ((0 : Nat) : Int) < lsz then _ else ((0 : Nat) : Int)
          rw [if_pos (by omega)]
          rfl
      · have q4 : ffN lt lsz (100 - k) (plN lt lsz k) = F := by
          rcases q4 with z | z
          · omega
          · exact z
        refine ⟨fun c2 => ?_, fun c2 => ?_⟩
        · have hf9 : F = -9 := by
            rw [← q4, show 100 - k = (99 - k) + 1 by omega]
            simp only [ffN]
            rw [if_pos (by omega)]
          refine w_M_reign_52 ?_
          simp (disch := omega) only [cm_,aq_,ay_,ag_,b8_,af_,bc_,am_,ac_,b2_,bq_,ed_,bs_,ao_,a2_,az_,dw_,d6_,ea_,b1_,fl_,fn_,fh_,fu_,fp_,fz_,fq_,fk_,fr_,ft_,f0_,c5_,bt_,bd_,c3_,ck_,ct_,cx_,cr_,cf_,ch_,an_,d0_,Int.toNat_natCast,f3_,di_,dm_,dn_,gv_,g2_,gu_,f4_,Int.add_zero,Int.zero_add,Int.ediv_one,Nat.reduceAdd,Nat.reduceMul,Int.reduceNeg,Nat.reduceLeDiff,List.length_cons,List.length_nil,true_and,and_true,Nat.zero_add,eq_self,Nat.reduceEqDiff,Int.reduceAdd,Int.reduceSub,Int.reduceMul,not_true_eq_false,not_false_eq_true,Nat.reduceLT,Int.reduceToNat,Int.reduceEq,Int.reduceNe,Int.reduceLT,Int.reduceLE,or_false,false_implies,true_implies]
          refine w_M_reign_73 ?_
          simp (disch := omega) only [cm_,aq_,ay_,ag_,b8_,af_,bc_,am_,ac_,b2_,bq_,ed_,bs_,ao_,a2_,az_,dw_,d6_,ea_,b1_,fl_,fn_,fh_,fu_,fp_,fz_,fq_,fk_,fr_,ft_,f0_,c5_,bt_,bd_,c3_,ck_,ct_,cx_,cr_,cf_,ch_,an_,d0_,Int.toNat_natCast,f3_,di_,dm_,dn_,gv_,g2_,gu_,f4_,Int.add_zero,Int.zero_add,Int.ediv_one,Nat.reduceAdd,Nat.reduceMul,Int.reduceNeg,Nat.reduceLeDiff,List.length_cons,List.length_nil,true_and,and_true,Nat.zero_add,eq_self,Nat.reduceEqDiff,Int.reduceAdd,Int.reduceSub,Int.reduceMul,not_true_eq_false,not_false_eq_true,Nat.reduceLT,Int.reduceToNat,Int.reduceEq,Int.reduceNe,Int.reduceLT,Int.reduceLE,or_false,false_implies,true_implies]
          refine con_Mthink (fun x hx => ?_)
          simp (disch := omega) only [cm_,aq_,ay_,ag_,b8_,af_,bc_,am_,ac_,b2_,bq_,ed_,bs_,ao_,a2_,az_,dw_,d6_,ea_,b1_,fl_,fn_,fh_,fu_,fp_,fz_,fq_,fk_,fr_,ft_,f0_,c5_,bt_,bd_,c3_,ck_,ct_,cx_,cr_,cf_,ch_,an_,d0_,Int.toNat_natCast,f3_,di_,dm_,dn_,gv_,g2_,gu_,f4_,Int.add_zero,Int.zero_add,Int.ediv_one,Nat.reduceAdd,Nat.reduceMul,Int.reduceNeg,Nat.reduceLeDiff,List.length_cons,List.length_nil,true_and,and_true,Nat.zero_add,eq_self,Nat.reduceEqDiff,Int.reduceAdd,Int.reduceSub,Int.reduceMul,not_true_eq_false,not_false_eq_true,Nat.reduceLT,Int.reduceToNat,Int.reduceEq,Int.reduceNe,Int.reduceLT,Int.reduceLE,or_false,false_implies,true_implies]
          exact obey k _ p' l' n' x hf9 hx (by omega) (by omega) (by omega) hR k 0 (Nat.zero_add _) R hI hD hE.symm
        · refine go ?_
          rw [if_pos (by omega), ← q4, show 100 - k = (99 - k) + 1 by omega]
  exact read 40 0 (by show lsz + 3 < ((0 : Nat) : Int) + 3 * (40 : Nat); omega) (by show 3 * 0 ≤ 0; omega) (by show ((0 : Nat) : Int) ≤ lsz; omega) (Or.inl rfl) pl lo nu (fun j hj => by omega) none
end E36
end
