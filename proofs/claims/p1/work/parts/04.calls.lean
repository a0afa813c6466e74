/-! ===== fields and calls ===== -/
theorem inP {i : Nat} {w : Cond} (h : (k2_sels lw_privs)[i]? = some w) (hg : goodWord w = true) : w ∈ WT := lw_WT (List.mem_append_left _ (List.mem_of_getElem? h)) hg
theorem inN0 {i : Nat} {w : Cond} (h : tables_1_1[i]? = some w) (hg : isNest w = true) : w ∈ NT := lw_NT (List.mem_append_right _ (List.mem_append_left _ (List.mem_of_getElem? h))) hg
theorem inW0 {i : Nat} {w : Cond} (h : tables_1_1[i]? = some w) (hg : goodWord w = true) : w ∈ WT := lw_WT (List.mem_append_right _ (List.mem_append_left _ (List.mem_of_getElem? h))) hg
theorem inN1 {i : Nat} {w : Cond} (h : tables_1_2[i]? = some w) (hg : isNest w = true) : w ∈ NT := lw_NT (List.mem_append_right _ (List.mem_append_right _ (List.mem_append_left _ (List.mem_of_getElem? h)))) hg
theorem inW1 {i : Nat} {w : Cond} (h : tables_1_2[i]? = some w) (hg : goodWord w = true) : w ∈ WT := lw_WT (List.mem_append_right _ (List.mem_append_right _ (List.mem_append_left _ (List.mem_of_getElem? h)))) hg
theorem inN2 {i : Nat} {w : Cond} (h : tables_1_3[i]? = some w) (hg : isNest w = true) : w ∈ NT := lw_NT (List.mem_append_right _ (List.mem_append_right _ (List.mem_append_right _ (List.mem_append_left _ (List.mem_of_getElem? h))))) hg
theorem inW2 {i : Nat} {w : Cond} (h : tables_1_3[i]? = some w) (hg : goodWord w = true) : w ∈ WT := lw_WT (List.mem_append_right _ (List.mem_append_right _ (List.mem_append_right _ (List.mem_append_left _ (List.mem_of_getElem? h))))) hg
theorem inN3 {i : Nat} {w : Cond} (h : tables_1_4[i]? = some w) (hg : isNest w = true) : w ∈ NT := lw_NT (List.mem_append_right _ (List.mem_append_right _ (List.mem_append_right _ (List.mem_append_right _ (List.mem_append_left _ (List.mem_of_getElem? h)))))) hg
theorem inW3 {i : Nat} {w : Cond} (h : tables_1_4[i]? = some w) (hg : goodWord w = true) : w ∈ WT := lw_WT (List.mem_append_right _ (List.mem_append_right _ (List.mem_append_right _ (List.mem_append_right _ (List.mem_append_left _ (List.mem_of_getElem? h)))))) hg
theorem inN4 {i : Nat} {w : Cond} (h : tables_1_5[i]? = some w) (hg : isNest w = true) : w ∈ NT := lw_NT (List.mem_append_right _ (List.mem_append_right _ (List.mem_append_right _ (List.mem_append_right _ (List.mem_append_right _ (List.mem_of_getElem? h)))))) hg
theorem inW4 {i : Nat} {w : Cond} (h : tables_1_5[i]? = some w) (hg : goodWord w = true) : w ∈ WT := lw_WT (List.mem_append_right _ (List.mem_append_right _ (List.mem_append_right _ (List.mem_append_right _ (List.mem_append_right _ (List.mem_of_getElem? h)))))) hg
def AllIn : List Cond → Prop
  | [] => True
  | w :: l => w ∈ WT ∧ AllIn l
theorem allIn_mem {l : List Cond} (h : AllIn l) : ∀ w ∈ l, w ∈ WT := by
  induction l with
  | nil => intro w hw; cases hw
  | cons a t ih =>
    intro w hw
    rcases List.mem_cons.mp hw with rfl | hw
    · exact h.1
    · exact ih h.2 w hw
theorem u_in0 : ∀ w ∈ u_ws RX0 TX0 2, w ∈ WT := allIn_mem ⟨(inW0 (i := 141) rfl rfl), (inW0 (i := 143) rfl rfl), trivial⟩
theorem u_in1 : ∀ w ∈ u_ws RX1 TX1 3, w ∈ WT := allIn_mem ⟨(inW0 (i := 124) rfl rfl), (inW0 (i := 126) rfl rfl), (inW0 (i := 128) rfl rfl), trivial⟩
theorem u_in2 : ∀ w ∈ u_ws RX2 TX2 2, w ∈ WT := allIn_mem ⟨(inW0 (i := 93) rfl rfl), (inW0 (i := 95) rfl rfl), trivial⟩
theorem u_in3 : ∀ w ∈ u_ws RX3 TX3 2, w ∈ WT := allIn_mem ⟨(inW0 (i := 79) rfl rfl), (inW0 (i := 81) rfl rfl), trivial⟩
theorem u_in4 : ∀ w ∈ u_ws RX4 TX4 10, w ∈ WT := allIn_mem ⟨(inW0 (i := 45) rfl rfl), (inW0 (i := 47) rfl rfl), (inW0 (i := 49) rfl rfl), (inW0 (i := 51) rfl rfl), (inW0 (i := 53) rfl rfl), (inW0 (i := 55) rfl rfl), (inW0 (i := 57) rfl rfl), (inW0 (i := 59) rfl rfl), (inW0 (i := 61) rfl rfl), (inW0 (i := 63) rfl rfl), trivial⟩
theorem u_in5 : ∀ w ∈ u_ws RX5 TX5 2, w ∈ WT := allIn_mem ⟨(inW0 (i := 108) rfl rfl), (inW0 (i := 110) rfl rfl), trivial⟩
theorem u_in6 : ∀ w ∈ u_ws RX6 TX6 10, w ∈ WT := allIn_mem ⟨(inW0 (i := 156) rfl rfl), (inW0 (i := 158) rfl rfl), (inW0 (i := 160) rfl rfl), (inW0 (i := 162) rfl rfl), (inW0 (i := 164) rfl rfl), (inW0 (i := 166) rfl rfl), (inW0 (i := 168) rfl rfl), (inW0 (i := 170) rfl rfl), (inW0 (i := 172) rfl rfl), (inW0 (i := 174) rfl rfl), trivial⟩
theorem u_in7 : ∀ w ∈ u_ws RX7 TX7 33, w ∈ WT := allIn_mem ⟨(inW3 (i := 33) rfl rfl), (inW3 (i := 35) rfl rfl), (inW3 (i := 37) rfl rfl), (inW3 (i := 39) rfl rfl), (inW3 (i := 41) rfl rfl), (inW3 (i := 43) rfl rfl), (inW3 (i := 45) rfl rfl), (inW3 (i := 47) rfl rfl), (inW3 (i := 49) rfl rfl), (inW3 (i := 51) rfl rfl), (inW3 (i := 53) rfl rfl), (inW3 (i := 55) rfl rfl), (inW3 (i := 57) rfl rfl), (inW3 (i := 59) rfl rfl), (inW3 (i := 61) rfl rfl), (inW3 (i := 63) rfl rfl), (inW3 (i := 65) rfl rfl), (inW3 (i := 67) rfl rfl), (inW3 (i := 69) rfl rfl), (inW3 (i := 71) rfl rfl), (inW3 (i := 73) rfl rfl), (inW3 (i := 75) rfl rfl), (inW3 (i := 77) rfl rfl), (inW3 (i := 79) rfl rfl), (inW3 (i := 81) rfl rfl), (inW3 (i := 83) rfl rfl), (inW3 (i := 85) rfl rfl), (inW3 (i := 87) rfl rfl), (inW3 (i := 89) rfl rfl), (inW3 (i := 91) rfl rfl), (inW3 (i := 93) rfl rfl), (inW3 (i := 95) rfl rfl), (inW3 (i := 97) rfl rfl), trivial⟩
theorem clsF {ci : Nat} {C : String} {T : u_T} {N : Nat} (h : vwCl[ci]? = some (C, T, N)) : (∀ w ∈ u_ws C T N, w ∈ WT) ∧ (∃ ty0 : Nat → FieldType, ∀ k, k < N → parseFieldDescriptor (T k).2.2.1 = some (ty0 k)) ∧ ∀ a, a < N → ∀ b, b < N → a ≠ b → (T a).2.1 ≠ (T b).2.1 := by
  match ci, h with
  | 0, h => cases h; exact ⟨u_in0, ⟨tyX0, tyX0_ok⟩, nmX0⟩
  | 1, h => cases h; exact ⟨u_in1, ⟨tyX1, tyX1_ok⟩, nmX1⟩
  | 2, h => cases h; exact ⟨u_in2, ⟨tyX2, tyX2_ok⟩, nmX2⟩
  | 3, h => cases h; exact ⟨u_in3, ⟨tyX3, tyX3_ok⟩, nmX3⟩
  | 4, h => cases h; exact ⟨u_in4, ⟨tyX4, tyX4_ok⟩, nmX4⟩
  | 5, h => cases h; exact ⟨u_in5, ⟨tyX5, tyX5_ok⟩, nmX5⟩
  | 6, h => cases h; exact ⟨u_in6, ⟨tyX6, tyX6_ok⟩, nmX6⟩
  | 7, h => cases h; exact ⟨u_in7, ⟨tyX7, tyX7_ok⟩, nmX7⟩
  | k + 8, h => simp [vwCl] at h
theorem goodApp {big a b : List Cond} (ha : GoodIn big a) (hb : GoodIn big b) : GoodIn big (a ++ b) := fun w h => (List.mem_append.mp h).elim (ha w) (hb w)
theorem vw_cnm {k : Nat} {q : vw_C} (h : vwCl[k]? = some q) : q.1 = cnm k := by
  match k, h with
  | 0, h => cases h; rfl
  | 1, h => cases h; rfl
  | 2, h => cases h; rfl
  | 3, h => cases h; rfl
  | 4, h => cases h; rfl
  | 5, h => cases h; rfl
  | 6, h => cases h; rfl
  | 7, h => cases h; rfl
  | k + 8, h => simp [vwCl] at h
section SO
variable {M : MD} {pc n : Nat}
theorem so_getfield (x : Nat) : stepOK M pc n (.getfield x) := by
  intro i f L st h Q k hd hc ho hs hk
  simp only [chk1, Bool.and_eq_true, Bool.or_eq_true, decide_eq_true_eq] at hc
  obtain ⟨rfl, rfl⟩ := hc
  rcases f with ⟨ci, sl, z, l⟩ | q
  rotate_left
  · exact absurd hs id
  obtain ⟨C, T, N', hcl, hsl, hC, hpos⟩ := ho
  obtain ⟨r, st, rfl, hs⟩ := pA_sp hs
  obtain ⟨cj, fs, hr, hcj, hs2⟩ := gObj_sp hs
  subst hcj
  obtain ⟨v, hv, hs3⟩ := gF_sp hs2
  intro p l e s m args below meth c H locs G cI cR σ N A lsA F D E
  · obtain ⟨hu, ⟨ty0, hty⟩, hnm⟩ := clsF hcl
    have hvm : (fs.map (cv σ))[sl]? = some (cv σ v) := by rw [List.getElem?_map, hv]; rfl
    rcases hpos with hpos | hpos
    · exact va_get (Ts := WT) F.1 F.2.1 F.2.2.2.2.2.2.1 hu F.2.2.2.2.1 F.2.2.2.2.2.2.2.1 D.1 r (wd_get D.2.2.2 hr) hcl sl hsl (F.2.2.2.2.2.2.1 _ hpos) (fun x hx => by rw [← hC]; exact hx) hvm hd (hk _ _ _ hs3 p l e s m args below meth c H locs G cI cR σ N A lsA F D E)
    · exact va_getN (Ts := WT) F.1 F.2.1 F.2.2.2.2.2.2.1 hu F.2.2.2.2.1 F.2.2.2.2.2.2.2.1 D.1 r (wd_get D.2.2.2 hr) hcl sl hsl (va_Nw.use rfl (F.2.2.2.2.2.2.2.2.2 _ hpos)) (fun x hx => by rw [← hC]; exact hx) hvm hd (hk _ _ _ hs3 p l e s m args below meth c H locs G cI cR σ N A lsA F D E)
theorem fitV_sp {σ : Nat → Nat} {z : Int} {v : Value} (h : fitV z v) : narrow (tyOf z) (cv σ v) = cv σ v ∧ fits (tyOf z) (cv σ v) = true := by
  match z, v, h with
  | 0, .int x, _ => exact ⟨rfl, rfl⟩
  | 1, .int x, h =>
    have h : x.toInt = 0 ∨ x.toInt = 1 := h
    rcases h with h | h
    · rw [(i32_0 x).mpr h]; exact ⟨rfl, rfl⟩
    · rw [show x = 1 from Int32.toInt_inj.mp (by rw [h]; rfl)]; exact ⟨rfl, rfl⟩
  | 2, .ref x, _ => exact ⟨rfl, rfl⟩
theorem map_set_cv (σ : Nat → Nat) (fs : List Value) (sl : Nat) (v : Value) : (fs.map (cv σ)).set sl (cv σ v) = (sF fs sl v).map (cv σ) := by
  rw [sF_set, List.map_set]
theorem so_putfield (x : Nat) : stepOK M pc n (.putfield x) := by
  intro i f L st h Q k hd hc ho hs hk
  simp only [chk1, Bool.and_eq_true, Bool.or_eq_true, decide_eq_true_eq] at hc
  obtain ⟨rfl, rfl⟩ := hc
  rcases f with ⟨ci, sl, z, l⟩ | q
  rotate_left
  · exact absurd hs id
  obtain ⟨⟨C, T, N', hcl, hsl, hC, hpos⟩, ⟨C', T', N'', hcl', hcp⟩⟩ := ho
  rw [hcl] at hcl'
  injection hcl' with hcl'
  injection hcl' with e1 e2
  injection e2 with e2 e3
  subst e1 e2 e3
  obtain ⟨v, st, rfl, hvc, hs⟩ := pV_sp hs
  obtain ⟨r, st, rfl, hs⟩ := pA_sp hs
  obtain ⟨cj, fs, hr, hcj, hlt, hfit, hs2⟩ := gObj_sp hs
  subst hcj
  intro p l e s m args below meth c H locs G cI cR σ N A lsA F D E
  · obtain ⟨hu, ⟨ty0, hty⟩, hnm⟩ := clsF hcl
    obtain ⟨f1, f2⟩ := fitV_sp (σ := σ) hfit
    have hlen : sl < (fs.map (cv σ)).length := by rw [List.length_map]; exact hlt
    have e0 := wd_set (cI := cI) (cR := cR) (σ := σ) (N := N) (h := h) (.inr (.inr (cj, sF fs sl v))) (hB_lt D.2.2.2 hr)
    have kk : ∀ (H1 : Heap) (locs1 : List Loc), va_P G vwCl ((wd cI cR σ N h).set r (σ r, .inr (cj, (fs.map (cv σ)).set sl (cv σ v)))) H1 → va_D A ((wd cI cR σ N h).set r (σ r, .inr (cj, (fs.map (cv σ)).set sl (cv σ v)))) → va_S A s.heap H1 locs1 → W p l e (rmd (mD M)) s m args below meth c H1 locs1 0 0 (MQ below (QC G cI cR σ N A Q) args s 0 0 A) (F0 m (pc + 3) lsA (st.map (cv σ))) := by
      intro H1 locs1 hP hD hS
      rw [map_set_cv] at hP hD
      refine hk _ _ _ hs2 p l e s m args below meth c H1 locs1 G cI cR σ N A lsA F ⟨?_, ?_, hS, hB_U D.2.2.2 (hB_lt D.2.2.2 hr)⟩ E
      · rw [← e0]; exact hP
      · rw [← e0]; exact hD
    rcases hpos with hpos | hpos
    · exact va_put (Ts := WT) F.1 F.2.1 F.2.2.2.2.2.2.1 hu ty0 hty hnm F.2.2.2.2.1 F.2.2.2.2.2.2.2.1 D.1 D.2.1 D.2.2.1 r (wd_get D.2.2.2 hr) hcl sl hsl (F.2.2.2.2.2.2.1 _ hpos) (fun x hx => by rw [← hC]; exact hx) hcp.1 hcp.2 f1 f2 hlen hd kk
    · exact va_putN (Ts := WT) F.1 F.2.1 F.2.2.2.2.2.2.1 hu ty0 hty hnm F.2.2.2.2.1 F.2.2.2.2.2.2.2.1 D.1 D.2.1 D.2.2.1 r (wd_get D.2.2.2 hr) hcl sl hsl (va_Nw.use rfl (F.2.2.2.2.2.2.2.2.2 _ hpos)) (fun x hx => by rw [← hC]; exact hx) hcp.1 hcp.2 f1 f2 hlen hd kk
theorem cat_sum {σ : Nat → Nat} {st : List Value} (h : st.length ≤ 4) : ((st.map (cv σ)).map fun v => v.category).sum ≤ 8 := by
  have : ∀ st : List Value, ((st.map (cv σ)).map fun v => v.category).sum ≤ 2 * st.length := by
    intro st
    induction st with
    | nil => exact Nat.le_refl 0
    | cons v t ih =>
      have : (cv σ v).category ≤ 2 := by rcases lv_cat (cv σ v) with q | q <;> omega
      simp only [List.map_cons, List.sum_cons, List.length_cons]
      omega
  have := this st
  omega
theorem preC1_blind {G : va_G} {cI cR : ClassId} {σ : Nat → Nat} {N sz : Nat} {h : AH} {av : List Value} : FrameBlind (va_Pc av (preC1 G cI cR σ N sz h)) :=
  fun a U g mk q => ⟨q.1, q.2.1, q.2.2.1, va_K.moved (u := U) (U := U.calling g mk a) (Vm.Alike.refl U.vm) q.2.2.2.1, q.2.2.2.2.1, NW.same (s := U) (U := U.calling g mk a) rfl q.2.2.2.2.2⟩
theorem push_cv (σ : Nat → Nat) (v : Option Value) (st : List Value) : (v.map (cv σ)).toList ++ st.map (cv σ) = (pushO v st).map (cv σ) := by
  cases v <;> rfl
/-- behind a call of a method that has a contract -/
theorem call_go {p : Program} {l : Launch} {e : Env} {s : State} {m : MethodId} {args : Array Value} {below : List Frame} {meth : Method} {c : Code} {H : Heap} {locs : List Loc} {G : va_G} {cI cR : ClassId} {σ : Nat → Nat} {N : Nat} {A : Nat → Prop} {lsA : Array Slot} {L : List (Option Value)} {h : AH} {Q Q1 : Option Value → AH → Prop} {st0 : List Value} {rest : List Value} {a : Array Value}
    (F : Fix M p s m args meth c G cI cR A) (D : Dyn s G cI cR σ N A h H locs) (E : LL σ lsA (mL M) L)
    (run : va_Run p l e (rmd (mD M)) s m args below meth c H locs 0 0 0 0 (F0 m pc lsA st0) (rest.map (cv σ)) (QC G cI cR σ N (va_A (wd cI cR σ N h) H.size) Q1 a) (va_A (wd cI cR σ N h) H.size))
    (kk : ∀ v h', Q1 v h' → J M (pc + 3) L (pushO v rest) h' Q) : W p l e (rmd (mD M)) s m args below meth c H locs 0 0 (MQ below (QC G cI cR σ N A Q) args s 0 0 A) (F0 m pc lsA st0) := by
  intro T hT X
  obtain ⟨v, st₀, t, T', L', h0, X', hL, e1, e2, ⟨⟨v', h', hQ, hoc, hP', hK', hD', hB'⟩, hz, hkk⟩, st⟩ := run T hT X
  injection hoc with hoc
  subst hoc
  rw [h0] at hz hkk
  have hsub : ∀ q, va_A (wd cI cR σ N h) H.size q → A q := by
    intro q hq
    rcases hq with ⟨k, e, hk⟩ | hq
    · exact D.2.1.2 k _ hk
    · exact F.2.2.2.2.2.2.2.2.1 q (Nat.le_trans D.2.2.1.1 hq)
  have hS : va_S A s.heap T'.heap (locs ++ L') := by
    refine ⟨Nat.le_trans D.2.2.1.1 (by rw [e1]; exact hz), fun q h1 h2 => ?_, fun q hq => ?_⟩
    · rw [e1, hkk q (Nat.lt_of_lt_of_le h1 D.2.2.1.1) (fun z => h2 (hsub q z))]
      exact D.2.2.1.2.1 q h1 h2
    · rcases List.mem_append.mp hq with h | h
      · exact D.2.2.1.2.2 q h
      · exact hsub _ (hL q h)
  obtain ⟨t2, a1, b1⟩ := kk v' h' hQ p l e s m args below meth c T'.heap (locs ++ L') G cI cR σ N A lsA F ⟨by rw [e1]; exact hP', hD'.weaken (fun k q _ hq => hsub _ hq), hS, hB'⟩ E T' rfl X'
  rw [← push_cv] at a1
  exact ⟨t2, st t2 a1, b1⟩
theorem so_invokevirtual (x : Nat) : stepOK M pc n (.invokevirtual x) := by
  intro i f L st h Q k hd hc ho hs hk
  simp only [chk1, Bool.and_eq_true, Bool.or_eq_true, decide_eq_true_eq] at hc
  obtain ⟨rfl, rfl⟩ := hc
  rcases f with q | ⟨na, ci, Y⟩
  · exact absurd hs id
  obtain ⟨⟨hY, hV⟩, hn, hci, hdp⟩ := ho
  obtain ⟨bs, rest0, rfl, hlen, hs⟩ := popN_sp hs
  obtain ⟨r, rest, rfl, hs⟩ := pA_sp hs
  obtain ⟨cj, fs, hr, hcj, hrl, hs⟩ := gObj_sp hs
  rw [List.append_nil] at hs
  intro p l e s m args below meth c H locs G cI cR σ N A lsA F D E
  obtain ⟨g1, g2, g3, g4, g5, g6, g7⟩ := okM_sp hY
  have hG : GoodIn WT (wsV (cnm (mO M)) x (cnm (mO Y)) (mY Y) (wsM Y)) := by
    refine goodApp (a := [.methodLink (cnm (mO M)) x (mY Y), .instanceMethod (mY Y), .selects (cnm (mO Y)) (mY Y) (mY Y), .initialized (cnm (mO Y))]) ?_ ?_
    · intro w hw
      apply WT_good
      simp only [List.mem_cons, List.not_mem_nil, or_false] at hw
      rcases hw with rfl | rfl | rfl | rfl
      · exact hV.1
      · exact hV.2.1
      · rw [← g4]; exact hV.2.2
      · rw [← g4]; exact g2
    · intro w hw
      rcases List.mem_cons.mp hw with rfl | hw
      · exact WT_good _ g1
      · exact WT_good _ hw
  have cw : CallW (rmd (mD M)) s args (cnm (mO M)) (cnm (mO Y)) x (mY Y) (mB Y) (mL Y) (mR Y) (wsM Y) (rmd (mD Y)) 0 0 (mN Y) := cwV (mN Y) F.2.2.2.2.2.2.1 hG rfl rfl rfl ⟨g4, g5.1, g5.2, g6⟩ ⟨by show mD Y + 1 ≤ mD M; omega, by show 8 + (mL Y + 11) + 40 * mD Y ≤ 40 * mD M; omega⟩
  have hw := wd_get (cI := cI) (cR := cR) (σ := σ) D.2.2.2 hr
  obtain ⟨q, hq, -⟩ := D.1 r _ hw
  have hrecv := va_recv F.2.2.2.2.2.2.2.1 D.1 (ci := cj) (q0 := r) hq hw
  rw [vw_cnm hq, hcj, hci] at hrecv
  refine call_go F D E (Q1 := fun v h' => k L (pushO v rest) h') (rest := rest) (va_runV (As := bs.map (cv σ)) ⟨F.1, F.2.1, F.2.2.2.1, F.2.2.2.2.1, F.2.2.2.2.2.2.1⟩ (hs l G cI cR σ N H.size D.2.2.2) cw ⟨preC1_blind, hrecv, fun U hU hW => ⟨rfl, by rw [hU], by rw [hU]; exact D.1, va_K.moved hW.alike F.2.2.2.2.2.2.2.1, D.2.1.weaken (fun _ _ _ _ => trivial), NW.warm hW F.2.2.2.2.2.2.2.2.2⟩⟩ rfl (by rw [List.length_map, hlen, hn]) E.1 (by simp [cv]) (lv_room (cat_sum hrl)) hd ⟨Nat.zero_le _, Nat.zero_le _⟩) (fun v h' hq => hk _ _ _ hq)
theorem max_zI (x y : Int32) : (if x < y then y else x) = zI (max x.toInt y.toInt) := by
  by_cases h : x < y
  · rw [if_pos h, Int.max_eq_right (Int.le_of_lt (Int32.lt_iff_toInt_lt.mp h))]
    exact (Int32.ofInt_toInt y).symm
  · rw [if_neg h, Int.max_eq_left (Int.not_lt.mp (fun q => h (Int32.lt_iff_toInt_lt.mpr q)))]
    exact (Int32.ofInt_toInt x).symm
theorem min_zI (x y : Int32) : (if y < x then y else x) = zI (min x.toInt y.toInt) := by
  by_cases h : y < x
  · rw [if_pos h, Int.min_eq_right (Int.le_of_lt (Int32.lt_iff_toInt_lt.mp h))]
    exact (Int32.ofInt_toInt y).symm
  · rw [if_neg h, Int.min_eq_left (Int.not_lt.mp (fun q => h (Int32.lt_iff_toInt_lt.mpr q)))]
    exact (Int32.ofInt_toInt x).symm
theorem arrV_congr (cI : ClassId) (n : Nat) (f g : Nat → Value) (h : ∀ j, j < n → f j = g j) : arrV cI n f = arrV cI n g := by
  simp only [arrV]
  congr 2
  funext j
  exact h j.val j.isLt
theorem so_invokestatic (x : Nat) : stepOK M pc n (.invokestatic x) := by
  intro i f L st h Q k hd hc ho hs hk
  simp only [chk1, Bool.and_eq_true, Bool.or_eq_true, decide_eq_true_eq] at hc
  obtain ⟨rfl, rfl⟩ := hc
  rcases f with ⟨kk, b, z, tl⟩ | ⟨na, ci, Y⟩
  · obtain ⟨ho, hdp⟩ := ho
    match kk, ho, hs with
    | 1, ho, hs =>
      have hV := ho
      obtain ⟨y1, y2, st, rfl, hl, hs⟩ := p2_sp hs
      intro p l e s m args below meth c H locs G cI cR σ N A lsA F D E
      refine va_mmax (R := rmd (mD M)) F.1 F.2.1 (F.2.2.2.1.trans E.1.symm) F.2.2.2.2.1 (F.2.2.2.2.2.2.1 _ hV.1) (F.2.2.2.2.2.2.1 _ hV.2.1) (F.2.2.2.2.2.2.1 _ hV.2.2.1) (F.2.2.2.2.2.2.1 _ hV.2.2.2) hdp ?_ (Nat.zero_le _) (Nat.zero_le _) hd ?_
      · have := cat_sum (σ := σ) hl
        show _ ≤ 40 * mD M
        omega
      · rw [max_zI]
        exact hk _ _ _ hs p l e s m args below meth c H locs G cI cR σ N A lsA F D E
    | 2, ho, hs =>
      have hV := ho
      obtain ⟨y1, y2, st, rfl, hl, hs⟩ := p2_sp hs
      intro p l e s m args below meth c H locs G cI cR σ N A lsA F D E
      refine va_mmin (R := rmd (mD M)) F.1 F.2.1 (F.2.2.2.1.trans E.1.symm) F.2.2.2.2.1 (F.2.2.2.2.2.2.1 _ hV.1) (F.2.2.2.2.2.2.1 _ hV.2.1) (F.2.2.2.2.2.2.1 _ hV.2.2.1) (F.2.2.2.2.2.2.1 _ hV.2.2.2) hdp ?_ (Nat.zero_le _) (Nat.zero_le _) hd ?_
      · have := cat_sum (σ := σ) hl
        show _ ≤ 40 * mD M
        omega
      · rw [min_zI]
        exact hk _ _ _ hs p l e s m args below meth c H locs G cI cR σ N A lsA F D E
    | 3, ho, hs =>
      have hV := ho
      obtain ⟨dp, nn, st, rfl, hs⟩ := p2_sp hs
      obtain ⟨a, st, rfl, hs⟩ := pA_sp hs
      obtain ⟨sp, st, rfl, hs⟩ := p1_sp hs
      obtain ⟨a0, st, rfl, hs⟩ := pA_sp hs
      obtain ⟨n0, g, ha0, hs⟩ := gArr_sp hs
      obtain ⟨n1, g1, ha, hl, z1, z2, z3, hn1, hs2⟩ := gArr_sp hs
      subst hn1
      intro p l e s m args below meth c H locs G cI cR σ N A lsA F D E
      have t1 : sp.toNatClampNeg = 0 := by show sp.toInt.toNat = 0; omega
      have t2 : dp.toNatClampNeg = 0 := by show dp.toInt.toNat = 0; omega
      have t3 : nn.toNatClampNeg = n0 := by show nn.toInt.toNat = n0; omega
      have neg : ∀ y : Int32, 0 ≤ y.toInt → ¬ y < 0 := fun y hy q => by
        have := Int32.lt_iff_toInt_lt.mp q
        simp at this
        omega
      refine va_copyi (R := rmd (mD M)) F.1 F.2.1 (F.2.2.2.1.trans E.1.symm) F.2.2.2.2.1 (F.2.2.2.2.2.2.1 _ hV.1) (F.2.2.2.2.2.2.1 _ hV.2.2.2) (F.2.2.2.2.2.2.1 _ hV.2.1) (F.2.2.2.2.2.2.1 _ hV.2.2.1) F.2.2.2.2.2.2.2.1 D.1 D.2.1 D.2.2.1 a0 a 0 0 (wd_get D.2.2.2 ha0) (wd_get D.2.2.2 ha) rfl rfl rfl (neg sp (by omega)) (neg dp (by omega)) (neg nn (by omega)) (by omega) (by omega) (fun _ _ => rfl) hdp ?_ hd (fun H1 locs1 hP hD hS => ?_)
      · have := cat_sum (σ := σ) hl
        have : nativeFrameWords "java/lang/System" "arraycopy" 5 = 7 := by decide +kernel
        show _ ≤ 40 * mD M
        omega
      · have e0 := wd_set (cI := cI) (cR := cR) (σ := σ) (N := N) (h := h) (.inl (n0, g)) (hB_lt D.2.2.2 ha)
        rw [t1, t2, t3] at hP hD
        have hca : vp_cell cI (n0, .inl (va_cpy g g1 0 0 n0)) = vp_cell cI (n0, .inl g) := by
          rw [vp_cell_i, vp_cell_i]
          refine arrV_congr _ _ _ _ (fun j hj => ?_)
          simp only [va_cpy]
          rw [if_pos (by omega)]
          simp
        refine hk _ _ _ hs2 p l e s m args below meth c H1 locs1 G cI cR σ N A lsA F ⟨?_, ?_, hS, hB_U D.2.2.2 (hB_lt D.2.2.2 ha)⟩ E
        · rw [← e0]
          intro k q hq
          have hlen : a < (wd cI cR σ N h).length := by
            have := wd_get (cI := cI) (cR := cR) (σ := σ) D.2.2.2 ha
            exact (List.getElem?_eq_some_iff.mp this).1
          by_cases hka : k = a
          · subst hka
            have h1 := hP k (σ k, .inl (cI, n0, .inl (va_cpy g g1 0 0 n0))) (by simp [hlen])
            have h2 : q = (σ k, ce cI cR σ (.inl (n0, g))) := by
              rw [List.getElem?_set_self hlen] at hq
              exact (Option.some.inj hq).symm
            subst h2
            have h3 : H1[σ k]? = some (vp_cell cI (n0, .inl (va_cpy g g1 0 0 n0))) := h1
            rw [hca] at h3
            exact h3
          · refine hP k q ?_
            rw [List.getElem?_set_ne (fun z => hka z.symm)] at hq ⊢
            exact hq
        · rw [← e0]
          refine ⟨fun i j x y hx hy hxy => ?_, fun k q hq => ?_⟩
          · have up : ∀ {i : Nat} {x : Nat × va_E}, ((wd cI cR σ N h).set a (σ a, ce cI cR σ (.inl (n0, g))))[i]? = some x → ∃ x', ((wd cI cR σ N h).set a (σ a, .inl (cI, n0, .inl (va_cpy g g1 0 0 n0))))[i]? = some x' ∧ x'.1 = x.1 := by
              intro i x hx
              by_cases hia : i = a
              · subst hia
                have hlen := (List.getElem?_eq_some_iff.mp hx).1
                rw [List.length_set] at hlen
                rw [List.getElem?_set_self hlen] at hx
                exact ⟨_, List.getElem?_set_self hlen, by rw [← Option.some.inj hx]⟩
              · rw [List.getElem?_set_ne (fun z => hia z.symm)] at hx
                exact ⟨x, by rw [List.getElem?_set_ne (fun z => hia z.symm)]; exact hx, rfl⟩
            obtain ⟨x', hx', ex⟩ := up hx
            obtain ⟨y', hy', ey⟩ := up hy
            exact hD.1 i j x' y' hx' hy' (by rw [ex, ey, hxy])
          · by_cases hka : k = a
            · subst hka
              have hlen := (List.getElem?_eq_some_iff.mp hq).1
              rw [List.length_set] at hlen
              rw [List.getElem?_set_self hlen] at hq
              have := hD.2 k (σ k, .inl (cI, n0, .inl (va_cpy g g1 0 0 n0))) (List.getElem?_set_self hlen)
              rw [← Option.some.inj hq]
              exact this
            · refine hD.2 k q ?_
              rw [List.getElem?_set_ne (fun z => hka z.symm)] at hq ⊢
              exact hq
  · obtain ⟨⟨hY, hV⟩, hn, hdp⟩ := ho
    obtain ⟨bs, rest, rfl, hlen, hrl, hs⟩ := popN_sp hs
    rw [List.append_nil] at hs
    intro p l e s m args below meth c H locs G cI cR σ N A lsA F D E
    obtain ⟨g1, g2, g3, g4, g5, g6, g7⟩ := okM_sp hY
    have hG : GoodIn WT (wsM Y) := by
      intro w hw
      rcases List.mem_cons.mp hw with rfl | hw
      · exact WT_good _ g1
      · exact WT_good _ hw
    have hRm : (rmd (mD Y)).frames + 1 ≤ (rmd (mD M)).frames ∧ 8 + (mL Y + 11) + (rmd (mD Y)).locals ≤ (rmd (mD M)).locals := ⟨by show mD Y + 1 ≤ mD M; omega, by show 8 + (mL Y + 11) + 40 * mD Y ≤ 40 * mD M; omega⟩
    have hpre : PreS s H (va_Pc ((bs.map (cv σ))) (preC1 G cI cR σ N H.size h)) (bs.map (cv σ)) := ⟨preC1_blind, fun U hU hW => ⟨rfl, by rw [hU], by rw [hU]; exact D.1, va_K.moved hW.alike F.2.2.2.2.2.2.2.1, D.2.1.weaken (fun _ _ _ _ => trivial), NW.warm hW F.2.2.2.2.2.2.2.2.2⟩⟩
    rcases hV with ⟨hV | hV, hst⟩
    · have cw : CallB (rmd (mD M)) s args (cnm (mO M)) x (mY Y) (mB Y) (mL Y) (mR Y) (wsM Y) (rmd (mD Y)) 0 0 (mN Y) ∧ (Cond.static (mY Y)).before args s = true := ⟨callB_of (mN Y) F.2.2.2.2.2.2.1 hG rfl rfl rfl (F.2.2.2.2.2.2.1 _ g2) (F.2.2.2.2.2.2.1 _ hV) ⟨g5.1, g5.2, g6⟩ hRm, F.2.2.2.2.2.2.1 _ hst⟩
      exact call_go F D E (Q1 := fun v h' => k L (pushO v rest) h') (rest := rest) (va_runS (As := bs.map (cv σ)) ⟨F.1, F.2.1, F.2.2.2.1, F.2.2.2.2.1, F.2.2.2.2.2.2.1⟩ (hs l G cI cR σ N H.size D.2.2.2) cw hpre rfl (by rw [List.length_map, hlen, hn]) E.1 (by simp) (lv_room (cat_sum hrl)) hd ⟨Nat.zero_le _, Nat.zero_le _⟩) (fun v h' hq => hk _ _ _ hq)
    · have cw : va_CN (rmd (mD M)) s args (cnm (mO M)) x (mY Y) RX6 (mB Y) (mL Y) (mR Y) (wsM Y) (rmd (mD Y)) 0 0 (mN Y) ∧ (Cond.static (mY Y)).before args s = true ∧ True := ⟨va_cnB (mN Y) F.2.2.2.2.2.2.1 hG rfl rfl rfl (F.2.2.2.2.2.2.2.2.2 _ hV) (F.2.2.2.2.2.2.1 _ g2) ⟨g5.1, g5.2, g6⟩ hRm, F.2.2.2.2.2.2.1 _ hst, trivial⟩
      exact call_go F D E (Q1 := fun v h' => k L (pushO v rest) h') (rest := rest) (va_runSN (As := bs.map (cv σ)) ⟨F.1, F.2.1, F.2.2.2.1, F.2.2.2.2.1, F.2.2.2.2.2.2.1⟩ (hs l G cI cR σ N H.size D.2.2.2) cw hpre rfl (by rw [List.length_map, hlen, hn]) E.1 (by simp) (lv_room (cat_sum hrl)) hd ⟨Nat.zero_le _, Nat.zero_le _⟩) (fun v h' hq => hk _ _ _ hq)
end SO
theorem J_step {M : MD} {pc n : Nat} (i' : Instr) : stepOK M pc n i' := by
  cases i'
  case iload_n a => exact so_iload_n a
  case iload a => exact so_iload a
  case lload_n a => exact so_lload_n a
  case lload a => exact so_lload a
  case aload_n a => exact so_aload_n a
  case aload a => exact so_aload a
  case istore_n a => exact so_istore_n a
  case istore a => exact so_istore a
  case astore_n a => exact so_astore_n a
  case astore a => exact so_astore a
  case lstore_n a => exact so_lstore_n a
  case lstore a => exact so_lstore a
  case iinc a b => exact so_iinc a b
  case iconst a => exact so_iconst a
  case bipush a => exact so_bipush a
  case sipush a => exact so_sipush a
  case ldc a => exact so_ldc a
  case ldc_w a => exact so_ldc_w a
  case ldc2_w a => exact so_ldc2_w a
  case lconst a => exact so_lconst a
  case iadd => exact so_iadd
  case isub => exact so_isub
  case imul => exact so_imul
  case iand => exact so_iand
  case ior => exact so_ior
  case ixor => exact so_ixor
  case ishl => exact so_ishl
  case ishr => exact so_ishr
  case ladd => exact so_ladd
  case lsub => exact so_lsub
  case lmul => exact so_lmul
  case iushr => exact so_iushr
  case idiv => exact so_idiv
  case irem => exact so_irem
  case ineg => exact so_ineg
  case i2l => exact so_i2l
  case ldiv => exact so_ldiv
  case lrem => exact so_lrem
  case lcmp => exact so_lcmp
  case dup => exact so_dup
  case dup2 => exact so_dup2
  case pop => exact so_pop
  case arraylength => exact so_arraylength
  case iaload => exact so_iaload
  case iastore => exact so_iastore
  case aaload => exact so_aaload
  case aastore => exact so_aastore
  case goto a => exact so_goto a
  case ifCond a b => exact so_ifCond a b
  case if_icmp a b => exact so_if_icmp a b
  case ifnull a => exact so_ifnull a
  case ifnonnull a => exact so_ifnonnull a
  case tableswitch a b c d => exact so_tableswitch a b c d
  case ireturn => exact so_ireturn
  case lreturn => exact so_lreturn
  case return_ => exact so_return_
  case getfield a => exact so_getfield a
  case putfield a => exact so_putfield a
  case invokevirtual a => exact so_invokevirtual a
  case invokestatic a => exact so_invokestatic a
  all_goals (intro i f L st h Q k hd hc; exact absurd hc (by simp [chk1]))
abbrev BI : Type := Instr × Nat × INF
def chkB (M : MD) : Nat → List BI → Bool
  | _, [] => true
  | pc, e :: b => (match decode (mB M) pc with | .ok (i', n) => decide (n = e.2.1) && chk1 M pc i' n e.1 e.2.2 | .error _ => false) && chkB M (pc + e.2.1) b
def okB (M : MD) : List BI → Prop
  | [] => True
  | e :: b => okI M e.1 e.2.2 ∧ okB M b
def wpL (M : MD) (pc : Nat) (b : List BI) (L : List (Option Value)) (st : List Value) (h : AH) (Q : Option Value → AH → Prop) : Prop := match b with
  | [] => J M pc L st h Q
  | e :: b => sem M pc e.1 e.2.2 L st h Q fun L' st' h' => wpL M (pc + e.2.1) b L' st' h' Q
theorem J_blk {M : MD} {pc : Nat} {b : List BI} {L : List (Option Value)} {st : List Value} {h : AH} {Q : Option Value → AH → Prop} (hc : chkB M pc b = true) (ho : okB M b) (hw : wpL M pc b L st h Q) : J M pc L st h Q := by
  induction b generalizing pc L st h with
  | nil => exact hw
  | cons e b ih =>
    simp only [chkB, Bool.and_eq_true] at hc
    obtain ⟨hc1, hc2⟩ := hc
    split at hc1
    · rename_i i' n hd
      simp only [Bool.and_eq_true, decide_eq_true_eq] at hc1
      obtain ⟨rfl, hc1⟩ := hc1
      exact J_step i' e.1 e.2.2 L st h Q _ hd hc1 ho.1 hw (fun L' st' h' hk => ih hc2 ho.2 hk)
    · cases hc1
theorem J_blk' {M : MD} {pc : Nat} {b : List BI} {L : List (Option Value)} {st : List Value} {h : AH} {Q : Option Value → AH → Prop} (hw : wpL M pc b L st h Q) (hc : chkB M pc b = true) (ho : okB M b) : J M pc L st h Q := J_blk hc ho hw
