/-! ===== class and reference, one behind the other, from states that stand for the same ===== -/
theorem XW.hi {R I : RR} {im : Int} {P : Nat → RR} {pz : Int} {lt : Nat → Int} {lsz : Int} {tn : Nat → Int} {tsz : Int} {rf : Nat → Int} {hM h : AH} (W : (XW R I im P pz lt lsz tn tsz rf hM h)) {k : Nat} (hk : 90 ≤ k) : h k = hM k := by
  obtain ⟨rs, pi, g1, g2, sd, rfl, hA, e0, e2, eP, hP⟩ := W
  show (if k < 90 then _ else hM k) = _
  rw [if_neg (by omega)]
theorem XW.gp {R I : RR} {im : Int} {P : Nat → RR} {pz : Int} {lt : Nat → Int} {lsz : Int} {tn : Nat → Int} {tsz : Int} {rf : Nat → Int} {hM h : AH} (W : (XW R I im P pz lt lsz tn tsz rf hM h)) : 0 ≤ pz ∧ pz ≤ 8 := by
  obtain ⟨rs, pi, g1, g2, sd, rfl, hA, e0, e2, eP, hP⟩ := W
  exact hP.1
theorem XW.re {R I : RR} {im : Int} {P : Nat → RR} {pz : Int} {lt : Nat → Int} {lsz : Int} {tn : Nat → Int} {tsz : Int} {rf : Nat → Int} {hM h : AH} {g : AH} (W : (XW R I im P pz lt lsz tn tsz rf hM h)) (e : ∀ k, 90 ≤ k → h k = g k) : (XW R I im P pz lt lsz tn tsz rf (g) h) := by
  have e2 := fun k hk => (W.hi (k := k) hk).symm.trans (e k hk)
  obtain ⟨rs, pi, g1, g2, sd, rfl, hA, q0, q2, eP, hP⟩ := W
  refine ⟨rs, pi, g1, g2, sd, ?_, hA, q0, q2, eP, hP⟩
  funext k
  show (if k < 90 then _ else hM k) = (if k < 90 then _ else g k)
  by_cases c : k < 90
  · rw [if_pos c, if_pos c]
  · rw [if_neg c, if_neg c]
    exact e2 k (by omega)
theorem XW.mv {R I : RR} {im : Int} {P : Nat → RR} {pz : Int} {lt : Nat → Int} {lsz : Int} {tn : Nat → Int} {tsz : Int} {rf : Nat → Int} {hM h : AH} {g : AH} (W : (XW R I im P pz lt lsz tn tsz rf hM h)) (e : ∀ k, k < 90 → g k = h k) : (XW R I im P pz lt lsz tn tsz rf (g) g) := by
  obtain ⟨rs, pi, g1, g2, sd, rfl, hA, q0, q2, eP, hP⟩ := W
  refine ⟨rs, pi, g1, g2, sd, ?_, hA, q0, q2, eP, hP⟩
  funext k
  show g k = (if k < 90 then _ else g k)
  by_cases c : k < 90
  · rw [if_pos c, e k c]
    show (if k < 90 then _ else hM k) = _
    rw [if_pos c]
  · rw [if_neg c]
theorem MW.lo {R I : RR} {im : Int} {P : Nat → RR} {pz : Int} {lt : Nat → Int} {lsz : Int} {tn : Nat → Int} {tsz : Int} {rf : Nat → Int} {bb h : AH} (W : (MW R I im P pz lt lsz tn tsz rf bb h)) {k : Nat} (hk : k < 90) : h k = bb k := by
  obtain ⟨a0, ib, sm, pl, lo, nu, kp, ig, p0, tk, ki, tu, tf, ga, sd, rfl, hIg, hTu, hPz⟩ := W
  exact hM_low hk
theorem MW.mv {R I : RR} {im : Int} {P : Nat → RR} {pz : Int} {lt : Nat → Int} {lsz : Int} {tn : Nat → Int} {tsz : Int} {rf : Nat → Int} {bb h : AH} {g : AH} (W : (MW R I im P pz lt lsz tn tsz rf bb h)) (e : ∀ k, 90 ≤ k → g k = h k) : (MW R I im P pz lt lsz tn tsz rf (g) g) := by
  obtain ⟨a0, ib, sm, pl, lo, nu, kp, ig, p0, tk, ki, tu, tf, ga, sd, rfl, hIg, hTu, hPz⟩ := W
  refine ⟨a0, ib, sm, pl, lo, nu, kp, ig, p0, tk, ki, tu, tf, ga, sd, ?_, hIg, hTu, hPz⟩
  funext k
  by_cases c : k < 90
  · rw [hM_low c]
  · rw [e k (by omega)]
    simp only [HM]
    rw [if_neg c, if_neg c]
def GD (R : RR) : Prop := GI R ∧ 0 ≤ rDay R ∧ rDay R ≤ 999
def PS (f : Prop) (h : AH) : Prop := ∃ (R I : RR) (im : Int) (P : Nat → RR) (pz : Int) (lt : Nat → Int) (lsz : Int) (tn : Nat → Int) (tsz : Int) (rf : Nat → Int), (∃ hM, (XW R I im P pz lt lsz tn tsz rf hM h)) ∧ (∃ bb, (MW R I im P pz lt lsz tn tsz rf bb h)) ∧ GD R ∧ GD I ∧ (∀ i : Nat, (i : Int) < pz → GD (P i)) ∧ (im = 0 ∨ im = 1) ∧ GL lt lsz ∧ GT tn tsz ∧ (f → rMen R = 0)
/-- behind the class's call: what it answered, and what the reference's call then does -/
def PI (Y : MD) (as : List Value) (e : Prop) : Option Value → AH → Prop := fun v h1 => ∃ z : Int32, v = some (.int z) ∧ (∃ fs, h1 90 = some (.inr (.inr (7, fs)))) ∧ Con Y as h1 (fun v' h2 => ∃ z' : Int32, v' = some (.int z') ∧ (e → z = z') ∧ PS False h2)
def PJ (Y : MD) (as : List Value) (e : Prop) : Option Value → AH → Prop := fun v h1 => ∃ z : Int64, v = some (.long z) ∧ (∃ fs, h1 90 = some (.inr (.inr (7, fs)))) ∧ Con Y as h1 (fun v' h2 => ∃ z' : Int64, v' = some (.long z') ∧ (e → z = z') ∧ PS False h2)
theorem MW.c90 {R I : RR} {im : Int} {P : Nat → RR} {pz : Int} {lt : Nat → Int} {lsz : Int} {tn : Nat → Int} {tsz : Int} {rf : Nat → Int} {bb h : AH} (W : (MW R I im P pz lt lsz tn tsz rf bb h)) : ∃ fs, h 90 = some (.inr (.inr (7, fs))) := by
  obtain ⟨a0, ib, sm, pl, lo, nu, kp, ig, p0, tk, ki, tu, tf, ga, sd, rfl, hIg, hTu, hPz⟩ := W
  exact ⟨_, hM_90⟩
theorem PS.c78 {f : Prop} {h : AH} (S : PS f h) : ∃ fs, h 78 = some (.inr (.inr (6, fs))) := by
  obtain ⟨R, I, im, P, pz, lt, lsz, tn, tsz, rf, ⟨hM, WX⟩, -⟩ := S
  obtain ⟨rs, pi, g1, g2, sd, rfl, hA, e0, e2, eP, hP⟩ := WX
  exact ⟨_, hX_78⟩
theorem ps_of {R I : RR} {im : Int} {P : Nat → RR} {pz : Int} {lt : Nat → Int} {lsz : Int} {tn : Nat → Int} {tsz : Int} {rf : Nat → Int} {hM bb h : AH} (WX : (XW R I im P pz lt lsz tn tsz rf hM h)) (WM : (MW R I im P pz lt lsz tn tsz rf bb h)) (hR : GD R) (hI : GD I) (hP : ∀ i : Nat, (i : Int) < pz → GD (P i)) (him : im = 0 ∨ im = 1) (hL : GL lt lsz) (hT : GT tn tsz) : PS False h :=
  ⟨R, I, im, P, pz, lt, lsz, tn, tsz, rf, ⟨_, WX⟩, ⟨_, WM⟩, hR, hI, hP, him, hL, hT, fun q => absurd q id⟩
theorem PS.any {f : Prop} {h : AH} (hf : ¬ f) (S : PS False h) : PS f h := by
  obtain ⟨R, I, im, P, pz, lt, lsz, tn, tsz, rf, WX, WM, hR, hI, hP, him, hL, hT, _⟩ := S
  exact ⟨R, I, im, P, pz, lt, lsz, tn, tsz, rf, WX, WM, hR, hI, hP, him, hL, hT, fun q => absurd q hf⟩
theorem gl_feed {lt : Nat → Int} {lsz c : Int} (hL : GL lt lsz) (hc : 0 ≤ c ∧ c ≤ 255) (hz : lsz ≠ 96) : GL (upI lt lsz.toNat c) (lsz + 1) := by
  have := hL.1
  exact ⟨by omega, upI_rng hL.2 hc _⟩
theorem gt_row {tn : Nat → Int} {tsz v : Int} (hT : GT tn tsz) (h1 : ¬ v < 0) (h2 : ¬ 99 < v) (h3 : ¬ tsz = 12) : GT (upI tn tsz.toNat v) (tsz + 1) := by
  have := hT.1
  exact ⟨by omega, upI_rng hT.2 (by omega) _⟩
theorem gd_fa {R : RR} {m : Int} (hR : GD R) (c0 : hasP R m) (c1 : rFa R m.toNat ≠ 2) : GD (sFa R (upI (rFa R) m.toNat (1 - rFa R m.toNat))) := by
  have gm := hR.1.1.men
  have gf := hR.1.1.fa m.toNat
  unfold hasP at c0
  exact ⟨hR.1.setFa _ (by omega) (by omega) c1, hR.2⟩
theorem gd_days {R : RR} {n : Int} (hR : GD R) (c0 : ¬ n < 1) (c2 : ¬ 999 < rDay R + n) : GD (daysX R n.toNat) := by
  have := hR.2
  refine ⟨hR.1.dsX _, ?_⟩
  rw [daysX_day]
  omega
theorem gd_push {R : RR} {P : Nat → RR} {pz : Int} (hR : GD R) (hP : ∀ i : Nat, (i : Int) < pz → GD (P i)) (gp : 0 ≤ pz ∧ pz ≤ 8) : ∀ i : Nat, (i : Int) < min 8 (pz + 1) → GD (pushP P pz R i) := by
  intro i hi
  simp only [pushP]
  by_cases c : pz < 8
  · rw [if_pos c]
    split
    · exact hR
    · exact hP i (by omega)
  · rw [if_neg c]
    split
    · exact hR
    · exact hP _ (by omega)
theorem pr_feed {fz : Prop} {h : AH} {c : Int} (hc : inI c) (S : PS fz h) : Con M_X_feed [.ref 78, .int (zI c)] h (PI M_M_feed [.ref 90, .int (zI c)] True) := by
  obtain ⟨R, I, im, P, pz, lt, lsz, tn, tsz, rf, ⟨hM, WX⟩, ⟨bb, WM⟩, hR, hI, hP, him, hL, hT, hfz⟩ := S
  have gp := WX.gp
  refine X_feed hc hL (WX.re (fun _ _ => rfl)) ?_ ?_ ?_
  · intro c0 h1 W1
    refine ⟨_, rfl, (WM.mv (fun k hk => W1.hi hk)).c90, ?_⟩
    refine M_feed hc hL hR.1  (WM.mv (fun k hk => W1.hi hk)) ?_ ?_ ?_
    · intro d0 h2 W2
      refine ⟨_, rfl, fun _ => rfl, ?_⟩
      refine ps_of (W1.mv (fun k hk => W2.lo hk)) W2 ?_ ?_ ?_ ?_ ?_ ?_
      · exact hR
      · exact hI
      · exact hP
      · exact him
      · exact hL
      · exact hT
    · intro d0 d1 h2 W2
      exfalso; clear W1 W2 WX WM; (try simp only [hasP] at *); omega
    · intro d0 d1 d2 h2 W2
      exfalso; clear W1 W2 WX WM; (try simp only [hasP] at *); omega
  · intro c0 c1 h1 W1
    refine ⟨_, rfl, (WM.mv (fun k hk => W1.hi hk)).c90, ?_⟩
    refine M_feed hc hL hR.1  (WM.mv (fun k hk => W1.hi hk)) ?_ ?_ ?_
    · intro d0 h2 W2
      exfalso; clear W1 W2 WX WM; (try simp only [hasP] at *); omega
    · intro d0 d1 h2 W2
      refine ⟨_, rfl, fun _ => rfl, ?_⟩
      refine ps_of (W1.mv (fun k hk => W2.lo hk)) W2 ?_ ?_ ?_ ?_ ?_ ?_
      · exact hR
      · exact hI
      · exact hP
      · exact him
      · exact hL
      · exact hT
    · intro d0 d1 d2 h2 W2
      exfalso; clear W1 W2 WX WM; (try simp only [hasP] at *); omega
  · intro c0 c1 c2 h1 W1
    refine ⟨_, rfl, (WM.mv (fun k hk => W1.hi hk)).c90, ?_⟩
    refine M_feed hc hL hR.1  (WM.mv (fun k hk => W1.hi hk)) ?_ ?_ ?_
    · intro d0 h2 W2
      exfalso; clear W1 W2 WX WM; (try simp only [hasP] at *); omega
    · intro d0 d1 h2 W2
      exfalso; clear W1 W2 WX WM; (try simp only [hasP] at *); omega
    · intro d0 d1 d2 h2 W2
      refine ⟨_, rfl, fun _ => rfl, ?_⟩
      refine ps_of (W1.mv (fun k hk => W2.lo hk)) W2 ?_ ?_ ?_ ?_ ?_ ?_
      · exact hR
      · exact hI
      · exact hP
      · exact him
      · exact gl_feed hL (by omega) (by omega)
      · exact hT
theorem pr_reign {fz : Prop} {h : AH}  (S : PS fz h) : Con M_X_reign [.ref 78] h (PI M_M_reign [.ref 90] True) := by
  obtain ⟨R, I, im, P, pz, lt, lsz, tn, tsz, rf, ⟨hM, WX⟩, ⟨bb, WM⟩, hR, hI, hP, him, hL, hT, hfz⟩ := S
  have gp := WX.gp
  refine X_reign hL hR.2 (WX.re (fun _ _ => rfl)) ?_ ?_ ?_
  · intro c0 h1 W1
    refine ⟨_, rfl, (WM.mv (fun k hk => W1.hi hk)).c90, ?_⟩
    refine M_reign hL hR.2 hR.1  (WM.mv (fun k hk => W1.hi hk)) ?_ ?_ ?_
    · intro d0 h2 W2
      refine ⟨_, rfl, fun _ => rfl, ?_⟩
      refine ps_of (W1.mv (fun k hk => W2.lo hk)) W2 ?_ ?_ ?_ ?_ ?_ ?_
      · exact hR
      · exact hI
      · exact hP
      · exact him
      · exact ⟨by omega, hL.2⟩
      · exact hT
    · intro d0 d1 h2 W2
      exfalso; clear W1 W2 WX WM; (try simp only [hasP] at *); omega
    · intro d0 d1 d2 d3 d4 h2 W2
      exfalso; clear W1 W2 WX WM; (try simp only [hasP] at *); omega
  · intro c0 c1 h1 W1
    refine ⟨_, rfl, (WM.mv (fun k hk => W1.hi hk)).c90, ?_⟩
    refine M_reign hL hR.2 hR.1  (WM.mv (fun k hk => W1.hi hk)) ?_ ?_ ?_
    · intro d0 h2 W2
      exfalso; clear W1 W2 WX WM; (try simp only [hasP] at *); omega
    · intro d0 d1 h2 W2
      refine ⟨_, rfl, fun _ => rfl, ?_⟩
      refine ps_of (W1.mv (fun k hk => W2.lo hk)) W2 ?_ ?_ ?_ ?_ ?_ ?_
      · exact hR
      · exact hI
      · exact hP
      · exact him
      · exact ⟨by omega, hL.2⟩
      · exact hT
    · intro d0 d1 d2 d3 d4 h2 W2
      exfalso; clear W1 W2 WX WM; (try simp only [hasP] at *); omega
  · intro c0 c1 c2 c3 c4 h1 W1
    refine ⟨_, rfl, (WM.mv (fun k hk => W1.hi hk)).c90, ?_⟩
    refine M_reign hL hR.2 hR.1  (WM.mv (fun k hk => W1.hi hk)) ?_ ?_ ?_
    · intro d0 h2 W2
      exfalso; clear W1 W2 WX WM; (try simp only [hasP] at *); omega
    · intro d0 d1 h2 W2
      exfalso; clear W1 W2 WX WM; (try simp only [hasP] at *); omega
    · intro d0 d1 d2 d3 d4 h2 W2
      refine ⟨_, rfl, fun _ => rfl, ?_⟩
      refine ps_of (W1.mv (fun k hk => W2.lo hk)) W2 ?_ ?_ ?_ ?_ ?_ ?_
      · exact ⟨d2, d3, d4⟩
      · exact hI
      · exact fun i hi => absurd hi (by omega)
      · exact him
      · exact ⟨by omega, hL.2⟩
      · exact hT
theorem pr_manOf {fz : Prop} {h : AH} {m w : Int} (hm : inI m) (hw : inI w) (S : PS fz h) : Con M_X_manOf [.ref 78, .int (zI m), .int (zI w)] h (PI M_M_manOf [.ref 90, .int (zI m), .int (zI w)] True) := by
  obtain ⟨R, I, im, P, pz, lt, lsz, tn, tsz, rf, ⟨hM, WX⟩, ⟨bb, WM⟩, hR, hI, hP, him, hL, hT, hfz⟩ := S
  have gp := WX.gp
  refine X_manOf hm hw (WX.re (fun _ _ => rfl)) ?_ ?_ ?_
  · intro c0 h1 W1
    refine ⟨_, rfl, (WM.mv (fun k hk => W1.hi hk)).c90, ?_⟩
    refine M_manOf hm hw hR.1  (WM.mv (fun k hk => W1.hi hk)) ?_ ?_ ?_
    · intro d0 h2 W2
      refine ⟨_, rfl, fun _ => rfl, ?_⟩
      refine ps_of (W1.mv (fun k hk => W2.lo hk)) W2 ?_ ?_ ?_ ?_ ?_ ?_
      · exact hR
      · exact hI
      · exact hP
      · exact him
      · exact hL
      · exact hT
    · intro d0 d1 h2 W2
      exfalso; clear W1 W2 WX WM; (try simp only [hasP] at *); omega
    · intro d0 d1 h2 W2
      exfalso; clear W1 W2 WX WM; (try simp only [hasP] at *); omega
  · intro c0 c1 h1 W1
    refine ⟨_, rfl, (WM.mv (fun k hk => W1.hi hk)).c90, ?_⟩
    refine M_manOf hm hw hR.1  (WM.mv (fun k hk => W1.hi hk)) ?_ ?_ ?_
    · intro d0 h2 W2
      exfalso; clear W1 W2 WX WM; (try simp only [hasP] at *); omega
    · intro d0 d1 h2 W2
      refine ⟨_, rfl, fun _ => rfl, ?_⟩
      refine ps_of (W1.mv (fun k hk => W2.lo hk)) W2 ?_ ?_ ?_ ?_ ?_ ?_
      · exact hR
      · exact hI
      · exact hP
      · exact him
      · exact hL
      · exact hT
    · intro d0 d1 h2 W2
      exfalso; clear W1 W2 WX WM; (try simp only [hasP] at *); omega
  · intro c0 c1 h1 W1
    refine ⟨_, rfl, (WM.mv (fun k hk => W1.hi hk)).c90, ?_⟩
    refine M_manOf hm hw hR.1  (WM.mv (fun k hk => W1.hi hk)) ?_ ?_ ?_
    · intro d0 h2 W2
      exfalso; clear W1 W2 WX WM; (try simp only [hasP] at *); omega
    · intro d0 d1 h2 W2
      exfalso; clear W1 W2 WX WM; (try simp only [hasP] at *); omega
    · intro d0 d1 h2 W2
      refine ⟨_, rfl, fun _ => rfl, ?_⟩
      refine ps_of (W1.mv (fun k hk => W2.lo hk)) W2 ?_ ?_ ?_ ?_ ?_ ?_
      · exact hR
      · exact hI
      · exact hP
      · exact him
      · exact hL
      · exact hT
theorem pr_slope {fz : Prop} {h : AH} {s : Int} (hs : inI s) (S : PS fz h) : Con M_X_slope [.ref 78, .int (zI s)] h (PI M_M_slope [.ref 90, .int (zI s)] True) := by
  obtain ⟨R, I, im, P, pz, lt, lsz, tn, tsz, rf, ⟨hM, WX⟩, ⟨bb, WM⟩, hR, hI, hP, him, hL, hT, hfz⟩ := S
  have gp := WX.gp
  refine X_slope hs (WX.re (fun _ _ => rfl)) ?_ ?_
  · intro c0 h1 W1
    refine ⟨_, rfl, (WM.mv (fun k hk => W1.hi hk)).c90, ?_⟩
    refine M_slope hs hR.1  (WM.mv (fun k hk => W1.hi hk)) ?_ ?_
    · intro d0 h2 W2
      refine ⟨_, rfl, fun _ => rfl, ?_⟩
      refine ps_of (W1.mv (fun k hk => W2.lo hk)) W2 ?_ ?_ ?_ ?_ ?_ ?_
      · exact hR
      · exact hI
      · exact hP
      · exact him
      · exact hL
      · exact hT
    · intro d0 h2 W2
      exfalso; clear W1 W2 WX WM; (try simp only [hasP] at *); omega
  · intro c0 h1 W1
    refine ⟨_, rfl, (WM.mv (fun k hk => W1.hi hk)).c90, ?_⟩
    refine M_slope hs hR.1  (WM.mv (fun k hk => W1.hi hk)) ?_ ?_
    · intro d0 h2 W2
      exfalso; clear W1 W2 WX WM; (try simp only [hasP] at *); omega
    · intro d0 h2 W2
      refine ⟨_, rfl, fun _ => rfl, ?_⟩
      refine ps_of (W1.mv (fun k hk => W2.lo hk)) W2 ?_ ?_ ?_ ?_ ?_ ?_
      · exact hR
      · exact hI
      · exact hP
      · exact him
      · exact hL
      · exact hT
theorem pr_man {fz : Prop} {h : AH} {k f : Int} (hk : inI k) (hf : inI f) (S : PS fz h) : Con M_X_man [.ref 78, .int (zI k), .int (zI f)] h (PI M_M_man [.ref 90, .int (zI k), .int (zI f)] True) := by
  obtain ⟨R, I, im, P, pz, lt, lsz, tn, tsz, rf, ⟨hM, WX⟩, ⟨bb, WM⟩, hR, hI, hP, him, hL, hT, hfz⟩ := S
  have gp := WX.gp
  refine X_man hk hf (WX.re (fun _ _ => rfl)) ?_ ?_ ?_ ?_
  · intro c0 h1 W1
    refine ⟨_, rfl, (WM.mv (fun k hk => W1.hi hk)).c90, ?_⟩
    refine M_man hk hf hR.1  (WM.mv (fun k hk => W1.hi hk)) ?_ ?_ ?_ ?_
    · intro d0 h2 W2
      refine ⟨_, rfl, fun _ => rfl, ?_⟩
      refine ps_of (W1.mv (fun k hk => W2.lo hk)) W2 ?_ ?_ ?_ ?_ ?_ ?_
      · exact hR
      · exact hI
      · exact hP
      · exact him
      · exact hL
      · exact hT
    · intro d0 d1 h2 W2
      exfalso; clear W1 W2 WX WM; (try simp only [hasP] at *); omega
    · intro d0 d1 d2 h2 W2
      exfalso; clear W1 W2 WX WM; (try simp only [hasP] at *); omega
    · intro d0 d1 d2 h2 W2
      exfalso; clear W1 W2 WX WM; (try simp only [hasP] at *); omega
  · intro c0 c1 h1 W1
    refine ⟨_, rfl, (WM.mv (fun k hk => W1.hi hk)).c90, ?_⟩
    refine M_man hk hf hR.1  (WM.mv (fun k hk => W1.hi hk)) ?_ ?_ ?_ ?_
    · intro d0 h2 W2
      exfalso; clear W1 W2 WX WM; (try simp only [hasP] at *); omega
    · intro d0 d1 h2 W2
      refine ⟨_, rfl, fun _ => rfl, ?_⟩
      refine ps_of (W1.mv (fun k hk => W2.lo hk)) W2 ?_ ?_ ?_ ?_ ?_ ?_
      · exact hR
      · exact hI
      · exact hP
      · exact him
      · exact hL
      · exact hT
    · intro d0 d1 d2 h2 W2
      exfalso; clear W1 W2 WX WM; (try simp only [hasP] at *); omega
    · intro d0 d1 d2 h2 W2
      exfalso; clear W1 W2 WX WM; (try simp only [hasP] at *); omega
  · intro c0 c1 c2 h1 W1
    refine ⟨_, rfl, (WM.mv (fun k hk => W1.hi hk)).c90, ?_⟩
    refine M_man hk hf hR.1  (WM.mv (fun k hk => W1.hi hk)) ?_ ?_ ?_ ?_
    · intro d0 h2 W2
      exfalso; clear W1 W2 WX WM; (try simp only [hasP] at *); omega
    · intro d0 d1 h2 W2
      exfalso; clear W1 W2 WX WM; (try simp only [hasP] at *); omega
    · intro d0 d1 d2 h2 W2
      refine ⟨_, rfl, fun _ => rfl, ?_⟩
      refine ps_of (W1.mv (fun k hk => W2.lo hk)) W2 ?_ ?_ ?_ ?_ ?_ ?_
      · exact hR
      · exact hI
      · exact hP
      · exact him
      · exact hL
      · exact hT
    · intro d0 d1 d2 h2 W2
      exfalso; clear W1 W2 WX WM; (try simp only [hasP] at *); omega
  · intro c0 c1 c2 h1 W1
    refine ⟨_, rfl, (WM.mv (fun k hk => W1.hi hk)).c90, ?_⟩
    refine M_man hk hf hR.1  (WM.mv (fun k hk => W1.hi hk)) ?_ ?_ ?_ ?_
    · intro d0 h2 W2
      exfalso; clear W1 W2 WX WM; (try simp only [hasP] at *); omega
    · intro d0 d1 h2 W2
      exfalso; clear W1 W2 WX WM; (try simp only [hasP] at *); omega
    · intro d0 d1 d2 h2 W2
      exfalso; clear W1 W2 WX WM; (try simp only [hasP] at *); omega
    · intro d0 d1 d2 h2 W2
      refine ⟨_, rfl, fun _ => rfl, ?_⟩
      refine ps_of (W1.mv (fun k hk => W2.lo hk)) W2 ?_ ?_ ?_ ?_ ?_ ?_
      · exact ⟨hR.1.add (by omega) (by omega) (by omega), hR.2⟩
      · exact hI
      · exact fun i hi => absurd hi (by omega)
      · exact him
      · exact hL
      · exact hT
theorem pr_pardons {fz : Prop} {h : AH} {m : Int} (hm : inI m) (S : PS fz h) : Con M_X_pardons [.ref 78, .int (zI m)] h (PI M_M_pardons [.ref 90, .int (zI m)] True) := by
  obtain ⟨R, I, im, P, pz, lt, lsz, tn, tsz, rf, ⟨hM, WX⟩, ⟨bb, WM⟩, hR, hI, hP, him, hL, hT, hfz⟩ := S
  have gp := WX.gp
  refine X_pardons hm (WX.re (fun _ _ => rfl)) ?_ ?_ ?_
  · intro c0 h1 W1
    refine ⟨_, rfl, (WM.mv (fun k hk => W1.hi hk)).c90, ?_⟩
    refine M_pardons hm hR.1  (WM.mv (fun k hk => W1.hi hk)) ?_ ?_ ?_
    · intro d0 h2 W2
      refine ⟨_, rfl, fun _ => rfl, ?_⟩
      refine ps_of (W1.mv (fun k hk => W2.lo hk)) W2 ?_ ?_ ?_ ?_ ?_ ?_
      · exact hR
      · exact hI
      · exact hP
      · exact him
      · exact hL
      · exact hT
    · intro d0 d1 h2 W2
      exfalso; clear W1 W2 WX WM; (try simp only [hasP] at *); omega
    · intro d0 d1 h2 W2
      exfalso; clear W1 W2 WX WM; (try simp only [hasP] at *); omega
  · intro c0 c1 h1 W1
    refine ⟨_, rfl, (WM.mv (fun k hk => W1.hi hk)).c90, ?_⟩
    refine M_pardons hm hR.1  (WM.mv (fun k hk => W1.hi hk)) ?_ ?_ ?_
    · intro d0 h2 W2
      exfalso; clear W1 W2 WX WM; (try simp only [hasP] at *); omega
    · intro d0 d1 h2 W2
      refine ⟨_, rfl, fun _ => rfl, ?_⟩
      refine ps_of (W1.mv (fun k hk => W2.lo hk)) W2 ?_ ?_ ?_ ?_ ?_ ?_
      · exact hR
      · exact hI
      · exact hP
      · exact him
      · exact hL
      · exact hT
    · intro d0 d1 h2 W2
      exfalso; clear W1 W2 WX WM; (try simp only [hasP] at *); omega
  · intro c0 c1 h1 W1
    refine ⟨_, rfl, (WM.mv (fun k hk => W1.hi hk)).c90, ?_⟩
    refine M_pardons hm hR.1  (WM.mv (fun k hk => W1.hi hk)) ?_ ?_ ?_
    · intro d0 h2 W2
      exfalso; clear W1 W2 WX WM; (try simp only [hasP] at *); omega
    · intro d0 d1 h2 W2
      exfalso; clear W1 W2 WX WM; (try simp only [hasP] at *); omega
    · intro d0 d1 h2 W2
      refine ⟨_, rfl, fun _ => rfl, ?_⟩
      refine ps_of (W1.mv (fun k hk => W2.lo hk)) W2 ?_ ?_ ?_ ?_ ?_ ?_
      · exact gd_fa hR c0 c1
      · exact hI
      · exact gd_push hR hP gp
      · exact him
      · exact hL
      · exact hT
theorem pr_slopes {fz : Prop} {h : AH} {s v : Int} (hs : inI s) (hv : inI v) (S : PS fz h) : Con M_X_slopes [.ref 78, .int (zI s), .int (zI v)] h (PI M_M_slopes [.ref 90, .int (zI s), .int (zI v)] True) := by
  obtain ⟨R, I, im, P, pz, lt, lsz, tn, tsz, rf, ⟨hM, WX⟩, ⟨bb, WM⟩, hR, hI, hP, him, hL, hT, hfz⟩ := S
  have gp := WX.gp
  refine X_slopes hs hv (WX.re (fun _ _ => rfl)) ?_ ?_ ?_ ?_
  · intro c0 h1 W1
    refine ⟨_, rfl, (WM.mv (fun k hk => W1.hi hk)).c90, ?_⟩
    refine M_slopes hs hv hR.1  (WM.mv (fun k hk => W1.hi hk)) ?_ ?_ ?_ ?_
    · intro d0 h2 W2
      refine ⟨_, rfl, fun _ => rfl, ?_⟩
      refine ps_of (W1.mv (fun k hk => W2.lo hk)) W2 ?_ ?_ ?_ ?_ ?_ ?_
      · exact hR
      · exact hI
      · exact hP
      · exact him
      · exact hL
      · exact hT
    · intro d0 d1 h2 W2
      exfalso; clear W1 W2 WX WM; (try simp only [hasP] at *); omega
    · intro d0 d1 d2 h2 W2
      exfalso; clear W1 W2 WX WM; (try simp only [hasP] at *); omega
    · intro d0 d1 d2 h2 W2
      exfalso; clear W1 W2 WX WM; (try simp only [hasP] at *); omega
  · intro c0 c1 h1 W1
    refine ⟨_, rfl, (WM.mv (fun k hk => W1.hi hk)).c90, ?_⟩
    refine M_slopes hs hv hR.1  (WM.mv (fun k hk => W1.hi hk)) ?_ ?_ ?_ ?_
    · intro d0 h2 W2
      exfalso; clear W1 W2 WX WM; (try simp only [hasP] at *); omega
    · intro d0 d1 h2 W2
      refine ⟨_, rfl, fun _ => rfl, ?_⟩
      refine ps_of (W1.mv (fun k hk => W2.lo hk)) W2 ?_ ?_ ?_ ?_ ?_ ?_
      · exact hR
      · exact hI
      · exact hP
      · exact him
      · exact hL
      · exact hT
    · intro d0 d1 d2 h2 W2
      exfalso; clear W1 W2 WX WM; (try simp only [hasP] at *); omega
    · intro d0 d1 d2 h2 W2
      exfalso; clear W1 W2 WX WM; (try simp only [hasP] at *); omega
  · intro c0 c1 c2 h1 W1
    refine ⟨_, rfl, (WM.mv (fun k hk => W1.hi hk)).c90, ?_⟩
    refine M_slopes hs hv hR.1  (WM.mv (fun k hk => W1.hi hk)) ?_ ?_ ?_ ?_
    · intro d0 h2 W2
      exfalso; clear W1 W2 WX WM; (try simp only [hasP] at *); omega
    · intro d0 d1 h2 W2
      exfalso; clear W1 W2 WX WM; (try simp only [hasP] at *); omega
    · intro d0 d1 d2 h2 W2
      refine ⟨_, rfl, fun _ => rfl, ?_⟩
      refine ps_of (W1.mv (fun k hk => W2.lo hk)) W2 ?_ ?_ ?_ ?_ ?_ ?_
      · exact hR
      · exact hI
      · exact hP
      · exact him
      · exact hL
      · exact hT
    · intro d0 d1 d2 h2 W2
      exfalso; clear W1 W2 WX WM; (try simp only [hasP] at *); omega
  · intro c0 c1 c2 h1 W1
    refine ⟨_, rfl, (WM.mv (fun k hk => W1.hi hk)).c90, ?_⟩
    refine M_slopes hs hv hR.1  (WM.mv (fun k hk => W1.hi hk)) ?_ ?_ ?_ ?_
    · intro d0 h2 W2
      exfalso; clear W1 W2 WX WM; (try simp only [hasP] at *); omega
    · intro d0 d1 h2 W2
      exfalso; clear W1 W2 WX WM; (try simp only [hasP] at *); omega
    · intro d0 d1 d2 h2 W2
      exfalso; clear W1 W2 WX WM; (try simp only [hasP] at *); omega
    · intro d0 d1 d2 h2 W2
      refine ⟨_, rfl, fun _ => rfl, ?_⟩
      refine ps_of (W1.mv (fun k hk => W2.lo hk)) W2 ?_ ?_ ?_ ?_ ?_ ?_
      · exact ⟨hR.1.setSl _ (by omega) (by omega), hR.2⟩
      · exact hI
      · exact gd_push hR hP gp
      · exact him
      · exact hL
      · exact hT
theorem pr_loads {fz : Prop} {h : AH} {v : Int} (hv : inI v) (S : PS fz h) : Con M_X_loads [.ref 78, .int (zI v)] h (PI M_M_loads [.ref 90, .int (zI v)] True) := by
  obtain ⟨R, I, im, P, pz, lt, lsz, tn, tsz, rf, ⟨hM, WX⟩, ⟨bb, WM⟩, hR, hI, hP, him, hL, hT, hfz⟩ := S
  have gp := WX.gp
  refine X_loads hv (WX.re (fun _ _ => rfl)) ?_ ?_ ?_
  · intro c0 h1 W1
    refine ⟨_, rfl, (WM.mv (fun k hk => W1.hi hk)).c90, ?_⟩
    refine M_loads hv hR.1  (WM.mv (fun k hk => W1.hi hk)) ?_ ?_ ?_
    · intro d0 h2 W2
      refine ⟨_, rfl, fun _ => rfl, ?_⟩
      refine ps_of (W1.mv (fun k hk => W2.lo hk)) W2 ?_ ?_ ?_ ?_ ?_ ?_
      · exact hR
      · exact hI
      · exact hP
      · exact him
      · exact hL
      · exact hT
    · intro d0 d1 h2 W2
      exfalso; clear W1 W2 WX WM; (try simp only [hasP] at *); omega
    · intro d0 d1 h2 W2
      exfalso; clear W1 W2 WX WM; (try simp only [hasP] at *); omega
  · intro c0 c1 h1 W1
    refine ⟨_, rfl, (WM.mv (fun k hk => W1.hi hk)).c90, ?_⟩
    refine M_loads hv hR.1  (WM.mv (fun k hk => W1.hi hk)) ?_ ?_ ?_
    · intro d0 h2 W2
      exfalso; clear W1 W2 WX WM; (try simp only [hasP] at *); omega
    · intro d0 d1 h2 W2
      refine ⟨_, rfl, fun _ => rfl, ?_⟩
      refine ps_of (W1.mv (fun k hk => W2.lo hk)) W2 ?_ ?_ ?_ ?_ ?_ ?_
      · exact hR
      · exact hI
      · exact hP
      · exact him
      · exact hL
      · exact hT
    · intro d0 d1 h2 W2
      exfalso; clear W1 W2 WX WM; (try simp only [hasP] at *); omega
  · intro c0 c1 h1 W1
    refine ⟨_, rfl, (WM.mv (fun k hk => W1.hi hk)).c90, ?_⟩
    refine M_loads hv hR.1  (WM.mv (fun k hk => W1.hi hk)) ?_ ?_ ?_
    · intro d0 h2 W2
      exfalso; clear W1 W2 WX WM; (try simp only [hasP] at *); omega
    · intro d0 d1 h2 W2
      exfalso; clear W1 W2 WX WM; (try simp only [hasP] at *); omega
    · intro d0 d1 h2 W2
      refine ⟨_, rfl, fun _ => rfl, ?_⟩
      refine ps_of (W1.mv (fun k hk => W2.lo hk)) W2 ?_ ?_ ?_ ?_ ?_ ?_
      · exact ⟨hR.1.setLoad (by omega), hR.2⟩
      · exact hI
      · exact gd_push hR hP gp
      · exact him
      · exact hL
      · exact hT
theorem pr_snows {fz : Prop} {h : AH} {v : Int} (hv : inI v) (S : PS fz h) : Con M_X_snows [.ref 78, .int (zI v)] h (PI M_M_snows [.ref 90, .int (zI v)] True) := by
  obtain ⟨R, I, im, P, pz, lt, lsz, tn, tsz, rf, ⟨hM, WX⟩, ⟨bb, WM⟩, hR, hI, hP, him, hL, hT, hfz⟩ := S
  have gp := WX.gp
  refine X_snows hv (WX.re (fun _ _ => rfl)) ?_ ?_ ?_
  · intro c0 h1 W1
    refine ⟨_, rfl, (WM.mv (fun k hk => W1.hi hk)).c90, ?_⟩
    refine M_snows hv hR.1  (WM.mv (fun k hk => W1.hi hk)) ?_ ?_ ?_
    · intro d0 h2 W2
      refine ⟨_, rfl, fun _ => rfl, ?_⟩
      refine ps_of (W1.mv (fun k hk => W2.lo hk)) W2 ?_ ?_ ?_ ?_ ?_ ?_
      · exact hR
      · exact hI
      · exact hP
      · exact him
      · exact hL
      · exact hT
    · intro d0 d1 h2 W2
      exfalso; clear W1 W2 WX WM; (try simp only [hasP] at *); omega
    · intro d0 d1 h2 W2
      exfalso; clear W1 W2 WX WM; (try simp only [hasP] at *); omega
  · intro c0 c1 h1 W1
    refine ⟨_, rfl, (WM.mv (fun k hk => W1.hi hk)).c90, ?_⟩
    refine M_snows hv hR.1  (WM.mv (fun k hk => W1.hi hk)) ?_ ?_ ?_
    · intro d0 h2 W2
      exfalso; clear W1 W2 WX WM; (try simp only [hasP] at *); omega
    · intro d0 d1 h2 W2
      refine ⟨_, rfl, fun _ => rfl, ?_⟩
      refine ps_of (W1.mv (fun k hk => W2.lo hk)) W2 ?_ ?_ ?_ ?_ ?_ ?_
      · exact hR
      · exact hI
      · exact hP
      · exact him
      · exact hL
      · exact hT
    · intro d0 d1 h2 W2
      exfalso; clear W1 W2 WX WM; (try simp only [hasP] at *); omega
  · intro c0 c1 h1 W1
    refine ⟨_, rfl, (WM.mv (fun k hk => W1.hi hk)).c90, ?_⟩
    refine M_snows hv hR.1  (WM.mv (fun k hk => W1.hi hk)) ?_ ?_ ?_
    · intro d0 h2 W2
      exfalso; clear W1 W2 WX WM; (try simp only [hasP] at *); omega
    · intro d0 d1 h2 W2
      exfalso; clear W1 W2 WX WM; (try simp only [hasP] at *); omega
    · intro d0 d1 h2 W2
      refine ⟨_, rfl, fun _ => rfl, ?_⟩
      refine ps_of (W1.mv (fun k hk => W2.lo hk)) W2 ?_ ?_ ?_ ?_ ?_ ?_
      · exact ⟨hR.1.setSnow (by omega), hR.2⟩
      · exact hI
      · exact fun i hi => absurd hi (by omega)
      · exact him
      · exact hL
      · exact hT
theorem pr_days {fz : Prop} {h : AH} {n : Int} (hn : inI n) (S : PS fz h) : Con M_X_days [.ref 78, .int (zI n)] h (PI M_M_days [.ref 90, .int (zI n)] True) := by
  obtain ⟨R, I, im, P, pz, lt, lsz, tn, tsz, rf, ⟨hM, WX⟩, ⟨bb, WM⟩, hR, hI, hP, him, hL, hT, hfz⟩ := S
  have gp := WX.gp
  refine X_days hn hR.2 (WX.re (fun _ _ => rfl)) ?_ ?_ ?_
  · intro c0 h1 W1
    refine ⟨_, rfl, (WM.mv (fun k hk => W1.hi hk)).c90, ?_⟩
    refine M_days hn hR.2 hR.1  (WM.mv (fun k hk => W1.hi hk)) ?_ ?_ ?_
    · intro d0 h2 W2
      refine ⟨_, rfl, fun _ => rfl, ?_⟩
      refine ps_of (W1.mv (fun k hk => W2.lo hk)) W2 ?_ ?_ ?_ ?_ ?_ ?_
      · exact hR
      · exact hI
      · exact hP
      · exact him
      · exact hL
      · exact hT
    · intro d0 d1 h2 W2
      exfalso; clear W1 W2 WX WM; (try simp only [hasP] at *); omega
    · intro d0 d1 d2 h2 W2
      exfalso; clear W1 W2 WX WM; (try simp only [hasP] at *); omega
  · intro c0 c1 h1 W1
    refine ⟨_, rfl, (WM.mv (fun k hk => W1.hi hk)).c90, ?_⟩
    refine M_days hn hR.2 hR.1  (WM.mv (fun k hk => W1.hi hk)) ?_ ?_ ?_
    · intro d0 h2 W2
      exfalso; clear W1 W2 WX WM; (try simp only [hasP] at *); omega
    · intro d0 d1 h2 W2
      refine ⟨_, rfl, fun _ => rfl, ?_⟩
      refine ps_of (W1.mv (fun k hk => W2.lo hk)) W2 ?_ ?_ ?_ ?_ ?_ ?_
      · exact hR
      · exact hI
      · exact hP
      · exact him
      · exact hL
      · exact hT
    · intro d0 d1 d2 h2 W2
      exfalso; clear W1 W2 WX WM; (try simp only [hasP] at *); omega
  · intro c0 c1 c2 h1 W1
    refine ⟨_, rfl, (WM.mv (fun k hk => W1.hi hk)).c90, ?_⟩
    refine M_days hn hR.2 hR.1  (WM.mv (fun k hk => W1.hi hk)) ?_ ?_ ?_
    · intro d0 h2 W2
      exfalso; clear W1 W2 WX WM; (try simp only [hasP] at *); omega
    · intro d0 d1 h2 W2
      exfalso; clear W1 W2 WX WM; (try simp only [hasP] at *); omega
    · intro d0 d1 d2 h2 W2
      refine ⟨_, rfl, fun _ => rfl, ?_⟩
      refine ps_of (W1.mv (fun k hk => W2.lo hk)) W2 ?_ ?_ ?_ ?_ ?_ ?_
      · exact gd_days hR (by omega) (by omega)
      · exact hI
      · exact gd_push hR hP gp
      · exact him
      · exact hL
      · exact hT
theorem pr_back {fz : Prop} {h : AH}  (S : PS fz h) : Con M_X_back [.ref 78] h (PI M_M_back [.ref 90] True) := by
  obtain ⟨R, I, im, P, pz, lt, lsz, tn, tsz, rf, ⟨hM, WX⟩, ⟨bb, WM⟩, hR, hI, hP, him, hL, hT, hfz⟩ := S
  have gp := WX.gp
  refine X_back  (WX.re (fun _ _ => rfl)) ?_ ?_
  · intro c0 h1 W1
    refine ⟨_, rfl, (WM.mv (fun k hk => W1.hi hk)).c90, ?_⟩
    refine M_back  hR.1 (fun i hi => (hP i hi).1) (WM.mv (fun k hk => W1.hi hk)) ?_ ?_
    · intro d0 h2 W2
      refine ⟨_, rfl, fun _ => rfl, ?_⟩
      refine ps_of (W1.mv (fun k hk => W2.lo hk)) W2 ?_ ?_ ?_ ?_ ?_ ?_
      · exact hR
      · exact hI
      · exact hP
      · exact him
      · exact hL
      · exact hT
    · intro d0 h2 W2
      exfalso; clear W1 W2 WX WM; (try simp only [hasP] at *); omega
  · intro c0 h1 W1
    refine ⟨_, rfl, (WM.mv (fun k hk => W1.hi hk)).c90, ?_⟩
    refine M_back  hR.1 (fun i hi => (hP i hi).1) (WM.mv (fun k hk => W1.hi hk)) ?_ ?_
    · intro d0 h2 W2
      exfalso; clear W1 W2 WX WM; (try simp only [hasP] at *); omega
    · intro d0 h2 W2
      refine ⟨_, rfl, fun _ => rfl, ?_⟩
      refine ps_of (W1.mv (fun k hk => W2.lo hk)) W2 ?_ ?_ ?_ ?_ ?_ ?_
      · exact hP _ (by omega)
      · exact hI
      · exact fun i hi => hP i (by omega)
      · exact him
      · exact hL
      · exact hT
theorem pr_then {fz : Prop} {h : AH} {n w : Int} (hn : inI n) (hw : inI w) (S : PS fz h) : Con M_X_then [.ref 78, .int (zI n), .int (zI w)] h (PI M_M_then [.ref 90, .int (zI n), .int (zI w)] True) := by
  obtain ⟨R, I, im, P, pz, lt, lsz, tn, tsz, rf, ⟨hM, WX⟩, ⟨bb, WM⟩, hR, hI, hP, him, hL, hT, hfz⟩ := S
  have gp := WX.gp
  refine X_then hn hw (WX.re (fun _ _ => rfl)) ?_ ?_ ?_ ?_
  · intro c0 h1 W1
    refine ⟨_, rfl, (WM.mv (fun k hk => W1.hi hk)).c90, ?_⟩
    refine M_then hn hw hR.1  (WM.mv (fun k hk => W1.hi hk)) ?_ ?_ ?_ ?_
    · intro d0 h2 W2
      refine ⟨_, rfl, fun _ => rfl, ?_⟩
      refine ps_of (W1.mv (fun k hk => W2.lo hk)) W2 ?_ ?_ ?_ ?_ ?_ ?_
      · exact hR
      · exact hI
      · exact hP
      · exact him
      · exact hL
      · exact hT
    · intro d0 d1 h2 W2
      exfalso; clear W1 W2 WX WM; (try simp only [hasP] at *); omega
    · intro d0 d1 d2 h2 W2
      exfalso; clear W1 W2 WX WM; (try simp only [hasP] at *); omega
    · intro d0 d1 d2 h2 W2
      exfalso; clear W1 W2 WX WM; (try simp only [hasP] at *); omega
  · intro c0 c1 h1 W1
    refine ⟨_, rfl, (WM.mv (fun k hk => W1.hi hk)).c90, ?_⟩
    refine M_then hn hw hR.1  (WM.mv (fun k hk => W1.hi hk)) ?_ ?_ ?_ ?_
    · intro d0 h2 W2
      exfalso; clear W1 W2 WX WM; (try simp only [hasP] at *); omega
    · intro d0 d1 h2 W2
      refine ⟨_, rfl, fun _ => rfl, ?_⟩
      refine ps_of (W1.mv (fun k hk => W2.lo hk)) W2 ?_ ?_ ?_ ?_ ?_ ?_
      · exact hR
      · exact hI
      · exact hP
      · exact him
      · exact hL
      · exact hT
    · intro d0 d1 d2 h2 W2
      exfalso; clear W1 W2 WX WM; (try simp only [hasP] at *); omega
    · intro d0 d1 d2 h2 W2
      exfalso; clear W1 W2 WX WM; (try simp only [hasP] at *); omega
  · intro c0 c1 c2 h1 W1
    refine ⟨_, rfl, (WM.mv (fun k hk => W1.hi hk)).c90, ?_⟩
    refine M_then hn hw hR.1  (WM.mv (fun k hk => W1.hi hk)) ?_ ?_ ?_ ?_
    · intro d0 h2 W2
      exfalso; clear W1 W2 WX WM; (try simp only [hasP] at *); omega
    · intro d0 d1 h2 W2
      exfalso; clear W1 W2 WX WM; (try simp only [hasP] at *); omega
    · intro d0 d1 d2 h2 W2
      refine ⟨_, rfl, fun _ => rfl, ?_⟩
      refine ps_of (W1.mv (fun k hk => W2.lo hk)) W2 ?_ ?_ ?_ ?_ ?_ ?_
      · exact hR
      · exact hI
      · exact hP
      · exact him
      · exact hL
      · exact hT
    · intro d0 d1 d2 h2 W2
      exfalso; clear W1 W2 WX WM; (try simp only [hasP] at *); omega
  · intro c0 c1 c2 h1 W1
    refine ⟨_, rfl, (WM.mv (fun k hk => W1.hi hk)).c90, ?_⟩
    refine M_then hn hw hR.1  (WM.mv (fun k hk => W1.hi hk)) ?_ ?_ ?_ ?_
    · intro d0 h2 W2
      exfalso; clear W1 W2 WX WM; (try simp only [hasP] at *); omega
    · intro d0 d1 h2 W2
      exfalso; clear W1 W2 WX WM; (try simp only [hasP] at *); omega
    · intro d0 d1 d2 h2 W2
      exfalso; clear W1 W2 WX WM; (try simp only [hasP] at *); omega
    · intro d0 d1 d2 h2 W2
      refine ⟨_, rfl, fun _ => rfl, ?_⟩
      refine ps_of (W1.mv (fun k hk => W2.lo hk)) W2 ?_ ?_ ?_ ?_ ?_ ?_
      · exact hR
      · exact hI
      · exact hP
      · exact him
      · exact hL
      · exact hT
theorem pr_wornIn {fz : Prop} {h : AH} {m n : Int} (hm : inI m) (hn : inI n) (S : PS fz h) : Con M_X_wornIn [.ref 78, .int (zI m), .int (zI n)] h (PI M_M_wornIn [.ref 90, .int (zI m), .int (zI n)] True) := by
  obtain ⟨R, I, im, P, pz, lt, lsz, tn, tsz, rf, ⟨hM, WX⟩, ⟨bb, WM⟩, hR, hI, hP, him, hL, hT, hfz⟩ := S
  have gp := WX.gp
  refine X_wornIn hm hn (WX.re (fun _ _ => rfl)) ?_ ?_ ?_ ?_
  · intro c0 h1 W1
    refine ⟨_, rfl, (WM.mv (fun k hk => W1.hi hk)).c90, ?_⟩
    refine M_wornIn hm hn hR.1  (WM.mv (fun k hk => W1.hi hk)) ?_ ?_ ?_ ?_
    · intro d0 h2 W2
      refine ⟨_, rfl, fun _ => rfl, ?_⟩
      refine ps_of (W1.mv (fun k hk => W2.lo hk)) W2 ?_ ?_ ?_ ?_ ?_ ?_
      · exact hR
      · exact hI
      · exact hP
      · exact him
      · exact hL
      · exact hT
    · intro d0 d1 h2 W2
      exfalso; clear W1 W2 WX WM; (try simp only [hasP] at *); omega
    · intro d0 d1 d2 h2 W2
      exfalso; clear W1 W2 WX WM; (try simp only [hasP] at *); omega
    · intro d0 d1 d2 h2 W2
      exfalso; clear W1 W2 WX WM; (try simp only [hasP] at *); omega
  · intro c0 c1 h1 W1
    refine ⟨_, rfl, (WM.mv (fun k hk => W1.hi hk)).c90, ?_⟩
    refine M_wornIn hm hn hR.1  (WM.mv (fun k hk => W1.hi hk)) ?_ ?_ ?_ ?_
    · intro d0 h2 W2
      exfalso; clear W1 W2 WX WM; (try simp only [hasP] at *); omega
    · intro d0 d1 h2 W2
      refine ⟨_, rfl, fun _ => rfl, ?_⟩
      refine ps_of (W1.mv (fun k hk => W2.lo hk)) W2 ?_ ?_ ?_ ?_ ?_ ?_
      · exact hR
      · exact hI
      · exact hP
      · exact him
      · exact hL
      · exact hT
    · intro d0 d1 d2 h2 W2
      exfalso; clear W1 W2 WX WM; (try simp only [hasP] at *); omega
    · intro d0 d1 d2 h2 W2
      exfalso; clear W1 W2 WX WM; (try simp only [hasP] at *); omega
  · intro c0 c1 c2 h1 W1
    refine ⟨_, rfl, (WM.mv (fun k hk => W1.hi hk)).c90, ?_⟩
    refine M_wornIn hm hn hR.1  (WM.mv (fun k hk => W1.hi hk)) ?_ ?_ ?_ ?_
    · intro d0 h2 W2
      exfalso; clear W1 W2 WX WM; (try simp only [hasP] at *); omega
    · intro d0 d1 h2 W2
      exfalso; clear W1 W2 WX WM; (try simp only [hasP] at *); omega
    · intro d0 d1 d2 h2 W2
      refine ⟨_, rfl, fun _ => rfl, ?_⟩
      refine ps_of (W1.mv (fun k hk => W2.lo hk)) W2 ?_ ?_ ?_ ?_ ?_ ?_
      · exact hR
      · exact hI
      · exact hP
      · exact him
      · exact hL
      · exact hT
    · intro d0 d1 d2 h2 W2
      exfalso; clear W1 W2 WX WM; (try simp only [hasP] at *); omega
  · intro c0 c1 c2 h1 W1
    refine ⟨_, rfl, (WM.mv (fun k hk => W1.hi hk)).c90, ?_⟩
    refine M_wornIn hm hn hR.1  (WM.mv (fun k hk => W1.hi hk)) ?_ ?_ ?_ ?_
    · intro d0 h2 W2
      exfalso; clear W1 W2 WX WM; (try simp only [hasP] at *); omega
    · intro d0 d1 h2 W2
      exfalso; clear W1 W2 WX WM; (try simp only [hasP] at *); omega
    · intro d0 d1 d2 h2 W2
      exfalso; clear W1 W2 WX WM; (try simp only [hasP] at *); omega
    · intro d0 d1 d2 h2 W2
      refine ⟨_, rfl, fun _ => rfl, ?_⟩
      refine ps_of (W1.mv (fun k hk => W2.lo hk)) W2 ?_ ?_ ?_ ?_ ?_ ?_
      · exact hR
      · exact hI
      · exact hP
      · exact him
      · exact hL
      · exact hT
theorem pr_home {fz : Prop} {h : AH} {w : Int} (hw : inI w) (S : PS fz h) : Con M_X_home [.ref 78, .int (zI w)] h (PI M_M_home [.ref 90, .int (zI w)] True) := by
  obtain ⟨R, I, im, P, pz, lt, lsz, tn, tsz, rf, ⟨hM, WX⟩, ⟨bb, WM⟩, hR, hI, hP, him, hL, hT, hfz⟩ := S
  have gp := WX.gp
  refine X_home hw (WX.re (fun _ _ => rfl)) ?_ ?_
  · intro c0 h1 W1
    refine ⟨_, rfl, (WM.mv (fun k hk => W1.hi hk)).c90, ?_⟩
    refine M_home hw hR.1  (WM.mv (fun k hk => W1.hi hk)) ?_ ?_
    · intro d0 h2 W2
      refine ⟨_, rfl, fun _ => rfl, ?_⟩
      refine ps_of (W1.mv (fun k hk => W2.lo hk)) W2 ?_ ?_ ?_ ?_ ?_ ?_
      · exact hR
      · exact hI
      · exact hP
      · exact him
      · exact hL
      · exact hT
    · intro d0 h2 W2
      exfalso; clear W1 W2 WX WM; (try simp only [hasP] at *); omega
  · intro c0 h1 W1
    refine ⟨_, rfl, (WM.mv (fun k hk => W1.hi hk)).c90, ?_⟩
    refine M_home hw hR.1  (WM.mv (fun k hk => W1.hi hk)) ?_ ?_
    · intro d0 h2 W2
      exfalso; clear W1 W2 WX WM; (try simp only [hasP] at *); omega
    · intro d0 h2 W2
      refine ⟨_, rfl, fun _ => rfl, ?_⟩
      refine ps_of (W1.mv (fun k hk => W2.lo hk)) W2 ?_ ?_ ?_ ?_ ?_ ?_
      · exact hR
      · exact hI
      · exact hP
      · exact him
      · exact hL
      · exact hT
theorem pr_dies {fz : Prop} {h : AH} {m : Int} (hm : inI m) (S : PS fz h) : Con M_X_dies [.ref 78, .int (zI m)] h (PI M_M_dies [.ref 90, .int (zI m)] True) := by
  obtain ⟨R, I, im, P, pz, lt, lsz, tn, tsz, rf, ⟨hM, WX⟩, ⟨bb, WM⟩, hR, hI, hP, him, hL, hT, hfz⟩ := S
  have gp := WX.gp
  refine X_dies hm (WX.re (fun _ _ => rfl)) ?_ ?_ ?_
  · intro c0 c1 h1 W1
    refine ⟨_, rfl, (WM.mv (fun k hk => W1.hi hk)).c90, ?_⟩
    refine M_dies hm hR.1  (WM.mv (fun k hk => W1.hi hk)) ?_ ?_ ?_
    · intro d0 d1 h2 W2
      refine ⟨_, rfl, fun _ => rfl, ?_⟩
      refine ps_of (W1.mv (fun k hk => W2.lo hk)) W2 ?_ ?_ ?_ ?_ ?_ ?_
      · exact hR
      · exact hI
      · exact hP
      · exact him
      · exact hL
      · exact hT
    · intro d0 h2 W2
      exfalso; clear W1 W2 WX WM; (try simp only [hasP] at *); omega
    · intro d0 d1 h2 W2
      exfalso; clear W1 W2 WX WM; (try simp only [hasP] at *); omega
  · intro c0 h1 W1
    refine ⟨_, rfl, (WM.mv (fun k hk => W1.hi hk)).c90, ?_⟩
    refine M_dies hm hR.1  (WM.mv (fun k hk => W1.hi hk)) ?_ ?_ ?_
    · intro d0 d1 h2 W2
      exfalso; clear W1 W2 WX WM; (try simp only [hasP] at *); omega
    · intro d0 h2 W2
      refine ⟨_, rfl, fun _ => rfl, ?_⟩
      refine ps_of (W1.mv (fun k hk => W2.lo hk)) W2 ?_ ?_ ?_ ?_ ?_ ?_
      · exact hR
      · exact hI
      · exact hP
      · exact him
      · exact hL
      · exact hT
    · intro d0 d1 h2 W2
      exfalso; clear W1 W2 WX WM; (try simp only [hasP] at *); omega
  · intro c0 c1 h1 W1
    refine ⟨_, rfl, (WM.mv (fun k hk => W1.hi hk)).c90, ?_⟩
    refine M_dies hm hR.1  (WM.mv (fun k hk => W1.hi hk)) ?_ ?_ ?_
    · intro d0 d1 h2 W2
      exfalso; clear W1 W2 WX WM; (try simp only [hasP] at *); omega
    · intro d0 h2 W2
      exfalso; clear W1 W2 WX WM; (try simp only [hasP] at *); omega
    · intro d0 d1 h2 W2
      refine ⟨_, rfl, fun _ => rfl, ?_⟩
      refine ps_of (W1.mv (fun k hk => W2.lo hk)) W2 ?_ ?_ ?_ ?_ ?_ ?_
      · exact hR
      · exact hI
      · exact hP
      · exact him
      · exact hL
      · exact hT
theorem pr_mercy {fz : Prop} {h : AH} {n : Int} (hn : inI n) (S : PS fz h) : Con M_X_mercy [.ref 78, .int (zI n)] h (PI M_M_mercy [.ref 90, .int (zI n)] True) := by
  obtain ⟨R, I, im, P, pz, lt, lsz, tn, tsz, rf, ⟨hM, WX⟩, ⟨bb, WM⟩, hR, hI, hP, him, hL, hT, hfz⟩ := S
  have gp := WX.gp
  refine X_mercy hn (WX.re (fun _ _ => rfl)) ?_ ?_ ?_
  · intro c0 h1 W1
    refine ⟨_, rfl, (WM.mv (fun k hk => W1.hi hk)).c90, ?_⟩
    refine M_mercy hn hR.1  (WM.mv (fun k hk => W1.hi hk)) ?_ ?_ ?_
    · intro d0 h2 W2
      refine ⟨_, rfl, fun _ => rfl, ?_⟩
      refine ps_of (W1.mv (fun k hk => W2.lo hk)) W2 ?_ ?_ ?_ ?_ ?_ ?_
      · exact hR
      · exact hI
      · exact hP
      · exact him
      · exact hL
      · exact hT
    · intro d0 d1 h2 W2
      exfalso; clear W1 W2 WX WM; (try simp only [hasP] at *); omega
    · intro d0 d1 h2 W2
      exfalso; clear W1 W2 WX WM; (try simp only [hasP] at *); omega
  · intro c0 c1 h1 W1
    refine ⟨_, rfl, (WM.mv (fun k hk => W1.hi hk)).c90, ?_⟩
    refine M_mercy hn hR.1  (WM.mv (fun k hk => W1.hi hk)) ?_ ?_ ?_
    · intro d0 h2 W2
      exfalso; clear W1 W2 WX WM; (try simp only [hasP] at *); omega
    · intro d0 d1 h2 W2
      refine ⟨_, rfl, fun _ => rfl, ?_⟩
      refine ps_of (W1.mv (fun k hk => W2.lo hk)) W2 ?_ ?_ ?_ ?_ ?_ ?_
      · exact hR
      · exact hI
      · exact hP
      · exact him
      · exact hL
      · exact hT
    · intro d0 d1 h2 W2
      exfalso; clear W1 W2 WX WM; (try simp only [hasP] at *); omega
  · intro c0 c1 h1 W1
    refine ⟨_, rfl, (WM.mv (fun k hk => W1.hi hk)).c90, ?_⟩
    refine M_mercy hn hR.1  (WM.mv (fun k hk => W1.hi hk)) ?_ ?_ ?_
    · intro d0 h2 W2
      exfalso; clear W1 W2 WX WM; (try simp only [hasP] at *); omega
    · intro d0 d1 h2 W2
      exfalso; clear W1 W2 WX WM; (try simp only [hasP] at *); omega
    · intro d0 d1 h2 W2
      refine ⟨_, rfl, fun _ => rfl, ?_⟩
      refine ps_of (W1.mv (fun k hk => W2.lo hk)) W2 ?_ ?_ ?_ ?_ ?_ ?_
      · exact hR
      · exact hI
      · exact hP
      · exact him
      · exact hL
      · exact hT
theorem pr_fewest {fz : Prop} {h : AH} {n : Int} (hn : inI n) (S : PS fz h) : Con M_X_fewest [.ref 78, .int (zI n)] h (PI M_M_fewest [.ref 90, .int (zI n)] True) := by
  obtain ⟨R, I, im, P, pz, lt, lsz, tn, tsz, rf, ⟨hM, WX⟩, ⟨bb, WM⟩, hR, hI, hP, him, hL, hT, hfz⟩ := S
  have gp := WX.gp
  refine X_fewest hn (WX.re (fun _ _ => rfl)) ?_ ?_ ?_
  · intro c0 h1 W1
    refine ⟨_, rfl, (WM.mv (fun k hk => W1.hi hk)).c90, ?_⟩
    refine M_fewest hn hR.1  (WM.mv (fun k hk => W1.hi hk)) ?_ ?_ ?_
    · intro d0 h2 W2
      refine ⟨_, rfl, fun _ => rfl, ?_⟩
      refine ps_of (W1.mv (fun k hk => W2.lo hk)) W2 ?_ ?_ ?_ ?_ ?_ ?_
      · exact hR
      · exact hI
      · exact hP
      · exact him
      · exact hL
      · exact hT
    · intro d0 d1 h2 W2
      exfalso; clear W1 W2 WX WM; (try simp only [hasP] at *); omega
    · intro d0 d1 h2 W2
      exfalso; clear W1 W2 WX WM; (try simp only [hasP] at *); omega
  · intro c0 c1 h1 W1
    refine ⟨_, rfl, (WM.mv (fun k hk => W1.hi hk)).c90, ?_⟩
    refine M_fewest hn hR.1  (WM.mv (fun k hk => W1.hi hk)) ?_ ?_ ?_
    · intro d0 h2 W2
      exfalso; clear W1 W2 WX WM; (try simp only [hasP] at *); omega
    · intro d0 d1 h2 W2
      refine ⟨_, rfl, fun _ => rfl, ?_⟩
      refine ps_of (W1.mv (fun k hk => W2.lo hk)) W2 ?_ ?_ ?_ ?_ ?_ ?_
      · exact hR
      · exact hI
      · exact hP
      · exact him
      · exact hL
      · exact hT
    · intro d0 d1 h2 W2
      exfalso; clear W1 W2 WX WM; (try simp only [hasP] at *); omega
  · intro c0 c1 h1 W1
    refine ⟨_, rfl, (WM.mv (fun k hk => W1.hi hk)).c90, ?_⟩
    refine M_fewest hn hR.1  (WM.mv (fun k hk => W1.hi hk)) ?_ ?_ ?_
    · intro d0 h2 W2
      exfalso; clear W1 W2 WX WM; (try simp only [hasP] at *); omega
    · intro d0 d1 h2 W2
      exfalso; clear W1 W2 WX WM; (try simp only [hasP] at *); omega
    · intro d0 d1 h2 W2
      refine ⟨_, rfl, fun _ => rfl, ?_⟩
      refine ps_of (W1.mv (fun k hk => W2.lo hk)) W2 ?_ ?_ ?_ ?_ ?_ ?_
      · exact hR
      · exact hI
      · exact hP
      · exact him
      · exact hL
      · exact hT
theorem pr_crown {fz : Prop} {h : AH} {n : Int} (hn : inI n) (S : PS fz h) : Con M_X_crown [.ref 78, .int (zI n)] h (PI M_M_crown [.ref 90, .int (zI n)] True) := by
  obtain ⟨R, I, im, P, pz, lt, lsz, tn, tsz, rf, ⟨hM, WX⟩, ⟨bb, WM⟩, hR, hI, hP, him, hL, hT, hfz⟩ := S
  have gp := WX.gp
  refine X_crown hn (WX.re (fun _ _ => rfl)) ?_ ?_ ?_
  · intro c0 h1 W1
    refine ⟨_, rfl, (WM.mv (fun k hk => W1.hi hk)).c90, ?_⟩
    refine M_crown hn hR.1  (WM.mv (fun k hk => W1.hi hk)) ?_ ?_ ?_
    · intro d0 h2 W2
      refine ⟨_, rfl, fun _ => rfl, ?_⟩
      refine ps_of (W1.mv (fun k hk => W2.lo hk)) W2 ?_ ?_ ?_ ?_ ?_ ?_
      · exact hR
      · exact hI
      · exact hP
      · exact him
      · exact hL
      · exact hT
    · intro d0 d1 h2 W2
      exfalso; clear W1 W2 WX WM; (try simp only [hasP] at *); omega
    · intro d0 d1 h2 W2
      exfalso; clear W1 W2 WX WM; (try simp only [hasP] at *); omega
  · intro c0 c1 h1 W1
    refine ⟨_, rfl, (WM.mv (fun k hk => W1.hi hk)).c90, ?_⟩
    refine M_crown hn hR.1  (WM.mv (fun k hk => W1.hi hk)) ?_ ?_ ?_
    · intro d0 h2 W2
      exfalso; clear W1 W2 WX WM; (try simp only [hasP] at *); omega
    · intro d0 d1 h2 W2
      refine ⟨_, rfl, fun _ => rfl, ?_⟩
      refine ps_of (W1.mv (fun k hk => W2.lo hk)) W2 ?_ ?_ ?_ ?_ ?_ ?_
      · exact hR
      · exact hI
      · exact hP
      · exact him
      · exact hL
      · exact hT
    · intro d0 d1 h2 W2
      exfalso; clear W1 W2 WX WM; (try simp only [hasP] at *); omega
  · intro c0 c1 h1 W1
    refine ⟨_, rfl, (WM.mv (fun k hk => W1.hi hk)).c90, ?_⟩
    refine M_crown hn hR.1  (WM.mv (fun k hk => W1.hi hk)) ?_ ?_ ?_
    · intro d0 h2 W2
      exfalso; clear W1 W2 WX WM; (try simp only [hasP] at *); omega
    · intro d0 d1 h2 W2
      exfalso; clear W1 W2 WX WM; (try simp only [hasP] at *); omega
    · intro d0 d1 h2 W2
      refine ⟨_, rfl, fun _ => rfl, ?_⟩
      refine ps_of (W1.mv (fun k hk => W2.lo hk)) W2 ?_ ?_ ?_ ?_ ?_ ?_
      · exact hR
      · exact hI
      · exact hP
      · exact him
      · exact hL
      · exact hT
theorem pr_dig {fz : Prop} {h : AH} {n : Int} (hn : inI n) (S : PS fz h) : Con M_X_dig [.ref 78, .int (zI n)] h (PI M_M_dig [.ref 90, .int (zI n)] True) := by
  obtain ⟨R, I, im, P, pz, lt, lsz, tn, tsz, rf, ⟨hM, WX⟩, ⟨bb, WM⟩, hR, hI, hP, him, hL, hT, hfz⟩ := S
  have gp := WX.gp
  refine X_dig hn (WX.re (fun _ _ => rfl)) ?_ ?_ ?_
  · intro c0 h1 W1
    refine ⟨_, rfl, (WM.mv (fun k hk => W1.hi hk)).c90, ?_⟩
    refine M_dig hn hR.1  (WM.mv (fun k hk => W1.hi hk)) ?_ ?_ ?_
    · intro d0 h2 W2
      refine ⟨_, rfl, fun _ => rfl, ?_⟩
      refine ps_of (W1.mv (fun k hk => W2.lo hk)) W2 ?_ ?_ ?_ ?_ ?_ ?_
      · exact hR
      · exact hI
      · exact hP
      · exact him
      · exact hL
      · exact hT
    · intro d0 d1 h2 W2
      exfalso; clear W1 W2 WX WM; (try simp only [hasP] at *); omega
    · intro d0 d1 h2 W2
      exfalso; clear W1 W2 WX WM; (try simp only [hasP] at *); omega
  · intro c0 c1 h1 W1
    refine ⟨_, rfl, (WM.mv (fun k hk => W1.hi hk)).c90, ?_⟩
    refine M_dig hn hR.1  (WM.mv (fun k hk => W1.hi hk)) ?_ ?_ ?_
    · intro d0 h2 W2
      exfalso; clear W1 W2 WX WM; (try simp only [hasP] at *); omega
    · intro d0 d1 h2 W2
      refine ⟨_, rfl, fun _ => rfl, ?_⟩
      refine ps_of (W1.mv (fun k hk => W2.lo hk)) W2 ?_ ?_ ?_ ?_ ?_ ?_
      · exact hR
      · exact hI
      · exact hP
      · exact him
      · exact hL
      · exact hT
    · intro d0 d1 h2 W2
      exfalso; clear W1 W2 WX WM; (try simp only [hasP] at *); omega
  · intro c0 c1 h1 W1
    refine ⟨_, rfl, (WM.mv (fun k hk => W1.hi hk)).c90, ?_⟩
    refine M_dig hn hR.1  (WM.mv (fun k hk => W1.hi hk)) ?_ ?_ ?_
    · intro d0 h2 W2
      exfalso; clear W1 W2 WX WM; (try simp only [hasP] at *); omega
    · intro d0 d1 h2 W2
      exfalso; clear W1 W2 WX WM; (try simp only [hasP] at *); omega
    · intro d0 d1 h2 W2
      refine ⟨_, rfl, fun _ => rfl, ?_⟩
      refine ps_of (W1.mv (fun k hk => W2.lo hk)) W2 ?_ ?_ ?_ ?_ ?_ ?_
      · exact hR
      · exact hI
      · exact hP
      · exact him
      · exact hL
      · exact hT
theorem pr_keep {fz : Prop} {h : AH} {n w : Int} (hn : inI n) (hw : inI w) (S : PS fz h) : Con M_X_keep [.ref 78, .int (zI n), .int (zI w)] h (PI M_M_keep [.ref 90, .int (zI n), .int (zI w)] True) := by
  obtain ⟨R, I, im, P, pz, lt, lsz, tn, tsz, rf, ⟨hM, WX⟩, ⟨bb, WM⟩, hR, hI, hP, him, hL, hT, hfz⟩ := S
  have gp := WX.gp
  refine X_keep hn hw (WX.re (fun _ _ => rfl)) ?_ ?_ ?_ ?_
  · intro c0 h1 W1
    refine ⟨_, rfl, (WM.mv (fun k hk => W1.hi hk)).c90, ?_⟩
    refine M_keep hn hw hR.1  (WM.mv (fun k hk => W1.hi hk)) ?_ ?_ ?_ ?_
    · intro d0 h2 W2
      refine ⟨_, rfl, fun _ => rfl, ?_⟩
      refine ps_of (W1.mv (fun k hk => W2.lo hk)) W2 ?_ ?_ ?_ ?_ ?_ ?_
      · exact hR
      · exact hI
      · exact hP
      · exact him
      · exact hL
      · exact hT
    · intro d0 d1 h2 W2
      exfalso; clear W1 W2 WX WM; (try simp only [hasP] at *); omega
    · intro d0 d1 d2 h2 W2
      exfalso; clear W1 W2 WX WM; (try simp only [hasP] at *); omega
    · intro d0 d1 d2 h2 W2
      exfalso; clear W1 W2 WX WM; (try simp only [hasP] at *); omega
  · intro c0 c1 h1 W1
    refine ⟨_, rfl, (WM.mv (fun k hk => W1.hi hk)).c90, ?_⟩
    refine M_keep hn hw hR.1  (WM.mv (fun k hk => W1.hi hk)) ?_ ?_ ?_ ?_
    · intro d0 h2 W2
      exfalso; clear W1 W2 WX WM; (try simp only [hasP] at *); omega
    · intro d0 d1 h2 W2
      refine ⟨_, rfl, fun _ => rfl, ?_⟩
      refine ps_of (W1.mv (fun k hk => W2.lo hk)) W2 ?_ ?_ ?_ ?_ ?_ ?_
      · exact hR
      · exact hI
      · exact hP
      · exact him
      · exact hL
      · exact hT
    · intro d0 d1 d2 h2 W2
      exfalso; clear W1 W2 WX WM; (try simp only [hasP] at *); omega
    · intro d0 d1 d2 h2 W2
      exfalso; clear W1 W2 WX WM; (try simp only [hasP] at *); omega
  · intro c0 c1 c2 h1 W1
    refine ⟨_, rfl, (WM.mv (fun k hk => W1.hi hk)).c90, ?_⟩
    refine M_keep hn hw hR.1  (WM.mv (fun k hk => W1.hi hk)) ?_ ?_ ?_ ?_
    · intro d0 h2 W2
      exfalso; clear W1 W2 WX WM; (try simp only [hasP] at *); omega
    · intro d0 d1 h2 W2
      exfalso; clear W1 W2 WX WM; (try simp only [hasP] at *); omega
    · intro d0 d1 d2 h2 W2
      refine ⟨_, rfl, fun _ => rfl, ?_⟩
      refine ps_of (W1.mv (fun k hk => W2.lo hk)) W2 ?_ ?_ ?_ ?_ ?_ ?_
      · exact hR
      · exact hI
      · exact hP
      · exact him
      · exact hL
      · exact hT
    · intro d0 d1 d2 h2 W2
      exfalso; clear W1 W2 WX WM; (try simp only [hasP] at *); omega
  · intro c0 c1 c2 h1 W1
    refine ⟨_, rfl, (WM.mv (fun k hk => W1.hi hk)).c90, ?_⟩
    refine M_keep hn hw hR.1  (WM.mv (fun k hk => W1.hi hk)) ?_ ?_ ?_ ?_
    · intro d0 h2 W2
      exfalso; clear W1 W2 WX WM; (try simp only [hasP] at *); omega
    · intro d0 d1 h2 W2
      exfalso; clear W1 W2 WX WM; (try simp only [hasP] at *); omega
    · intro d0 d1 d2 h2 W2
      exfalso; clear W1 W2 WX WM; (try simp only [hasP] at *); omega
    · intro d0 d1 d2 h2 W2
      refine ⟨_, rfl, fun _ => rfl, ?_⟩
      refine ps_of (W1.mv (fun k hk => W2.lo hk)) W2 ?_ ?_ ?_ ?_ ?_ ?_
      · exact hR
      · exact hI
      · exact hP
      · exact him
      · exact hL
      · exact hT
theorem pr_pairs {fz : Prop} {h : AH} {w : Int} (hw : inI w) (S : PS fz h) : Con M_X_pairs [.ref 78, .int (zI w)] h (PI M_M_pairs [.ref 90, .int (zI w)] True) := by
  obtain ⟨R, I, im, P, pz, lt, lsz, tn, tsz, rf, ⟨hM, WX⟩, ⟨bb, WM⟩, hR, hI, hP, him, hL, hT, hfz⟩ := S
  have gp := WX.gp
  refine X_pairs hw (WX.re (fun _ _ => rfl)) ?_ ?_
  · intro c0 h1 W1
    refine ⟨_, rfl, (WM.mv (fun k hk => W1.hi hk)).c90, ?_⟩
    refine M_pairs hw hR.1  (WM.mv (fun k hk => W1.hi hk)) ?_ ?_
    · intro d0 h2 W2
      refine ⟨_, rfl, fun _ => rfl, ?_⟩
      refine ps_of (W1.mv (fun k hk => W2.lo hk)) W2 ?_ ?_ ?_ ?_ ?_ ?_
      · exact hR
      · exact hI
      · exact hP
      · exact him
      · exact hL
      · exact hT
    · intro d0 h2 W2
      exfalso; clear W1 W2 WX WM; (try simp only [hasP] at *); omega
  · intro c0 h1 W1
    refine ⟨_, rfl, (WM.mv (fun k hk => W1.hi hk)).c90, ?_⟩
    refine M_pairs hw hR.1  (WM.mv (fun k hk => W1.hi hk)) ?_ ?_
    · intro d0 h2 W2
      exfalso; clear W1 W2 WX WM; (try simp only [hasP] at *); omega
    · intro d0 h2 W2
      refine ⟨_, rfl, fun _ => rfl, ?_⟩
      refine ps_of (W1.mv (fun k hk => W2.lo hk)) W2 ?_ ?_ ?_ ?_ ?_ ?_
      · exact hR
      · exact hI
      · exact hP
      · exact him
      · exact hL
      · exact hT
theorem pr_whoBore {fz : Prop} {h : AH}  (S : PS fz h) : Con M_X_whoBore [.ref 78] h (PI M_M_whoBore [.ref 90] True) := by
  obtain ⟨R, I, im, P, pz, lt, lsz, tn, tsz, rf, ⟨hM, WX⟩, ⟨bb, WM⟩, hR, hI, hP, him, hL, hT, hfz⟩ := S
  have gp := WX.gp
  refine X_whoBore hT (WX.re (fun _ _ => rfl)) ?_
  · intro  h1 W1
    refine ⟨_, rfl, (WM.mv (fun k hk => W1.hi hk)).c90, ?_⟩
    refine M_whoBore hT hR.1  (WM.mv (fun k hk => W1.hi hk)) ?_
    · intro  h2 W2
      refine ⟨_, rfl, fun _ => rfl, ?_⟩
      refine ps_of (W1.mv (fun k hk => W2.lo hk)) W2 ?_ ?_ ?_ ?_ ?_ ?_
      · exact hR
      · exact hI
      · exact hP
      · exact him
      · exact hL
      · exact hT
theorem pr_whatKind {fz : Prop} {h : AH} {m w : Int} (hm : inI m) (hw : inI w) (S : PS fz h) : Con M_X_whatKind [.ref 78, .int (zI m), .int (zI w)] h (PI M_M_whatKind [.ref 90, .int (zI m), .int (zI w)] fz) := by
  obtain ⟨R, I, im, P, pz, lt, lsz, tn, tsz, rf, ⟨hM, WX⟩, ⟨bb, WM⟩, hR, hI, hP, him, hL, hT, hfz⟩ := S
  have gp := WX.gp
  refine X_whatKind hm hw hT (WX.re (fun _ _ => rfl)) ?_ ?_ ?_
  · intro c0 h1 W1
    refine ⟨_, rfl, (WM.mv (fun k hk => W1.hi hk)).c90, ?_⟩
    refine M_whatKind hm hw hT hR.1  (WM.mv (fun k hk => W1.hi hk)) ?_ ?_ ?_
    · intro d0 h2 W2
      refine ⟨_, rfl, fun _ => rfl, ?_⟩
      refine ps_of (W1.mv (fun k hk => W2.lo hk)) W2 ?_ ?_ ?_ ?_ ?_ ?_
      · exact hR
      · exact hI
      · exact hP
      · exact him
      · exact hL
      · exact hT
    · intro d0 d1 h2 W2
      exfalso; clear W1 W2 WX WM; (try simp only [hasP] at *); omega
    · intro d0 d1 v2 h2 W2
      exfalso; clear W1 W2 WX WM; (try simp only [hasP] at *); omega
  · intro c0 c1 h1 W1
    refine ⟨_, rfl, (WM.mv (fun k hk => W1.hi hk)).c90, ?_⟩
    refine M_whatKind hm hw hT hR.1  (WM.mv (fun k hk => W1.hi hk)) ?_ ?_ ?_
    · intro d0 h2 W2
      exfalso; clear W1 W2 WX WM; (try simp only [hasP] at *); omega
    · intro d0 d1 h2 W2
      refine ⟨_, rfl, fun _ => rfl, ?_⟩
      refine ps_of (W1.mv (fun k hk => W2.lo hk)) W2 ?_ ?_ ?_ ?_ ?_ ?_
      · exact hR
      · exact hI
      · exact hP
      · exact him
      · exact hL
      · exact hT
    · intro d0 d1 v2 h2 W2
      exfalso; clear W1 W2 WX WM; (try simp only [hasP] at *); omega
  · intro c0 c1 v1 h1 W1
    refine ⟨_, rfl, (WM.mv (fun k hk => W1.hi hk)).c90, ?_⟩
    refine M_whatKind hm hw hT hR.1  (WM.mv (fun k hk => W1.hi hk)) ?_ ?_ ?_
    · intro d0 h2 W2
      exfalso; clear W1 W2 WX WM; (try simp only [hasP] at *); omega
    · intro d0 d1 h2 W2
      exfalso; clear W1 W2 WX WM; (try simp only [hasP] at *); omega
    · intro d0 d1 v2 h2 W2
      refine ⟨_, rfl, fun q => absurd (hfz q) (by unfold hasP at c0; omega), ?_⟩
      refine ps_of (W1.mv (fun k hk => W2.lo hk)) W2 ?_ ?_ ?_ ?_ ?_ ?_
      · exact hR
      · exact hI
      · exact hP
      · exact him
      · exact hL
      · exact hT
theorem pr_two {fz : Prop} {h : AH} {o t n : Int} (ho : inI o) (ht : inI t) (hn : inI n) (S : PS fz h) : Con M_X_two [.ref 78, .int (zI o), .int (zI t), .int (zI n)] h (PI M_M_two [.ref 90, .int (zI o), .int (zI t), .int (zI n)] True) := by
  obtain ⟨R, I, im, P, pz, lt, lsz, tn, tsz, rf, ⟨hM, WX⟩, ⟨bb, WM⟩, hR, hI, hP, him, hL, hT, hfz⟩ := S
  have gp := WX.gp
  refine X_two ho ht hn (WX.re (fun _ _ => rfl)) ?_ ?_ ?_ ?_ ?_
  · intro c0 h1 W1
    refine ⟨_, rfl, (WM.mv (fun k hk => W1.hi hk)).c90, ?_⟩
    refine M_two ho ht hn hR.1  (WM.mv (fun k hk => W1.hi hk)) ?_ ?_ ?_ ?_ ?_
    · intro d0 h2 W2
      refine ⟨_, rfl, fun _ => rfl, ?_⟩
      refine ps_of (W1.mv (fun k hk => W2.lo hk)) W2 ?_ ?_ ?_ ?_ ?_ ?_
      · exact hR
      · exact hI
      · exact hP
      · exact him
      · exact hL
      · exact hT
    · intro d0 d1 h2 W2
      exfalso; clear W1 W2 WX WM; (try simp only [hasP] at *); omega
    · intro d0 d1 d2 h2 W2
      exfalso; clear W1 W2 WX WM; (try simp only [hasP] at *); omega
    · intro d0 d1 d2 d3 h2 W2
      exfalso; clear W1 W2 WX WM; (try simp only [hasP] at *); omega
    · intro d0 d1 d2 d3 h2 W2
      exfalso; clear W1 W2 WX WM; (try simp only [hasP] at *); omega
  · intro c0 c1 h1 W1
    refine ⟨_, rfl, (WM.mv (fun k hk => W1.hi hk)).c90, ?_⟩
    refine M_two ho ht hn hR.1  (WM.mv (fun k hk => W1.hi hk)) ?_ ?_ ?_ ?_ ?_
    · intro d0 h2 W2
      exfalso; clear W1 W2 WX WM; (try simp only [hasP] at *); omega
    · intro d0 d1 h2 W2
      refine ⟨_, rfl, fun _ => rfl, ?_⟩
      refine ps_of (W1.mv (fun k hk => W2.lo hk)) W2 ?_ ?_ ?_ ?_ ?_ ?_
      · exact hR
      · exact hI
      · exact hP
      · exact him
      · exact hL
      · exact hT
    · intro d0 d1 d2 h2 W2
      exfalso; clear W1 W2 WX WM; (try simp only [hasP] at *); omega
    · intro d0 d1 d2 d3 h2 W2
      exfalso; clear W1 W2 WX WM; (try simp only [hasP] at *); omega
    · intro d0 d1 d2 d3 h2 W2
      exfalso; clear W1 W2 WX WM; (try simp only [hasP] at *); omega
  · intro c0 c1 c2 h1 W1
    refine ⟨_, rfl, (WM.mv (fun k hk => W1.hi hk)).c90, ?_⟩
    refine M_two ho ht hn hR.1  (WM.mv (fun k hk => W1.hi hk)) ?_ ?_ ?_ ?_ ?_
    · intro d0 h2 W2
      exfalso; clear W1 W2 WX WM; (try simp only [hasP] at *); omega
    · intro d0 d1 h2 W2
      exfalso; clear W1 W2 WX WM; (try simp only [hasP] at *); omega
    · intro d0 d1 d2 h2 W2
      refine ⟨_, rfl, fun _ => rfl, ?_⟩
      refine ps_of (W1.mv (fun k hk => W2.lo hk)) W2 ?_ ?_ ?_ ?_ ?_ ?_
      · exact hR
      · exact hI
      · exact hP
      · exact him
      · exact hL
      · exact hT
    · intro d0 d1 d2 d3 h2 W2
      exfalso; clear W1 W2 WX WM; (try simp only [hasP] at *); omega
    · intro d0 d1 d2 d3 h2 W2
      exfalso; clear W1 W2 WX WM; (try simp only [hasP] at *); omega
  · intro c0 c1 c2 c3 h1 W1
    refine ⟨_, rfl, (WM.mv (fun k hk => W1.hi hk)).c90, ?_⟩
    refine M_two ho ht hn hR.1  (WM.mv (fun k hk => W1.hi hk)) ?_ ?_ ?_ ?_ ?_
    · intro d0 h2 W2
      exfalso; clear W1 W2 WX WM; (try simp only [hasP] at *); omega
    · intro d0 d1 h2 W2
      exfalso; clear W1 W2 WX WM; (try simp only [hasP] at *); omega
    · intro d0 d1 d2 h2 W2
      exfalso; clear W1 W2 WX WM; (try simp only [hasP] at *); omega
    · intro d0 d1 d2 d3 h2 W2
      refine ⟨_, rfl, fun _ => rfl, ?_⟩
      refine ps_of (W1.mv (fun k hk => W2.lo hk)) W2 ?_ ?_ ?_ ?_ ?_ ?_
      · exact hR
      · exact hI
      · exact hP
      · exact him
      · exact hL
      · exact hT
    · intro d0 d1 d2 d3 h2 W2
      exfalso; clear W1 W2 WX WM; (try simp only [hasP] at *); omega
  · intro c0 c1 c2 c3 h1 W1
    refine ⟨_, rfl, (WM.mv (fun k hk => W1.hi hk)).c90, ?_⟩
    refine M_two ho ht hn hR.1  (WM.mv (fun k hk => W1.hi hk)) ?_ ?_ ?_ ?_ ?_
    · intro d0 h2 W2
      exfalso; clear W1 W2 WX WM; (try simp only [hasP] at *); omega
    · intro d0 d1 h2 W2
      exfalso; clear W1 W2 WX WM; (try simp only [hasP] at *); omega
    · intro d0 d1 d2 h2 W2
      exfalso; clear W1 W2 WX WM; (try simp only [hasP] at *); omega
    · intro d0 d1 d2 d3 h2 W2
      exfalso; clear W1 W2 WX WM; (try simp only [hasP] at *); omega
    · intro d0 d1 d2 d3 h2 W2
      refine ⟨_, rfl, fun _ => rfl, ?_⟩
      refine ps_of (W1.mv (fun k hk => W2.lo hk)) W2 ?_ ?_ ?_ ?_ ?_ ?_
      · exact hR
      · exact hI
      · exact hP
      · exact him
      · exact hL
      · exact hT
theorem pr_falls {fz : Prop} {h : AH} {n t v w : Int} (hn : inI n) (ht : inI t) (hv : inI v) (hw : inI w) (S : PS fz h) : Con M_X_falls [.ref 78, .int (zI n), .int (zI t), .int (zI v), .int (zI w)] h (PJ M_M_falls [.ref 90, .int (zI n), .int (zI t), .int (zI v), .int (zI w)] True) := by
  obtain ⟨R, I, im, P, pz, lt, lsz, tn, tsz, rf, ⟨hM, WX⟩, ⟨bb, WM⟩, hR, hI, hP, him, hL, hT, hfz⟩ := S
  have gp := WX.gp
  refine X_falls hn ht hv hw (WX.re (fun _ _ => rfl)) ?_ ?_ ?_ ?_
  · intro c0 h1 W1
    refine ⟨_, rfl, (WM.mv (fun k hk => W1.hi hk)).c90, ?_⟩
    refine M_falls hn ht hv hw hR.1  (WM.mv (fun k hk => W1.hi hk)) ?_ ?_ ?_ ?_
    · intro d0 h2 W2
      refine ⟨_, rfl, fun _ => rfl, ?_⟩
      refine ps_of (W1.mv (fun k hk => W2.lo hk)) W2 ?_ ?_ ?_ ?_ ?_ ?_
      · exact hR
      · exact hI
      · exact hP
      · exact him
      · exact hL
      · exact hT
    · intro d0 d1 h2 W2
      exfalso; clear W1 W2 WX WM; (try simp only [hasP] at *); omega
    · intro d0 d1 d2 h2 W2
      exfalso; clear W1 W2 WX WM; (try simp only [hasP] at *); omega
    · intro d0 d1 d2 h2 W2
      exfalso; clear W1 W2 WX WM; (try simp only [hasP] at *); omega
  · intro c0 c1 h1 W1
    refine ⟨_, rfl, (WM.mv (fun k hk => W1.hi hk)).c90, ?_⟩
    refine M_falls hn ht hv hw hR.1  (WM.mv (fun k hk => W1.hi hk)) ?_ ?_ ?_ ?_
    · intro d0 h2 W2
      exfalso; clear W1 W2 WX WM; (try simp only [hasP] at *); omega
    · intro d0 d1 h2 W2
      refine ⟨_, rfl, fun _ => rfl, ?_⟩
      refine ps_of (W1.mv (fun k hk => W2.lo hk)) W2 ?_ ?_ ?_ ?_ ?_ ?_
      · exact hR
      · exact hI
      · exact hP
      · exact him
      · exact hL
      · exact hT
    · intro d0 d1 d2 h2 W2
      exfalso; clear W1 W2 WX WM; (try simp only [hasP] at *); omega
    · intro d0 d1 d2 h2 W2
      exfalso; clear W1 W2 WX WM; (try simp only [hasP] at *); omega
  · intro c0 c1 c2 h1 W1
    refine ⟨_, rfl, (WM.mv (fun k hk => W1.hi hk)).c90, ?_⟩
    refine M_falls hn ht hv hw hR.1  (WM.mv (fun k hk => W1.hi hk)) ?_ ?_ ?_ ?_
    · intro d0 h2 W2
      exfalso; clear W1 W2 WX WM; (try simp only [hasP] at *); omega
    · intro d0 d1 h2 W2
      exfalso; clear W1 W2 WX WM; (try simp only [hasP] at *); omega
    · intro d0 d1 d2 h2 W2
      refine ⟨_, rfl, fun _ => rfl, ?_⟩
      refine ps_of (W1.mv (fun k hk => W2.lo hk)) W2 ?_ ?_ ?_ ?_ ?_ ?_
      · exact hR
      · exact hI
      · exact hP
      · exact him
      · exact hL
      · exact hT
    · intro d0 d1 d2 h2 W2
      exfalso; clear W1 W2 WX WM; (try simp only [hasP] at *); omega
  · intro c0 c1 c2 h1 W1
    refine ⟨_, rfl, (WM.mv (fun k hk => W1.hi hk)).c90, ?_⟩
    refine M_falls hn ht hv hw hR.1  (WM.mv (fun k hk => W1.hi hk)) ?_ ?_ ?_ ?_
    · intro d0 h2 W2
      exfalso; clear W1 W2 WX WM; (try simp only [hasP] at *); omega
    · intro d0 d1 h2 W2
      exfalso; clear W1 W2 WX WM; (try simp only [hasP] at *); omega
    · intro d0 d1 d2 h2 W2
      exfalso; clear W1 W2 WX WM; (try simp only [hasP] at *); omega
    · intro d0 d1 d2 h2 W2
      refine ⟨_, rfl, fun _ => rfl, ?_⟩
      refine ps_of (W1.mv (fun k hk => W2.lo hk)) W2 ?_ ?_ ?_ ?_ ?_ ?_
      · exact hR
      · exact hI
      · exact hP
      · exact him
      · exact hL
      · exact hT
theorem pr_shares {fz : Prop} {h : AH} {n w : Int} (hn : inI n) (hw : inI w) (S : PS fz h) : Con M_X_shares [.ref 78, .int (zI n), .int (zI w)] h (PI M_M_shares [.ref 90, .int (zI n), .int (zI w)] True) := by
  obtain ⟨R, I, im, P, pz, lt, lsz, tn, tsz, rf, ⟨hM, WX⟩, ⟨bb, WM⟩, hR, hI, hP, him, hL, hT, hfz⟩ := S
  have gp := WX.gp
  refine X_shares hn hw (WX.re (fun _ _ => rfl)) ?_ ?_ ?_ ?_
  · intro c0 h1 W1
    refine ⟨_, rfl, (WM.mv (fun k hk => W1.hi hk)).c90, ?_⟩
    refine M_shares hn hw hR.1  (WM.mv (fun k hk => W1.hi hk)) ?_ ?_ ?_ ?_
    · intro d0 h2 W2
      refine ⟨_, rfl, fun _ => rfl, ?_⟩
      refine ps_of (W1.mv (fun k hk => W2.lo hk)) W2 ?_ ?_ ?_ ?_ ?_ ?_
      · exact hR
      · exact hI
      · exact hP
      · exact him
      · exact hL
      · exact hT
    · intro d0 d1 h2 W2
      exfalso; clear W1 W2 WX WM; (try simp only [hasP] at *); omega
    · intro d0 d1 d2 h2 W2
      exfalso; clear W1 W2 WX WM; (try simp only [hasP] at *); omega
    · intro d0 d1 d2 h2 W2
      exfalso; clear W1 W2 WX WM; (try simp only [hasP] at *); omega
  · intro c0 c1 h1 W1
    refine ⟨_, rfl, (WM.mv (fun k hk => W1.hi hk)).c90, ?_⟩
    refine M_shares hn hw hR.1  (WM.mv (fun k hk => W1.hi hk)) ?_ ?_ ?_ ?_
    · intro d0 h2 W2
      exfalso; clear W1 W2 WX WM; (try simp only [hasP] at *); omega
    · intro d0 d1 h2 W2
      refine ⟨_, rfl, fun _ => rfl, ?_⟩
      refine ps_of (W1.mv (fun k hk => W2.lo hk)) W2 ?_ ?_ ?_ ?_ ?_ ?_
      · exact hR
      · exact hI
      · exact hP
      · exact him
      · exact hL
      · exact hT
    · intro d0 d1 d2 h2 W2
      exfalso; clear W1 W2 WX WM; (try simp only [hasP] at *); omega
    · intro d0 d1 d2 h2 W2
      exfalso; clear W1 W2 WX WM; (try simp only [hasP] at *); omega
  · intro c0 c1 c2 h1 W1
    refine ⟨_, rfl, (WM.mv (fun k hk => W1.hi hk)).c90, ?_⟩
    refine M_shares hn hw hR.1  (WM.mv (fun k hk => W1.hi hk)) ?_ ?_ ?_ ?_
    · intro d0 h2 W2
      exfalso; clear W1 W2 WX WM; (try simp only [hasP] at *); omega
    · intro d0 d1 h2 W2
      exfalso; clear W1 W2 WX WM; (try simp only [hasP] at *); omega
    · intro d0 d1 d2 h2 W2
      refine ⟨_, rfl, fun _ => rfl, ?_⟩
      refine ps_of (W1.mv (fun k hk => W2.lo hk)) W2 ?_ ?_ ?_ ?_ ?_ ?_
      · exact hR
      · exact hI
      · exact hP
      · exact him
      · exact hL
      · exact hT
    · intro d0 d1 d2 h2 W2
      exfalso; clear W1 W2 WX WM; (try simp only [hasP] at *); omega
  · intro c0 c1 c2 h1 W1
    refine ⟨_, rfl, (WM.mv (fun k hk => W1.hi hk)).c90, ?_⟩
    refine M_shares hn hw hR.1  (WM.mv (fun k hk => W1.hi hk)) ?_ ?_ ?_ ?_
    · intro d0 h2 W2
      exfalso; clear W1 W2 WX WM; (try simp only [hasP] at *); omega
    · intro d0 d1 h2 W2
      exfalso; clear W1 W2 WX WM; (try simp only [hasP] at *); omega
    · intro d0 d1 d2 h2 W2
      exfalso; clear W1 W2 WX WM; (try simp only [hasP] at *); omega
    · intro d0 d1 d2 h2 W2
      refine ⟨_, rfl, fun _ => rfl, ?_⟩
      refine ps_of (W1.mv (fun k hk => W2.lo hk)) W2 ?_ ?_ ?_ ?_ ?_ ?_
      · exact hR
      · exact hI
      · exact hP
      · exact him
      · exact hL
      · exact hT
theorem pr_strongest {fz : Prop} {h : AH} {w : Int} (hw : inI w) (S : PS fz h) : Con M_X_strongest [.ref 78, .int (zI w)] h (PI M_M_strongest [.ref 90, .int (zI w)] True) := by
  obtain ⟨R, I, im, P, pz, lt, lsz, tn, tsz, rf, ⟨hM, WX⟩, ⟨bb, WM⟩, hR, hI, hP, him, hL, hT, hfz⟩ := S
  have gp := WX.gp
  refine X_strongest hw (WX.re (fun _ _ => rfl)) ?_ ?_
  · intro c0 h1 W1
    refine ⟨_, rfl, (WM.mv (fun k hk => W1.hi hk)).c90, ?_⟩
    refine M_strongest hw hR.1  (WM.mv (fun k hk => W1.hi hk)) ?_ ?_
    · intro d0 h2 W2
      refine ⟨_, rfl, fun _ => rfl, ?_⟩
      refine ps_of (W1.mv (fun k hk => W2.lo hk)) W2 ?_ ?_ ?_ ?_ ?_ ?_
      · exact hR
      · exact hI
      · exact hP
      · exact him
      · exact hL
      · exact hT
    · intro d0 h2 W2
      exfalso; clear W1 W2 WX WM; (try simp only [hasP] at *); omega
  · intro c0 h1 W1
    refine ⟨_, rfl, (WM.mv (fun k hk => W1.hi hk)).c90, ?_⟩
    refine M_strongest hw hR.1  (WM.mv (fun k hk => W1.hi hk)) ?_ ?_
    · intro d0 h2 W2
      exfalso; clear W1 W2 WX WM; (try simp only [hasP] at *); omega
    · intro d0 h2 W2
      refine ⟨_, rfl, fun _ => rfl, ?_⟩
      refine ps_of (W1.mv (fun k hk => W2.lo hk)) W2 ?_ ?_ ?_ ?_ ?_ ?_
      · exact hR
      · exact hI
      · exact hP
      · exact him
      · exact hL
      · exact hT
theorem pr_mean {fz : Prop} {h : AH} {w : Int} (hw : inI w) (S : PS fz h) : Con M_X_mean [.ref 78, .int (zI w)] h (PJ M_M_mean [.ref 90, .int (zI w)] True) := by
  obtain ⟨R, I, im, P, pz, lt, lsz, tn, tsz, rf, ⟨hM, WX⟩, ⟨bb, WM⟩, hR, hI, hP, him, hL, hT, hfz⟩ := S
  have gp := WX.gp
  refine X_mean hw (WX.re (fun _ _ => rfl)) ?_ ?_
  · intro c0 h1 W1
    refine ⟨_, rfl, (WM.mv (fun k hk => W1.hi hk)).c90, ?_⟩
    refine M_mean hw hR.1  (WM.mv (fun k hk => W1.hi hk)) ?_ ?_
    · intro d0 h2 W2
      refine ⟨_, rfl, fun _ => rfl, ?_⟩
      refine ps_of (W1.mv (fun k hk => W2.lo hk)) W2 ?_ ?_ ?_ ?_ ?_ ?_
      · exact hR
      · exact hI
      · exact hP
      · exact him
      · exact hL
      · exact hT
    · intro d0 h2 W2
      exfalso; clear W1 W2 WX WM; (try simp only [hasP] at *); omega
  · intro c0 h1 W1
    refine ⟨_, rfl, (WM.mv (fun k hk => W1.hi hk)).c90, ?_⟩
    refine M_mean hw hR.1  (WM.mv (fun k hk => W1.hi hk)) ?_ ?_
    · intro d0 h2 W2
      exfalso; clear W1 W2 WX WM; (try simp only [hasP] at *); omega
    · intro d0 h2 W2
      refine ⟨_, rfl, fun _ => rfl, ?_⟩
      refine ps_of (W1.mv (fun k hk => W2.lo hk)) W2 ?_ ?_ ?_ ?_ ?_ ?_
      · exact hR
      · exact hI
      · exact hP
      · exact him
      · exact hL
      · exact hT
theorem pr_spare {fz : Prop} {h : AH} {m : Int} (hm : inI m) (S : PS fz h) : Con M_X_spare [.ref 78, .int (zI m)] h (PI M_M_spare [.ref 90, .int (zI m)] True) := by
  obtain ⟨R, I, im, P, pz, lt, lsz, tn, tsz, rf, ⟨hM, WX⟩, ⟨bb, WM⟩, hR, hI, hP, him, hL, hT, hfz⟩ := S
  have gp := WX.gp
  refine X_spare hm (WX.re (fun _ _ => rfl)) ?_ ?_
  · intro c0 h1 W1
    refine ⟨_, rfl, (WM.mv (fun k hk => W1.hi hk)).c90, ?_⟩
    refine M_spare hm hR.1  (WM.mv (fun k hk => W1.hi hk)) ?_ ?_
    · intro d0 h2 W2
      refine ⟨_, rfl, fun _ => rfl, ?_⟩
      refine ps_of (W1.mv (fun k hk => W2.lo hk)) W2 ?_ ?_ ?_ ?_ ?_ ?_
      · exact hR
      · exact hI
      · exact hP
      · exact him
      · exact hL
      · exact hT
    · intro d0 h2 W2
      exfalso; clear W1 W2 WX WM; (try simp only [hasP] at *); omega
  · intro c0 h1 W1
    refine ⟨_, rfl, (WM.mv (fun k hk => W1.hi hk)).c90, ?_⟩
    refine M_spare hm hR.1  (WM.mv (fun k hk => W1.hi hk)) ?_ ?_
    · intro d0 h2 W2
      exfalso; clear W1 W2 WX WM; (try simp only [hasP] at *); omega
    · intro d0 h2 W2
      refine ⟨_, rfl, fun _ => rfl, ?_⟩
      refine ps_of (W1.mv (fun k hk => W2.lo hk)) W2 ?_ ?_ ?_ ?_ ?_ ?_
      · exact hR
      · exact hI
      · exact hP
      · exact him
      · exact hL
      · exact hT
theorem pr_height {fz : Prop} {h : AH} {w : Int} (hw : inI w) (S : PS fz h) : Con M_X_height [.ref 78, .int (zI w)] h (PI M_M_height [.ref 90, .int (zI w)] True) := by
  obtain ⟨R, I, im, P, pz, lt, lsz, tn, tsz, rf, ⟨hM, WX⟩, ⟨bb, WM⟩, hR, hI, hP, him, hL, hT, hfz⟩ := S
  have gp := WX.gp
  refine X_height hw (WX.re (fun _ _ => rfl)) ?_ ?_
  · intro c0 h1 W1
    refine ⟨_, rfl, (WM.mv (fun k hk => W1.hi hk)).c90, ?_⟩
    refine M_height hw hR.1  (WM.mv (fun k hk => W1.hi hk)) ?_ ?_
    · intro d0 h2 W2
      refine ⟨_, rfl, fun _ => rfl, ?_⟩
      refine ps_of (W1.mv (fun k hk => W2.lo hk)) W2 ?_ ?_ ?_ ?_ ?_ ?_
      · exact hR
      · exact hI
      · exact hP
      · exact him
      · exact hL
      · exact hT
    · intro d0 h2 W2
      exfalso; clear W1 W2 WX WM; (try simp only [hasP] at *); omega
  · intro c0 h1 W1
    refine ⟨_, rfl, (WM.mv (fun k hk => W1.hi hk)).c90, ?_⟩
    refine M_height hw hR.1  (WM.mv (fun k hk => W1.hi hk)) ?_ ?_
    · intro d0 h2 W2
      exfalso; clear W1 W2 WX WM; (try simp only [hasP] at *); omega
    · intro d0 h2 W2
      refine ⟨_, rfl, fun _ => rfl, ?_⟩
      refine ps_of (W1.mv (fun k hk => W2.lo hk)) W2 ?_ ?_ ?_ ?_ ?_ ?_
      · exact hR
      · exact hI
      · exact hP
      · exact him
      · exact hL
      · exact hT
theorem pr_eased {fz : Prop} {h : AH} {n : Int} (hn : inI n) (S : PS fz h) : Con M_X_eased [.ref 78, .int (zI n)] h (PI M_M_eased [.ref 90, .int (zI n)] True) := by
  obtain ⟨R, I, im, P, pz, lt, lsz, tn, tsz, rf, ⟨hM, WX⟩, ⟨bb, WM⟩, hR, hI, hP, him, hL, hT, hfz⟩ := S
  have gp := WX.gp
  refine X_eased hn (WX.re (fun _ _ => rfl)) ?_ ?_ ?_
  · intro c0 h1 W1
    refine ⟨_, rfl, (WM.mv (fun k hk => W1.hi hk)).c90, ?_⟩
    refine M_eased hn hR.1  (WM.mv (fun k hk => W1.hi hk)) ?_ ?_ ?_
    · intro d0 h2 W2
      refine ⟨_, rfl, fun _ => rfl, ?_⟩
      refine ps_of (W1.mv (fun k hk => W2.lo hk)) W2 ?_ ?_ ?_ ?_ ?_ ?_
      · exact hR
      · exact hI
      · exact hP
      · exact him
      · exact hL
      · exact hT
    · intro d0 d1 h2 W2
      exfalso; clear W1 W2 WX WM; (try simp only [hasP] at *); omega
    · intro d0 d1 h2 W2
      exfalso; clear W1 W2 WX WM; (try simp only [hasP] at *); omega
  · intro c0 c1 h1 W1
    refine ⟨_, rfl, (WM.mv (fun k hk => W1.hi hk)).c90, ?_⟩
    refine M_eased hn hR.1  (WM.mv (fun k hk => W1.hi hk)) ?_ ?_ ?_
    · intro d0 h2 W2
      exfalso; clear W1 W2 WX WM; (try simp only [hasP] at *); omega
    · intro d0 d1 h2 W2
      refine ⟨_, rfl, fun _ => rfl, ?_⟩
      refine ps_of (W1.mv (fun k hk => W2.lo hk)) W2 ?_ ?_ ?_ ?_ ?_ ?_
      · exact hR
      · exact hI
      · exact hP
      · exact him
      · exact hL
      · exact hT
    · intro d0 d1 h2 W2
      exfalso; clear W1 W2 WX WM; (try simp only [hasP] at *); omega
  · intro c0 c1 h1 W1
    refine ⟨_, rfl, (WM.mv (fun k hk => W1.hi hk)).c90, ?_⟩
    refine M_eased hn hR.1  (WM.mv (fun k hk => W1.hi hk)) ?_ ?_ ?_
    · intro d0 h2 W2
      exfalso; clear W1 W2 WX WM; (try simp only [hasP] at *); omega
    · intro d0 d1 h2 W2
      exfalso; clear W1 W2 WX WM; (try simp only [hasP] at *); omega
    · intro d0 d1 h2 W2
      refine ⟨_, rfl, fun _ => rfl, ?_⟩
      refine ps_of (W1.mv (fun k hk => W2.lo hk)) W2 ?_ ?_ ?_ ?_ ?_ ?_
      · exact hR
      · exact hI
      · exact hP
      · exact him
      · exact hL
      · exact hT
theorem pr_shoulders {fz : Prop} {h : AH} {k : Int} (hk : inI k) (S : PS fz h) : Con M_X_shoulders [.ref 78, .int (zI k)] h (PI M_M_shoulders [.ref 90, .int (zI k)] True) := by
  obtain ⟨R, I, im, P, pz, lt, lsz, tn, tsz, rf, ⟨hM, WX⟩, ⟨bb, WM⟩, hR, hI, hP, him, hL, hT, hfz⟩ := S
  have gp := WX.gp
  refine X_shoulders hk (WX.re (fun _ _ => rfl)) ?_ ?_
  · intro c0 h1 W1
    refine ⟨_, rfl, (WM.mv (fun k hk => W1.hi hk)).c90, ?_⟩
    refine M_shoulders hk hR.1  (WM.mv (fun k hk => W1.hi hk)) ?_ ?_
    · intro d0 h2 W2
      refine ⟨_, rfl, fun _ => rfl, ?_⟩
      refine ps_of (W1.mv (fun k hk => W2.lo hk)) W2 ?_ ?_ ?_ ?_ ?_ ?_
      · exact hR
      · exact hI
      · exact hP
      · exact him
      · exact hL
      · exact hT
    · intro d0 h2 W2
      exfalso; clear W1 W2 WX WM; (try simp only [hasP] at *); omega
  · intro c0 h1 W1
    refine ⟨_, rfl, (WM.mv (fun k hk => W1.hi hk)).c90, ?_⟩
    refine M_shoulders hk hR.1  (WM.mv (fun k hk => W1.hi hk)) ?_ ?_
    · intro d0 h2 W2
      exfalso; clear W1 W2 WX WM; (try simp only [hasP] at *); omega
    · intro d0 h2 W2
      refine ⟨_, rfl, fun _ => rfl, ?_⟩
      refine ps_of (W1.mv (fun k hk => W2.lo hk)) W2 ?_ ?_ ?_ ?_ ?_ ?_
      · exact hR
      · exact hI
      · exact hP
      · exact him
      · exact hL
      · exact hT
theorem pr_row {fz : Prop} {h : AH} {v : Int} (hv : inI v) (S : PS fz h) : Con M_X_row [.ref 78, .int (zI v)] h (PI M_M_row [.ref 90, .int (zI v)] True) := by
  obtain ⟨R, I, im, P, pz, lt, lsz, tn, tsz, rf, ⟨hM, WX⟩, ⟨bb, WM⟩, hR, hI, hP, him, hL, hT, hfz⟩ := S
  have gp := WX.gp
  refine X_row hv hT (WX.re (fun _ _ => rfl)) ?_ ?_ ?_
  · intro c0 h1 W1
    refine ⟨_, rfl, (WM.mv (fun k hk => W1.hi hk)).c90, ?_⟩
    refine M_row hv hT hR.1  (WM.mv (fun k hk => W1.hi hk)) ?_ ?_ ?_
    · intro d0 h2 W2
      refine ⟨_, rfl, fun _ => rfl, ?_⟩
      refine ps_of (W1.mv (fun k hk => W2.lo hk)) W2 ?_ ?_ ?_ ?_ ?_ ?_
      · exact hR
      · exact hI
      · exact hP
      · exact him
      · exact hL
      · exact hT
    · intro d0 d1 h2 W2
      exfalso; clear W1 W2 WX WM; (try simp only [hasP] at *); omega
    · intro d0 d1 d2 h2 W2
      exfalso; clear W1 W2 WX WM; (try simp only [hasP] at *); omega
  · intro c0 c1 h1 W1
    refine ⟨_, rfl, (WM.mv (fun k hk => W1.hi hk)).c90, ?_⟩
    refine M_row hv hT hR.1  (WM.mv (fun k hk => W1.hi hk)) ?_ ?_ ?_
    · intro d0 h2 W2
      exfalso; clear W1 W2 WX WM; (try simp only [hasP] at *); omega
    · intro d0 d1 h2 W2
      refine ⟨_, rfl, fun _ => rfl, ?_⟩
      refine ps_of (W1.mv (fun k hk => W2.lo hk)) W2 ?_ ?_ ?_ ?_ ?_ ?_
      · exact hR
      · exact hI
      · exact hP
      · exact him
      · exact hL
      · exact hT
    · intro d0 d1 d2 h2 W2
      exfalso; clear W1 W2 WX WM; (try simp only [hasP] at *); omega
  · intro c0 c1 c2 h1 W1
    refine ⟨_, rfl, (WM.mv (fun k hk => W1.hi hk)).c90, ?_⟩
    refine M_row hv hT hR.1  (WM.mv (fun k hk => W1.hi hk)) ?_ ?_ ?_
    · intro d0 h2 W2
      exfalso; clear W1 W2 WX WM; (try simp only [hasP] at *); omega
    · intro d0 d1 h2 W2
      exfalso; clear W1 W2 WX WM; (try simp only [hasP] at *); omega
    · intro d0 d1 d2 h2 W2
      refine ⟨_, rfl, fun _ => rfl, ?_⟩
      refine ps_of (W1.mv (fun k hk => W2.lo hk)) W2 ?_ ?_ ?_ ?_ ?_ ?_
      · exact hR
      · exact hI
      · exact hP
      · exact him
      · exact hL
      · exact gt_row hT (by omega) (by omega) (by omega)
theorem pr_judge {fz : Prop} {h : AH}  (S : PS fz h) : Con M_X_judge [.ref 78] h (PI M_M_judge [.ref 90] True) := by
  obtain ⟨R, I, im, P, pz, lt, lsz, tn, tsz, rf, ⟨hM, WX⟩, ⟨bb, WM⟩, hR, hI, hP, him, hL, hT, hfz⟩ := S
  have gp := WX.gp
  refine X_judge hT (WX.re (fun _ _ => rfl)) ?_
  · intro  h1 W1
    refine ⟨_, rfl, (WM.mv (fun k hk => W1.hi hk)).c90, ?_⟩
    refine M_judge hT hR.1  (WM.mv (fun k hk => W1.hi hk)) ?_
    · intro  h2 W2
      refine ⟨_, rfl, fun _ => rfl, ?_⟩
      refine ps_of (W1.mv (fun k hk => W2.lo hk)) W2 ?_ ?_ ?_ ?_ ?_ ?_
      · exact hR
      · exact hI
      · exact hP
      · exact him
      · exact hL
      · exact ⟨by omega, hT.2⟩
theorem pr_clear {fz : Prop} {h : AH}  (S : PS fz h) : Con M_X_clear [.ref 78] h (PI M_M_clear [.ref 90] True) := by
  obtain ⟨R, I, im, P, pz, lt, lsz, tn, tsz, rf, ⟨hM, WX⟩, ⟨bb, WM⟩, hR, hI, hP, him, hL, hT, hfz⟩ := S
  have gp := WX.gp
  refine X_clear  (WX.re (fun _ _ => rfl)) ?_
  · intro  h1 W1
    refine ⟨_, rfl, (WM.mv (fun k hk => W1.hi hk)).c90, ?_⟩
    refine M_clear  hR.1  (WM.mv (fun k hk => W1.hi hk)) ?_
    · intro  h2 W2
      refine ⟨_, rfl, fun _ => rfl, ?_⟩
      refine ps_of (W1.mv (fun k hk => W2.lo hk)) W2 ?_ ?_ ?_ ?_ ?_ ?_
      · exact hR
      · exact hI
      · exact hP
      · exact him
      · exact hL
      · exact ⟨by omega, hT.2⟩
theorem pr_lots {fz : Prop} {h : AH} {n z w : Int} (hn : inI n) (hz : inI z) (hw : inI w) (S : PS fz h) : Con M_X_lots [.ref 78, .int (zI n), .int (zI z), .int (zI w)] h (PI M_M_lots [.ref 90, .int (zI n), .int (zI z), .int (zI w)] True) := by
  obtain ⟨R, I, im, P, pz, lt, lsz, tn, tsz, rf, ⟨hM, WX⟩, ⟨bb, WM⟩, hR, hI, hP, him, hL, hT, hfz⟩ := S
  have gp := WX.gp
  refine X_lots hn hz hw (WX.re (fun _ _ => rfl)) ?_ ?_ ?_ ?_
  · intro c0 h1 W1
    refine ⟨_, rfl, (WM.mv (fun k hk => W1.hi hk)).c90, ?_⟩
    refine M_lots hn hz hw hR.1  (WM.mv (fun k hk => W1.hi hk)) ?_ ?_ ?_ ?_
    · intro d0 h2 W2
      refine ⟨_, rfl, fun _ => rfl, ?_⟩
      refine ps_of (W1.mv (fun k hk => W2.lo hk)) W2 ?_ ?_ ?_ ?_ ?_ ?_
      · exact hR
      · exact hI
      · exact hP
      · exact him
      · exact hL
      · exact hT
    · intro d0 d1 h2 W2
      exfalso; clear W1 W2 WX WM; (try simp only [hasP] at *); omega
    · intro d0 d1 d2 h2 W2
      exfalso; clear W1 W2 WX WM; (try simp only [hasP] at *); omega
    · intro d0 d1 d2 h2 W2
      exfalso; clear W1 W2 WX WM; (try simp only [hasP] at *); omega
  · intro c0 c1 h1 W1
    refine ⟨_, rfl, (WM.mv (fun k hk => W1.hi hk)).c90, ?_⟩
    refine M_lots hn hz hw hR.1  (WM.mv (fun k hk => W1.hi hk)) ?_ ?_ ?_ ?_
    · intro d0 h2 W2
      exfalso; clear W1 W2 WX WM; (try simp only [hasP] at *); omega
    · intro d0 d1 h2 W2
      refine ⟨_, rfl, fun _ => rfl, ?_⟩
      refine ps_of (W1.mv (fun k hk => W2.lo hk)) W2 ?_ ?_ ?_ ?_ ?_ ?_
      · exact hR
      · exact hI
      · exact hP
      · exact him
      · exact hL
      · exact hT
    · intro d0 d1 d2 h2 W2
      exfalso; clear W1 W2 WX WM; (try simp only [hasP] at *); omega
    · intro d0 d1 d2 h2 W2
      exfalso; clear W1 W2 WX WM; (try simp only [hasP] at *); omega
  · intro c0 c1 c2 h1 W1
    refine ⟨_, rfl, (WM.mv (fun k hk => W1.hi hk)).c90, ?_⟩
    refine M_lots hn hz hw hR.1  (WM.mv (fun k hk => W1.hi hk)) ?_ ?_ ?_ ?_
    · intro d0 h2 W2
      exfalso; clear W1 W2 WX WM; (try simp only [hasP] at *); omega
    · intro d0 d1 h2 W2
      exfalso; clear W1 W2 WX WM; (try simp only [hasP] at *); omega
    · intro d0 d1 d2 h2 W2
      refine ⟨_, rfl, fun _ => rfl, ?_⟩
      refine ps_of (W1.mv (fun k hk => W2.lo hk)) W2 ?_ ?_ ?_ ?_ ?_ ?_
      · exact hR
      · exact hI
      · exact hP
      · exact him
      · exact hL
      · exact hT
    · intro d0 d1 d2 h2 W2
      exfalso; clear W1 W2 WX WM; (try simp only [hasP] at *); omega
  · intro c0 c1 c2 h1 W1
    refine ⟨_, rfl, (WM.mv (fun k hk => W1.hi hk)).c90, ?_⟩
    refine M_lots hn hz hw hR.1  (WM.mv (fun k hk => W1.hi hk)) ?_ ?_ ?_ ?_
    · intro d0 h2 W2
      exfalso; clear W1 W2 WX WM; (try simp only [hasP] at *); omega
    · intro d0 d1 h2 W2
      exfalso; clear W1 W2 WX WM; (try simp only [hasP] at *); omega
    · intro d0 d1 d2 h2 W2
      exfalso; clear W1 W2 WX WM; (try simp only [hasP] at *); omega
    · intro d0 d1 d2 h2 W2
      refine ⟨_, rfl, fun _ => rfl, ?_⟩
      refine ps_of (W1.mv (fun k hk => W2.lo hk)) W2 ?_ ?_ ?_ ?_ ?_ ?_
      · exact hR
      · exact hI
      · exact hP
      · exact him
      · exact hL
      · exact hT
theorem pr_image {fz : Prop} {h : AH}  (S : PS fz h) : Con M_X_image [.ref 78] h (PI M_M_image [.ref 90] True) := by
  obtain ⟨R, I, im, P, pz, lt, lsz, tn, tsz, rf, ⟨hM, WX⟩, ⟨bb, WM⟩, hR, hI, hP, him, hL, hT, hfz⟩ := S
  have gp := WX.gp
  refine X_image  (WX.re (fun _ _ => rfl)) ?_
  · intro  h1 W1
    refine ⟨_, rfl, (WM.mv (fun k hk => W1.hi hk)).c90, ?_⟩
    refine M_image  hR.1  (WM.mv (fun k hk => W1.hi hk)) ?_
    · intro  h2 W2
      refine ⟨_, rfl, fun _ => rfl, ?_⟩
      refine ps_of (W1.mv (fun k hk => W2.lo hk)) W2 ?_ ?_ ?_ ?_ ?_ ?_
      · exact hR
      · exact hR
      · exact hP
      · exact Or.inr rfl
      · exact hL
      · exact hT
theorem pr_restore {fz : Prop} {h : AH}  (S : PS fz h) : Con M_X_restore [.ref 78] h (PI M_M_restore [.ref 90] True) := by
  obtain ⟨R, I, im, P, pz, lt, lsz, tn, tsz, rf, ⟨hM, WX⟩, ⟨bb, WM⟩, hR, hI, hP, him, hL, hT, hfz⟩ := S
  have gp := WX.gp
  refine X_restore him (WX.re (fun _ _ => rfl)) ?_ ?_
  · intro c0 h1 W1
    refine ⟨_, rfl, (WM.mv (fun k hk => W1.hi hk)).c90, ?_⟩
    refine M_restore him hR.1 hI.1 (WM.mv (fun k hk => W1.hi hk)) ?_ ?_
    · intro d0 h2 W2
      refine ⟨_, rfl, fun _ => rfl, ?_⟩
      refine ps_of (W1.mv (fun k hk => W2.lo hk)) W2 ?_ ?_ ?_ ?_ ?_ ?_
      · exact hR
      · exact hI
      · exact hP
      · exact him
      · exact hL
      · exact hT
    · intro d0 h2 W2
      exfalso; clear W1 W2 WX WM; (try simp only [hasP] at *); omega
  · intro c0 h1 W1
    refine ⟨_, rfl, (WM.mv (fun k hk => W1.hi hk)).c90, ?_⟩
    refine M_restore him hR.1 hI.1 (WM.mv (fun k hk => W1.hi hk)) ?_ ?_
    · intro d0 h2 W2
      exfalso; clear W1 W2 WX WM; (try simp only [hasP] at *); omega
    · intro d0 h2 W2
      refine ⟨_, rfl, fun _ => rfl, ?_⟩
      refine ps_of (W1.mv (fun k hk => W2.lo hk)) W2 ?_ ?_ ?_ ?_ ?_ ?_
      · exact hI
      · exact hI
      · exact fun i hi => absurd hi (by omega)
      · exact him
      · exact hL
      · exact hT
theorem pr_count {fz : Prop} {h : AH} {w : Int} (hw : inI w) (S : PS fz h) : Con M_X_count [.ref 78, .int (zI w)] h (PI M_M_count [.ref 90, .int (zI w)] True) := by
  obtain ⟨R, I, im, P, pz, lt, lsz, tn, tsz, rf, ⟨hM, WX⟩, ⟨bb, WM⟩, hR, hI, hP, him, hL, hT, hfz⟩ := S
  have gp := WX.gp
  refine X_count hw (WX.re (fun _ _ => rfl)) ?_
  · intro  h1 W1
    refine ⟨_, rfl, (WM.mv (fun k hk => W1.hi hk)).c90, ?_⟩
    refine M_count hw hR.1  (WM.mv (fun k hk => W1.hi hk)) ?_
    · intro  h2 W2
      refine ⟨_, rfl, fun _ => rfl, ?_⟩
      refine ps_of (W1.mv (fun k hk => W2.lo hk)) W2 ?_ ?_ ?_ ?_ ?_ ?_
      · exact hR
      · exact hI
      · exact hP
      · exact him
      · exact hL
      · exact hT
