/-! THE CLAIM OUT OF ONE WALK OF THE LAW'S BODY. Your part is whole_start (and what it stands on); all else here is the same for every law, but numbers. -/
def R_law : String := "CarriedHomeLaw"
def lw_P (b : Addr) (xs : List Int32) (args : Array Value) (s : State) : Prop := args = #[.ref b] ∧ s.IntsAt b xs ∧ xs.length ≤ 5 ∧ (Jvm.Cond.and given_1 narrow_1).before args s = true
def lw_Q (_ : Array Value) (s : State) (o : Outcome) (t : State) : Prop := o = .returned (some (.int 1)) ∧ Framed s o t [] 600000 7302250
def lw_Z (below : List Frame) (a : Array Value) (s : State) : State → Prop := fun t => ∃ o, t.status = .running ∧ Ended t below o ∧ lw_Q a s o t
/-- the law's own end, with 1 on the stack, nothing written that was there before, its room as the claim has it -/
theorem lw_ret {p : Program} {l : Launch} {e : Env} {s : State} {m : MethodId} {below : List Frame} {meth : Method} {c : Code} {b : Nat} (hx : p.tables.exec = Jvm.exec) (hb : c.code = code) (hr : meth.sig.returnType = ret) (hlocks : meth.locks = false) {pc : Nat} {H : Heap} {ls : Array Slot} (hdg : decode code pc = .ok (.ireturn, 1)) : W p l e room_1 s m #[Value.ref b] below meth c H [] 600000 7302250 (lw_Z below #[Value.ref b] s) (F0 m pc ls [.int 1]) := by
  intro T hT X
  obtain ⟨fs, hret, hrun, hended, hW, hframe⟩ := X.leave (v := some (.int 1)) (hlocks := hlocks) (fun h => by rw [hr] at h; cases h)
  have hmeth' : T.vm.method? m = some meth := X.method'
  refine ⟨T.setFrames fs, ?_, .returned (some (.int 1)), hrun, hended, rfl, ⟨_, rfl⟩, hW, hframe⟩
  jvm_step X.here [X.here.top, hx, hb, hdg, hmeth', hr, ret, narrow_b1]
  (try refine ⟨rfl, ?_⟩); (try refine ⟨rfl, ?_⟩)
  first | (intro acts; rw [hret _ acts rfl rfl rfl]) | rw [hret _ _ rfl rfl rfl]
  exact Steps.refl _
/-- what holds at the law's entry: the machine, the code, the tables' words (any of lw_tbl by 'hts w (by decide +kernel)'), the script of L ints xs at the cell b, what the Statement gives of the start (any of its parts by flat_of_before) -/
def lw_At (p : Program) (s : State) (m : MethodId) (meth : Method) (c : Code) (b L : Nat) (xs : Nat → Int32) : Prop :=
  p.tables.exec = Jvm.exec ∧ c.code = code ∧ meth.sig.returnType = ret ∧ c.maxLocals = 4 ∧ s.vm.findClass R_law = some m.cls ∧ (∀ w ∈ lw_tbl, w.before #[Value.ref b] s = true) ∧ va_X b L xs s s.heap ∧ b < s.heap.size ∧ meth.locks = false ∧ (Jvm.Cond.and given_1 narrow_1).before #[Value.ref b] s = true
def NN : Nat := 5
theorem NN_le : NN ≤ 2560 := Nat.le_of_ble_eq_true rfl
def LF (p : Program) (l : Launch) (e : Env) (s : State) (m : MethodId) (below : List Frame) (meth : Method) (c : Code) (b L : Nat) (xs : Nat → Int32) (G : va_G) (cI cR : ClassId) : Prop :=
  lw_At p s m meth c b L xs ∧ va_K G vwCl (tyz cI cR) s ∧ NW s ∧ L ≤ NN ∧ l = l ∧ e = e ∧ below = below
theorem tnL {i : Nat} (h : i < 100000) : (zI (i : Int)).toNatClampNeg = i := by
  show (zI (i : Int)).toInt.toNat = i
  rw [zI_toInt (by omega) (by omega), Int.toNat_natCast]
theorem vp_inL {i n : Nat} (h : i < n) (hn : n ≤ 2560) : vp_in (zI (i : Int)) n := by
  intro q
  rcases q with q | q
  · rw [Int32.lt_iff_toInt_lt, zI_toInt (by omega) (by omega)] at q
    have : (0 : Int32).toInt = 0 := rfl
    omega
  · rw [tnL (by omega)] at q
    omega
theorem inI_x (x : Int32) : inI x.toInt := zI_rng x
section LAWK
variable {p : Program} {l : Launch} {e : Env} {s : State} {m : MethodId} {below : List Frame} {meth : Method} {c : Code} {b L : Nat} {xs : Nat → Int32} {G : va_G} {cI cR : ClassId} {σ : Nat → Nat}
/-- in the law's own body: the script, class, reference and count in the locals, the world by its numbers -/
def LJ (_ : LF p l e s m below meth c b L xs G cI cR) (σ : Nat → Nat) (n pc : Nat) (st : List Value) (h : AH) : Prop :=
  ∀ (H : Heap) (locs : List Loc) (ls : Array Slot), va_P G vwCl (wd cI cR σ 107 h) H → va_D (fun q => s.heap.size ≤ q) (wd cI cR σ 107 h) → va_S (fun q => s.heap.size ≤ q) s.heap H locs → hB 107 h → lv_has ls 4 [(0, .ref b), (1, .ref (σ 78)), (2, .ref (σ 90)), (3, .int (zI (n : Int)))] →
    W p l e room_1 s m #[Value.ref b] below meth c H locs 600000 7302250 (lw_Z below #[Value.ref b] s) (F0 m pc ls st)
variable {F : LF p l e s m below meth c b L xs G cI cR} {n pc : Nat} {st : List Value} {h : AH}
theorem lj_st {st' : List Value} (hs : st = st') (K : LJ F σ n pc st' h) : LJ F σ n pc st h := by
  subst hs
  exact K
theorem lj_s (hd : decode code pc = .ok (.aload_n 0, 1)) (K : LJ F σ n (pc + 1) (.ref b :: st) h) : LJ F σ n pc st h := by
  intro H locs ls hP hD hS hB E
  exact lv_aload_n F.1.1 F.1.2.1 hd rfl (lv_at E 0 rfl) (K H locs ls hP hD hS hB E)
theorem lj_x (hd : decode code pc = .ok (.aload_n 1, 1)) (K : LJ F σ n (pc + 1) (.ref (σ 78) :: st) h) : LJ F σ n pc st h := by
  intro H locs ls hP hD hS hB E
  exact lv_aload_n F.1.1 F.1.2.1 hd rfl (lv_at E 1 rfl) (K H locs ls hP hD hS hB E)
theorem lj_m (hd : decode code pc = .ok (.aload_n 2, 1)) (K : LJ F σ n (pc + 1) (.ref (σ 90) :: st) h) : LJ F σ n pc st h := by
  intro H locs ls hP hD hS hB E
  exact lv_aload_n F.1.1 F.1.2.1 hd rfl (lv_at E 2 rfl) (K H locs ls hP hD hS hB E)
theorem lj_i (hd : decode code pc = .ok (.iload_n 3, 1)) (K : LJ F σ n (pc + 1) (.int (zI (n : Int)) :: st) h) : LJ F σ n pc st h := by
  intro H locs ls hP hD hS hB E
  exact lv_iload_n F.1.1 F.1.2.1 hd rfl (lv_at E 3 rfl) (K H locs ls hP hD hS hB E)
theorem lj_ld {i : Nat} (hi : i < L) (hd : decode code pc = .ok (.iaload, 1)) (K : LJ F σ n (pc + 1) (.int (zI (xs i).toInt) :: st) h) : LJ F σ n pc (.int (zI (i : Int)) :: .ref b :: st) h := by
  intro H locs ls hP hD hS hB E
  have hL := F.2.2.2.1
  have hN := NN_le
  refine va_sld F.1.1 F.1.2.1 F.1.2.2.2.2.2.2.1 F.1.2.2.2.2.2.2.2.1 (Nat.not_le.mpr F.1.2.2.2.2.2.2.2.1) hS (vp_inL hi (by omega)) hd ?_
  rw [tnL (by omega), ← zI_of (xs i)]
  exact K H locs ls hP hD hS hB E
theorem lj_add {x y : Int} (hd : decode code pc = .ok (.iadd, 1)) (K : LJ F σ n (pc + 1) (.int (zI (x + y)) :: st) h) : LJ F σ n pc (.int (zI y) :: .int (zI x) :: st) h := by
  intro H locs ls hP hD hS hB E
  refine lv_iadd F.1.1 F.1.2.1 hd ?_
  rw [zI_add]
  exact K H locs ls hP hD hS hB E
theorem lj_cn {k : Int} (hd : decode code pc = .ok (.iconst k, 1)) (K : LJ F σ n (pc + 1) (.int (zI k) :: st) h) : LJ F σ n pc st h := by
  intro H locs ls hP hD hS hB E
  exact lv_iconst F.1.1 F.1.2.1 hd rfl (K H locs ls hP hD hS hB E)
/-- one of the script's ints, as an argument -/
theorem lj_arg (k : Nat) (hk : n + k < L) (h0 : decode code pc = .ok (.aload_n 0, 1)) (h1 : decode code (pc + 1) = .ok (.iload_n 3, 1)) (h2 : decode code (pc + 2) = .ok (.iconst (k : Int), 1)) (h3 : decode code (pc + 3) = .ok (.iadd, 1)) (h4 : decode code (pc + 4) = .ok (.iaload, 1)) (K : LJ F σ n (pc + 5) (.int (zI (xs (n + k)).toInt) :: st) h) : LJ F σ n pc st h := by
  refine lj_s h0 (lj_i h1 (lj_cn h2 (lj_add h3 ?_)))
  rw [show (n : Int) + (k : Int) = ((n + k : Nat) : Int) by omega]
  exact lj_ld hk h4 K
/-- a call of the class or of the reference -/
theorem lj_call {Y : MD} {idx r : Nat} {bs : List Value} {fs : List Value} {rest : List Value} {Q1 : Option Value → AH → Prop} (hY : okM Y) (hpar : bs.length = mN Y) (hl : (.methodLink R_law idx (mY Y) : Cond) ∈ WT) (hi : (.instanceMethod (mY Y) : Cond) ∈ WT) (hs : (.selects (mY Y).cls (mY Y) (mY Y) : Cond) ∈ WT) (hdep : mD Y ≤ 8) (hr : h r = some (.inr (.inr (mO Y, fs)))) (hcat : (rest.map fun v => v.category).sum ≤ 8) (con : Con Y (.ref r :: bs) h Q1) (hd : decode code pc = .ok (.invokevirtual idx, 3))
    (K : ∀ v h', Q1 v h' → LJ F σ n (pc + 3) ((v.map (cv σ)).toList ++ rest) h') : LJ F σ n pc ((bs.map (cv σ)).reverse ++ .ref (σ r) :: rest) h := by
  intro H locs ls hP hD hS hB E
  obtain ⟨g1, g2, g3, g4, g5, g6, g7⟩ := okM_sp hY
  obtain ⟨x1, x2, x3, x4, x5, x6, x7, x8, x9, x10⟩ := id F.1
  have hK := F.2.1
  have hNW := F.2.2.1
  have hw : ∀ w ∈ WT, w.before #[Value.ref b] s = true := fun w q => x6 w (WT_lw q)
  have hA : ∀ q : Nat, s.heap.size ≤ q → (fun q : Nat => s.heap.size ≤ q) q := fun _ h => h
  have hG : GoodIn WT (wsV R_law idx (mY Y).cls (mY Y) (wsM Y)) := by
    refine goodApp (a := [.methodLink R_law idx (mY Y), .instanceMethod (mY Y), .selects (mY Y).cls (mY Y) (mY Y), .initialized (mY Y).cls]) ?_ ?_
    · intro w hw
      apply WT_good
      simp only [List.mem_cons, List.not_mem_nil, or_false] at hw
      rcases hw with rfl | rfl | rfl | rfl
      · exact hl
      · exact hi
      · exact hs
      · exact g2
    · intro w hw
      rcases List.mem_cons.mp hw with rfl | hw
      · exact WT_good _ g1
      · exact WT_good _ hw
  have cw : CallW room_1 s #[Value.ref b] R_law (mY Y).cls idx (mY Y) (mB Y) (mL Y) (mR Y) (wsM Y) (rmd (mD Y)) 0 0 (mN Y) := cwV (mN Y) hw hG rfl rfl rfl ⟨rfl, g5.1, g5.2, g6⟩ ⟨by show mD Y + 1 ≤ 10; omega, by show 8 + (mL Y + 11) + 40 * mD Y ≤ 366; omega⟩
  have hwd := wd_get (cI := cI) (cR := cR) (σ := σ) hB hr
  obtain ⟨q, hq, -⟩ := hP r _ hwd
  have hrecv := va_recv hK hP (ci := mO Y) (q0 := r) hq hwd
  rw [vw_cnm hq, ← g4] at hrecv
  have run := va_runV (As := bs.map (cv σ)) (rest := rest) (locs := locs) (cells := 600000) (slots := 7302250) (e := e) (g := F0 m pc ls ((bs.map (cv σ)).reverse ++ .ref (σ r) :: rest)) (below := below) (meth := meth) ⟨x1, x2, x4, x5, hw⟩ (con l G cI cR σ 107 H.size hB) cw ⟨preC1_blind, hrecv, fun U hU hW => ⟨rfl, by rw [hU], by rw [hU]; exact hP, va_K.moved hW.alike hK, hD.weaken (fun _ _ _ _ => trivial), NW.warm hW hNW⟩⟩ rfl (by rw [List.length_map, hpar]) E.1 rfl (lv_room hcat) hd ⟨Nat.le_of_ble_eq_true rfl, Nat.le_of_ble_eq_true rfl⟩
  intro T hT X
  obtain ⟨v, st₀, t, T', L', h0, X', hLq, e1, e2, ⟨⟨v', h', hQ, hoc, hP', hK', hD', hB'⟩, hz, hkk⟩, go⟩ := run T hT X
  injection hoc with hoc
  subst hoc
  rw [h0] at hz hkk
  have hsub : ∀ q, va_A (wd cI cR σ 107 h) H.size q → s.heap.size ≤ q := by
    intro q hq
    rcases hq with ⟨k, e, hk⟩ | hq
    · exact hD.2 k _ hk
    · exact Nat.le_trans hS.1 hq
  have hS' : va_S (fun q => s.heap.size ≤ q) s.heap T'.heap (locs ++ L') := by
    refine ⟨Nat.le_trans hS.1 (by rw [e1]; exact hz), fun q h1 h2 => ?_, fun q hq => ?_⟩
    · rw [e1, hkk q (Nat.lt_of_lt_of_le h1 hS.1) (fun z => h2 (hsub q z))]
      exact hS.2.1 q h1 h2
    · rcases List.mem_append.mp hq with h | h
      · exact hS.2.2 q h
      · exact hsub _ (hLq q h)
  obtain ⟨t2, a1, b1⟩ := K v' h' hQ T'.heap (locs ++ L') ls (by rw [e1]; exact hP') (hD'.weaken (fun k q _ hq => hsub _ hq)) hS' hB' E T' rfl X'
  exact ⟨t2, go t2 a1, b1⟩
theorem lj_eqI {x y : Int32} {off : Int} {tgt : Nat} (hd : decode code pc = .ok (.if_icmp .eq off, 3)) (ht : (pc : Int) + off = (tgt : Int)) (hxy : x = y) (K : LJ F σ n tgt st h) : LJ F σ n pc (.int y :: .int x :: st) h := by
  intro H locs ls hP hD hS hB E
  exact lv_icmp_eq F.1.1 F.1.2.1 hd ht (fun _ => K H locs ls hP hD hS hB E) (fun q => absurd hxy q)
theorem lj_eqJ {x y : Int64} {off : Int} {tgt : Nat} (h1 : decode code pc = .ok (.lcmp, 1)) (hd : decode code (pc + 1) = .ok (.ifCond .eq off, 3)) (ht : ((pc + 1 : Nat) : Int) + off = (tgt : Int)) (hxy : x = y) (K : LJ F σ n tgt st h) : LJ F σ n pc (.long y :: .long x :: st) h := by
  intro H locs ls hP hD hS hB E
  refine W.lcmp F.1.1 F.1.2.1 h1 ?_
  refine lv_if_eq F.1.1 F.1.2.1 hd ht (fun _ => K H locs ls hP hD hS hB E) (fun q => absurd ?_ q)
  subst hxy
  simp [lg_cmp]
theorem lj_pop {x : Int32} (hd : decode code pc = .ok (.pop, 1)) (K : LJ F σ n (pc + 1) st h) : LJ F σ n pc (.int x :: st) h := by
  intro H locs ls hP hD hS hB E
  exact lv_pop F.1.1 F.1.2.1 hd rfl (K H locs ls hP hD hS hB E)
theorem lj_pop2 {x : Int64} (hd : decode code pc = .ok (.pop2, 1)) (K : LJ F σ n (pc + 1) st h) : LJ F σ n pc (.long x :: st) h := by
  intro H locs ls hP hD hS hB E
  exact lv_pop2_2 F.1.1 F.1.2.1 hd rfl (K H locs ls hP hD hS hB E)
theorem lj_go {off : Int} {tgt : Nat} (hd : decode code pc = .ok (.goto off, 3)) (ht : (pc : Int) + off = (tgt : Int)) (K : LJ F σ n tgt st h) : LJ F σ n pc st h := by
  intro H locs ls hP hD hS hB E
  exact lv_goto F.1.1 F.1.2.1 hd ht (K H locs ls hP hD hS hB E)
theorem lj_end {off : Int} {tgt : Nat} (h1 : decode code pc = .ok (.iinc 3 5, 3)) (h2 : decode code (pc + 3) = .ok (.goto off, 3)) (ht : ((pc + 3 : Nat) : Int) + off = (tgt : Int)) (K : LJ F σ (n + 5) tgt st h) : LJ F σ n pc st h := by
  intro H locs ls hP hD hS hB E
  refine lv_iinc (v := zI ((n + 5 : Nat) : Int)) (lv' := [(3, .int (zI ((n + 5 : Nat) : Int))), (0, .ref b), (1, .ref (σ 78)), (2, .ref (σ 90))]) F.1.1 F.1.2.1 h1 E (k := 3) rfl (zI_add _ _) (Nat.le_of_ble_eq_true rfl) rfl (fun ls E => ?_)
  exact lv_goto F.1.1 F.1.2.1 h2 ht (K H locs ls hP hD hS hB (lv_sub E [1, 2, 3, 0] rfl))
theorem lj_ret (h1 : decode code pc = .ok (.iconst 1, 1)) (h2 : decode code (pc + 1) = .ok (.ireturn, 1)) : LJ F σ n pc [] h := by
  intro H locs ls hP hD hS hB E
  refine va_forget (fun q hq => hS.2.2 q hq) ?_
  refine lv_iconst (v := 1) F.1.1 F.1.2.1 h1 rfl ?_
  exact lw_ret F.1.1 F.1.2.1 F.1.2.2.1 F.1.2.2.2.2.2.2.2.2.1 h2
theorem lj_head {off : Int} {tgt : Nat} (hn : n ≤ 3000) (h0 : decode code pc = .ok (.iload_n 3, 1)) (h1 : decode code (pc + 1) = .ok (.aload_n 0, 1)) (h2 : decode code (pc + 2) = .ok (.arraylength, 1)) (h3 : decode code (pc + 3) = .ok (.iconst 5, 1)) (h4 : decode code (pc + 4) = .ok (.isub, 1)) (h5 : decode code (pc + 5) = .ok (.if_icmp .gt off, 3)) (ht : ((pc + 5 : Nat) : Int) + off = (tgt : Int))
    (K1 : L < n + 5 → LJ F σ n tgt [] h) (K0 : n + 5 ≤ L → LJ F σ n (pc + 8) [] h) : LJ F σ n pc [] h := by
  refine lj_i h0 (lj_s h1 ?_)
  intro H locs ls hP hD hS hB E
  have hL := F.2.2.2.1
  have hN := NN_le
  refine va_slen F.1.1 F.1.2.1 F.1.2.2.2.2.2.2.1 F.1.2.2.2.2.2.2.2.1 (Nat.not_le.mpr F.1.2.2.2.2.2.2.2.1) hS h2 ?_
  refine lv_iconst (v := zI 5) F.1.1 F.1.2.1 h3 rfl ?_
  refine lv_isub F.1.1 F.1.2.1 h4 ?_
  have hv : Int32.ofNat L - zI 5 = zI ((L : Int) - 5) := by
    rw [show Int32.ofNat L = zI (L : Int) from rfl, zI_sub]
  rw [hv]
  have hc : (zI ((L : Int) - 5) < zI (n : Int)) ↔ L < n + 5 := by
    rw [Int32.lt_iff_toInt_lt, zI_toInt (by omega) (by omega), zI_toInt (by omega) (by omega)]
    omega
  refine lv_icmp_gt F.1.1 F.1.2.1 h5 ht (fun q => ?_) (fun q => ?_)
  · exact K1 (hc.mp q) H locs ls hP hD hS hB E
  · exact K0 (Nat.not_lt.mp (fun w => q (hc.mpr w))) H locs ls hP hD hS hB E
theorem lj_key (hn : n < L) (h0 : decode code pc = .ok (.aload_n 0, 1)) (h1 : decode code (pc + 1) = .ok (.iload_n 3, 1)) (h2 : decode code (pc + 2) = .ok (.iaload, 1)) (h3 : decode code (pc + 3) = .ok (.bipush 63, 2)) (h4 : decode code (pc + 5) = .ok (.iand, 1)) (K : ∀ x : Int32, LJ F σ n (pc + 6) [.int x] h) : LJ F σ n pc [] h := by
  refine lj_s h0 (lj_i h1 (lj_ld hn h2 ?_))
  intro H locs ls hP hD hS hB E
  refine lv_bipush (v := 63) F.1.1 F.1.2.1 h3 rfl ?_
  refine lv_iand F.1.1 F.1.2.1 h4 ?_
  exact K _ H locs ls hP hD hS hB E
theorem lj_table {d : Int} {offs : Array Int} {len tg : Nat} {T : List Nat} {x : Int32} (hd : decode code pc = .ok (.tableswitch d 0 38 offs, len)) (hT : (List.range 39).all (fun t => decide ((offs[t]?).map (fun o => (pc : Int) + o) = some ((T.getD t 0 : Nat) : Int))) = true) (ht : (pc : Int) + d = (tg : Int)) (KD : LJ F σ n tg [] h) (K : ∀ t, t < 39 → LJ F σ n (T.getD t 0) [] h) : LJ F σ n pc [.int x] h := by
  intro H locs ls hP hD hS hB E
  by_cases q : x.toInt < 0 ∨ 38 < x.toInt
  · exact lv_tableOut F.1.1 F.1.2.1 hd q ht (KD H locs ls hP hD hS hB E)
  · obtain ⟨t, hx⟩ : ∃ t : Nat, x.toInt = (t : Int) := ⟨x.toInt.toNat, by omega⟩
    have htl : t < 39 := by omega
    have h1 := List.all_eq_true.mp hT t (List.mem_range.mpr htl)
    rw [decide_eq_true_eq] at h1
    obtain ⟨o, ho, he⟩ := Option.map_eq_some_iff.mp h1
    refine lv_tableIn (off := o) (tgt := T.getD t 0) F.1.1 F.1.2.1 hd (by omega) (by omega) ?_ he (K t htl H locs ls hP hD hS hB E)
    rw [hx, show ((t : Int) - 0).toNat = t by omega]
    exact ho
theorem all39 {P : Nat → Prop} (p0 : P 0) (p1 : P 1) (p2 : P 2) (p3 : P 3) (p4 : P 4) (p5 : P 5) (p6 : P 6) (p7 : P 7) (p8 : P 8) (p9 : P 9) (p10 : P 10) (p11 : P 11) (p12 : P 12) (p13 : P 13) (p14 : P 14) (p15 : P 15) (p16 : P 16) (p17 : P 17) (p18 : P 18) (p19 : P 19) (p20 : P 20) (p21 : P 21) (p22 : P 22) (p23 : P 23) (p24 : P 24) (p25 : P 25) (p26 : P 26) (p27 : P 27) (p28 : P 28) (p29 : P 29) (p30 : P 30) (p31 : P 31) (p32 : P 32) (p33 : P 33) (p34 : P 34) (p35 : P 35) (p36 : P 36) (p37 : P 37) (p38 : P 38) : ∀ k, k < 39 → P k := fun k hk => match k, hk with
  | 0, _ => p0
  | 1, _ => p1
  | 2, _ => p2
  | 3, _ => p3
  | 4, _ => p4
  | 5, _ => p5
  | 6, _ => p6
  | 7, _ => p7
  | 8, _ => p8
  | 9, _ => p9
  | 10, _ => p10
  | 11, _ => p11
  | 12, _ => p12
  | 13, _ => p13
  | 14, _ => p14
  | 15, _ => p15
  | 16, _ => p16
  | 17, _ => p17
  | 18, _ => p18
  | 19, _ => p19
  | 20, _ => p20
  | 21, _ => p21
  | 22, _ => p22
  | 23, _ => p23
  | 24, _ => p24
  | 25, _ => p25
  | 26, _ => p26
  | 27, _ => p27
  | 28, _ => p28
  | 29, _ => p29
  | 30, _ => p30
  | 31, _ => p31
  | 32, _ => p32
  | 33, _ => p33
  | 34, _ => p34
  | 35, _ => p35
  | 36, _ => p36
  | 37, _ => p37
  | 38, _ => p38
  | k + 39, hk => absurd hk (by omega)
end LAWK
