/-! ===== constructors: what is made comes behind what there is ===== -/
def rmC (d c k : Nat) : Room := { frames := d, cells := c, slots := k, locals := 40 * d }
def preW (G : va_G) (cI cR : ClassId) (sz : Nat) (ws : va_W) (U : State) : Prop := U.heap.size = sz ∧ va_P G vwCl ws U.heap ∧ va_K G vwCl (tyz cI cR) U ∧ va_D (fun _ => True) ws ∧ NW U ∧ va_AO RX4 U
theorem preW_blind {G : va_G} {cI cR : ClassId} {sz : Nat} {ws : va_W} {av : List Value} : FrameBlind (va_Pc av (preW G cI cR sz ws)) :=
  fun a U g mk q => ⟨q.1, q.2.1, q.2.2.1, va_K.moved (u := U) (U := U.calling g mk a) (Vm.Alike.refl U.vm) q.2.2.2.1, q.2.2.2.2.1, NW.same (s := U) (U := U.calling g mk a) rfl q.2.2.2.2.2.1, va_AO.moved (u := U) (U := U.calling g mk a) (Vm.Alike.refl U.vm) q.2.2.2.2.2.2⟩
def QW (G : va_G) (cI cR : ClassId) (A : Nat → Prop) (Sh : va_W → Prop) : Array Value → State → Outcome → State → Prop := va_Qv Sh (fun w t => va_P G vwCl w t.heap ∧ va_K G vwCl (tyz cI cR) t ∧ va_D A w) A
abbrev SHP : Type := Nat → ClassId → ClassId → va_W → Prop
def Ctr (M : MD) (d c k : Nat) (o : Nat) (fs : List Value) (Sh : SHP) : Prop :=
  ∀ (l : Launch) (G : va_G) (cI cR : ClassId) (sz h0 : Nat), Met l (mY M) (wsM M) (rmC d c k) (va_Pc [.ref h0] (preW G cI cR sz [(h0, .inr (o, fs))])) (QW G cI cR (va_A [(h0, .inr (o, fs))] sz) (Sh h0 cI cR)) c k (va_A [(h0, .inr (o, fs))] sz)
def JW (cI cR : ClassId) (M : MD) (R : Room) (Sh : va_W → Prop) (pc : Nat) (lv : List (Nat × Value)) (st : List Value) (ws : va_W) (cc ss : Nat) : Prop :=
  ∀ (p : Program) (l : Launch) (e : Env) (s : State) (m : MethodId) (args : Array Value) (below : List Frame) (meth : Method) (c : Code) (H : Heap) (locs : List Loc) (G : va_G) (A : Nat → Prop) (ls : Array Slot),
    Fix M p s m args meth c G cI cR A → (meth.name = "<init>" ∧ va_AO RX4 s) → va_P G vwCl ws H → va_D A ws → va_S A s.heap H locs → lv_has ls (mL M) lv →
    W p l e R s m args below meth c H locs cc ss (MQ below (QW G cI cR A Sh) args s R.cells R.slots A) (F0 m pc ls st)
theorem ctr_of {M : MD} {d c k o : Nat} {fs : List Value} {Sh : SHP} (hM : okM M) (hname : (mY M).name = "<init>") (hn : 1 ≤ mL M) (K : ∀ (cI cR : ClassId) (h0 : Nat), JW cI cR M (rmC d c k) (Sh h0 cI cR) 0 [(0, .ref h0)] [] [(h0, .inr (o, fs))] 0 0) : Ctr M d c k o fs Sh := by
  intro l G cI cR sz h0
  obtain ⟨h1, h2, h3, h4, h5, h6, h7⟩ := okM_sp hM
  refine Met.ofW (cc := mB M) (maxL := mL M) (ret := mR M) h3 rfl ?_
  intro p e s m args below meth c s₁ B hml hv
  obtain ⟨rfl, hsz, hP, hK, hD0, hNW, hAO⟩ := hv
  have hts := atoms_spec (ws := wsM M) B.pre
  have hown : s.vm.findClass (cnm (mO M)) = some m.cls := by rw [← h4]; exact findClass_of_methodNamed B.named
  have hin : meth.name = "<init>" := by rw [← hname]; exact (name_of_methodNamed B.named B.method).1
  have hent := lv_entry ([.ref h0]) (n := mL M) hn
  rw [lg_entry_eq]
  exact K cI cR h0 p l e s m _ below meth c s.heap [] G _ _ ⟨B.exec, B.bytes, B.returns, hml, hown, B.notSynchronized, fun w hw => hts w (List.mem_cons_of_mem _ hw), hK, fun q hq => Or.inr (by rw [← hsz]; exact hq), hNW⟩ ⟨hin, hAO⟩ hP hD0.self va_S.rf hent
theorem va_nd_of {l : List Nat} (h : l.Nodup) : va_nd l = true := by
  induction l with
  | nil => rfl
  | cons a t ih =>
    rw [List.nodup_cons] at h
    simp only [va_nd, Bool.and_eq_true, decide_eq_true_eq]
    exact ⟨h.1, ih h.2⟩
theorem cI_eq {G : va_G} {cI cR cA : ClassId} {s : State} (h : va_K G vwCl (tyz cI cR ++ [(cA, .int)]) s) : cA = cI := by
  have h1 := (h.2 0 (cI, .int) rfl).2
  have h2 := (h.2 2 (cA, .int) rfl).2
  exact Option.some.inj (h2.symm.trans h1)
theorem cR_eq {G : va_G} {cI cR cA : ClassId} {s : State} (h : va_K G vwCl (tyz cI cR ++ [(cA, .object RX4)]) s) : cA = cR := by
  obtain ⟨_, _, _, _, _, h1⟩ := (h.2 1 (cR, .object RX4) rfl).2
  obtain ⟨_, _, _, _, _, h2⟩ := (h.2 2 (cA, .object RX4) rfl).2
  exact Option.some.inj (h2.symm.trans h1)
section JWS
variable {cI cR : ClassId} {M : MD} {R : Room} {Sh : va_W → Prop} {pc : Nat} {lv : List (Nat × Value)} {st : List Value} {ws : va_W} {cc ss : Nat}
theorem jw_aload {i : Fin 4} {x : Nat} (k : Nat) (hd : decode (mB M) pc = .ok (.aload_n i, 1)) (hk : lv[k]? = some ((i : Nat), .ref x)) (K : JW cI cR M R Sh (pc + 1) lv (.ref x :: st) ws cc ss) : JW cI cR M R Sh pc lv st ws cc ss := by
  intro p l e s m args below meth c H locs G A ls F hin hP hD hS E
  exact lv_aload_n F.1 F.2.1 hd rfl (lv_at E k hk) (K p l e s m args below meth c H locs G A ls F hin hP hD hS E)
theorem jw_iload {i : Fin 4} {x : Int32} (k : Nat) (hd : decode (mB M) pc = .ok (.iload_n i, 1)) (hk : lv[k]? = some ((i : Nat), .int x)) (K : JW cI cR M R Sh (pc + 1) lv (.int x :: st) ws cc ss) : JW cI cR M R Sh pc lv st ws cc ss := by
  intro p l e s m args below meth c H locs G A ls F hin hP hD hS E
  exact lv_iload_n F.1 F.2.1 hd rfl (lv_at E k hk) (K p l e s m args below meth c H locs G A ls F hin hP hD hS E)
theorem jw_bip {n : Int} {v : Int32} (hd : decode (mB M) pc = .ok (.bipush n, 2)) (hv : (Int8.ofInt n).toInt32 = v) (K : JW cI cR M R Sh (pc + 2) lv (.int v :: st) ws cc ss) : JW cI cR M R Sh pc lv st ws cc ss := by
  intro p l e s m args below meth c H locs G A ls F hin hP hD hS E
  exact lv_bipush F.1 F.2.1 hd hv (K p l e s m args below meth c H locs G A ls F hin hP hD hS E)
theorem jw_sip {n : Int} {v : Int32} (hd : decode (mB M) pc = .ok (.sipush n, 3)) (hv : (Int16.ofInt n).toInt32 = v) (K : JW cI cR M R Sh (pc + 3) lv (.int v :: st) ws cc ss) : JW cI cR M R Sh pc lv st ws cc ss := by
  intro p l e s m args below meth c H locs G A ls F hin hP hD hS E
  exact lv_sipush F.1 F.2.1 hd hv (K p l e s m args below meth c H locs G A ls F hin hP hD hS E)
theorem jw_icn {n : Int} {v : Int32} (hd : decode (mB M) pc = .ok (.iconst n, 1)) (hv : Int32.ofInt n = v) (K : JW cI cR M R Sh (pc + 1) lv (.int v :: st) ws cc ss) : JW cI cR M R Sh pc lv st ws cc ss := by
  intro p l e s m args below meth c H locs G A ls F hin hP hD hS E
  exact lv_iconst F.1 F.2.1 hd hv (K p l e s m args below meth c H locs G A ls F hin hP hD hS E)
theorem jw_dup {x : Nat} (hd : decode (mB M) pc = .ok (.dup, 1)) (K : JW cI cR M R Sh (pc + 1) lv (.ref x :: .ref x :: st) ws cc ss) : JW cI cR M R Sh pc lv (.ref x :: st) ws cc ss := by
  intro p l e s m args below meth c H locs G A ls F hin hP hD hS E
  exact lv_dup F.1 F.2.1 hd rfl (K p l e s m args below meth c H locs G A ls F hin hP hD hS E)
theorem jw_istore {i : Fin 4} {x : Int32} {lv' : List (Nat × Value)} (hd : decode (mB M) pc = .ok (.istore_n i, 1)) (hn : (i : Nat) < mL M) (hl : ((i : Nat), Value.int x) :: lv.filter (fun q => !(q.1 == (i : Nat)) && !(q.1 + 1 == (i : Nat) && q.2.category == 2)) = lv') (K : JW cI cR M R Sh (pc + 1) lv' st ws cc ss) : JW cI cR M R Sh pc lv (.int x :: st) ws cc ss := by
  intro p l e s m args below meth c H locs G A ls F hin hP hD hS E
  exact lv_istore_n F.1 F.2.1 hd rfl E hn hl (fun ls' E' => K p l e s m args below meth c H locs G A ls' F hin hP hD hS E')
theorem jw_iinc {i k : Nat} {n : Int} {x v : Int32} {lv' : List (Nat × Value)} (hd : decode (mB M) pc = .ok (.iinc i n, 3)) (hk : lv[k]? = some (i, .int x)) (hv : x + Int32.ofInt n = v) (hn : i < mL M) (hl : (i, Value.int v) :: lv.filter (fun q => !(q.1 == i) && !(q.1 + 1 == i && q.2.category == 2)) = lv') (K : JW cI cR M R Sh (pc + 3) lv' st ws cc ss) : JW cI cR M R Sh pc lv st ws cc ss := by
  intro p l e s m args below meth c H locs G A ls F hin hP hD hS E
  exact lv_iinc F.1 F.2.1 hd E hk hv hn hl (fun ls' E' => K p l e s m args below meth c H locs G A ls' F hin hP hD hS E')
theorem jw_goto {off : Int} {tgt : Nat} (hd : decode (mB M) pc = .ok (.goto off, 3)) (ht : (pc : Int) + off = (tgt : Int)) (K : JW cI cR M R Sh tgt lv st ws cc ss) : JW cI cR M R Sh pc lv st ws cc ss := by
  intro p l e s m args below meth c H locs G A ls F hin hP hD hS E
  exact lv_goto F.1 F.2.1 hd ht (K p l e s m args below meth c H locs G A ls F hin hP hD hS E)
theorem jw_ge {x y : Int32} {off : Int} {tgt : Nat} (hd : decode (mB M) pc = .ok (.if_icmp .ge off, 3)) (ht : (pc : Int) + off = (tgt : Int)) (K1 : y ≤ x → JW cI cR M R Sh tgt lv st ws cc ss) (K0 : ¬ y ≤ x → JW cI cR M R Sh (pc + 3) lv st ws cc ss) : JW cI cR M R Sh pc lv (.int y :: .int x :: st) ws cc ss := by
  intro p l e s m args below meth c H locs G A ls F hin hP hD hS E
  exact lv_icmp_ge F.1 F.2.1 hd ht (fun q => K1 q p l e s m args below meth c H locs G A ls F hin hP hD hS E) (fun q => K0 q p l e s m args below meth c H locs G A ls F hin hP hD hS E)
theorem jw_obj {idx x : Nat} (hlink : (.methodLink (cnm (mO M)) idx Lib.objectInit : Cond) ∈ WT) (hinst : (.instanceMethod Lib.objectInit : Cond) ∈ WT) (hcode : (.code Lib.objectInit ⟨#[0xb1]⟩ 1 none : Cond) ∈ WT) (hd : decode (mB M) pc = .ok (.invokespecial idx, 3)) (hf : 1 ≤ R.frames) (hc : (st.map fun v => v.category).sum + 12 ≤ R.locals) (K : JW cI cR M R Sh (pc + 3) lv st ws cc ss) : JW cI cR M R Sh pc lv (.ref x :: st) ws cc ss := by
  intro p l e s m args below meth c H locs G A ls F hin hP hD hS E
  have hw := F.2.2.2.2.2.2.1
  refine W.objInit F.1 F.2.1 F.2.2.2.2.1 (hw _ hlink) (hw _ hinst) (hw _ hcode) rfl (by rw [F.2.2.2.1]; exact E.1) rfl hd hf ?_ ?_
  · show 2 * 0 + _ + 12 ≤ _
    omega
  · exact W.eq (g2 := F0 m (pc + 3) ls st) rfl (K p l e s m args below meth c H locs G A ls F hin hP hD hS E)
theorem jw_new {idx ci N : Nat} {C : String} {T : u_T} {fs : List Value} (hcl : vwCl[ci]? = some (C, T, N)) (hlink : (.classLink (cnm (mO M)) idx C : Cond) ∈ WT) (hinst : (.instantiable C N : Cond) ∈ WT) (hini : (.initialized C : Cond) ∈ WT) (ty : Nat → FieldType) (hty : ∀ k, k < N → parseFieldDescriptor (T k).2.2.1 = some (ty k)) (hfs : ∀ j, j < N → defaultValue (ty j) = vp_V fs j) (hd : decode (mB M) pc = .ok (.new idx, 3)) (hc : cc + 1 ≤ R.cells) (hs : ss + N ≤ R.slots)
    (K : ∀ q : Nat, JW cI cR M R Sh (pc + 3) lv (.ref q :: st) (ws ++ [(q, .inr (ci, fs))]) (cc + 1) (ss + N)) : JW cI cR M R Sh pc lv st ws cc ss := by
  intro p l e s m args below meth c H locs G A ls F hin hP hD hS E
  have hw := F.2.2.2.2.2.2.1
  obtain ⟨hu, _, _⟩ := clsF hcl
  exact va_new (Ts := WT) F.1 F.2.1 hw hu ty hty F.2.2.2.2.1 (hw _ hlink) (hw _ hinst) (hw _ hini) F.2.2.2.2.2.2.2.1 hP hD hS F.2.2.2.2.2.2.2.2.1 hcl hfs hc hs hd (fun q H1 hP1 hD1 hS1 => K q p l e s m args below meth c H1 locs G A ls F hin hP1 hD1 hS1 E)
theorem jw_newa {n : Int32} {N : Nat} (harr : (.arrayClass .int : Cond) ∈ WT) (hn : ¬ n < 0) (hN : n.toNatClampNeg = N) (hb : N * 4 ≤ 536870912) (hd : decode (mB M) pc = .ok (.newarray .int, 2)) (hc : cc + 1 ≤ R.cells) (hs : ss + N ≤ R.slots)
    (K : ∀ q : Nat, JW cI cR M R Sh (pc + 2) lv (.ref q :: st) (ws ++ [(q, .inl (cI, N, .inl (fun _ => 0)))]) (cc + 1) (ss + N)) : JW cI cR M R Sh pc lv (.int n :: st) ws cc ss := by
  intro p l e s m args below meth c H locs G A ls F hin hP hD hS E
  have hw := F.2.2.2.2.2.2.1
  refine va_newa (atype := .int) (a0 := (N, .inl (fun _ => 0))) F.1 F.2.1 (hw _ harr) rfl F.2.2.2.2.2.2.2.1 hP hD hS F.2.2.2.2.2.2.2.2.1 (fun cA => vp_cell_i cA N _) hn hN hb hc hs hd (fun q cA H1 hK1 hP1 hD1 hS1 => ?_)
  have := cI_eq hK1
  subst this
  exact K q p l e s m args below meth c H1 locs G A ls F hin hP1 hD1 hS1 E
theorem jw_newq {idx : Nat} {n : Int32} {N : Nat} (hlink : (.classLink (cnm (mO M)) idx RX4 : Cond) ∈ WT) (hn : ¬ n < 0) (hN : n.toNatClampNeg = N) (hb : N * 4 ≤ 536870912) (hd : decode (mB M) pc = .ok (.anewarray idx, 3)) (hc : cc + 1 ≤ R.cells) (hs : ss + N ≤ R.slots)
    (K : ∀ q : Nat, JW cI cR M R Sh (pc + 3) lv (.ref q :: st) (ws ++ [(q, .inl (cR, N, .inr (.inr (.inr (.inr (fun _ => none))))))]) (cc + 1) (ss + N)) : JW cI cR M R Sh pc lv (.int n :: st) ws cc ss := by
  intro p l e s m args below meth c H locs G A ls F hin hP hD hS E
  have hw := F.2.2.2.2.2.2.1
  refine va_newq (C := RX4) F.1 F.2.1 F.2.2.2.2.1 (hw _ hlink) hin.2 F.2.2.2.2.2.2.2.1 hP hD hS F.2.2.2.2.2.2.2.2.1 hn hN hb hc hs hd (fun q cA H1 hK1 hP1 hD1 hS1 => ?_)
  have := cR_eq hK1
  subst this
  exact K q p l e s m args below meth c H1 locs G A ls F hin hP1 hD1 hS1 E
theorem jw_putF {idx ci sl N q0 a : Nat} {C : String} {T : u_T} {fs : List Value} {v : Value} {ty : FieldType} (he : ws[q0]? = some (a, .inr (ci, fs))) (hcl : vwCl[ci]? = some (C, T, N)) (hsl : sl < N) (hlink : (.fieldLink (cnm (mO M)) idx C (T sl).2.1 (T sl).2.2.1 : Cond) ∈ WT) (hC : (T sl).1 = C) (hfin : (T sl).2.2.2 = true) (hdecl : (T sl).1 = cnm (mO M)) (hty : parseFieldDescriptor (T sl).2.2.1 = some ty) (hn : narrow ty v = v) (hfit : fits ty v = true) (hl : sl < fs.length) (hd : decode (mB M) pc = .ok (.putfield idx, 3))
    (K : JW cI cR M R Sh (pc + 3) lv st (ws.set q0 (a, .inr (ci, fs.set sl v))) cc ss) : JW cI cR M R Sh pc lv (v :: .ref a :: st) ws cc ss := by
  intro p l e s m args below meth c H locs G A ls F hin hP hD hS E
  have hw := F.2.2.2.2.2.2.1
  obtain ⟨hu, ⟨ty0, hty0⟩, hnm⟩ := clsF hcl
  exact va_putF (Ts := WT) F.1 F.2.1 hw hu ty0 hty0 hnm F.2.2.2.2.1 F.2.2.2.2.2.2.2.1 hP hD hS q0 he hcl sl hsl (hw _ hlink) (fun x hx => by rw [← hC]; exact hx) hfin hin.1 hdecl hty hn hfit hl hd (fun H1 locs1 hP1 hD1 hS1 => K p l e s m args below meth c H1 locs1 G A ls F hin hP1 hD1 hS1 E)
theorem jw_put {idx ci sl N q0 a : Nat} {C : String} {T : u_T} {fs : List Value} {v : Value} {ty : FieldType} (he : ws[q0]? = some (a, .inr (ci, fs))) (hcl : vwCl[ci]? = some (C, T, N)) (hsl : sl < N) (hlink : (.fieldLink (cnm (mO M)) idx C (T sl).2.1 (T sl).2.2.1 : Cond) ∈ WT) (hC : (T sl).1 = C) (hfin : (T sl).2.2.2 = false) (hty : parseFieldDescriptor (T sl).2.2.1 = some ty) (hn : narrow ty v = v) (hfit : fits ty v = true) (hl : sl < fs.length) (hd : decode (mB M) pc = .ok (.putfield idx, 3))
    (K : JW cI cR M R Sh (pc + 3) lv st (ws.set q0 (a, .inr (ci, fs.set sl v))) cc ss) : JW cI cR M R Sh pc lv (v :: .ref a :: st) ws cc ss := by
  intro p l e s m args below meth c H locs G A ls F hin hP hD hS E
  have hw := F.2.2.2.2.2.2.1
  obtain ⟨hu, ⟨ty0, hty0⟩, hnm⟩ := clsF hcl
  exact va_put (Ts := WT) F.1 F.2.1 hw hu ty0 hty0 hnm F.2.2.2.2.1 F.2.2.2.2.2.2.2.1 hP hD hS q0 he hcl sl hsl (hw _ hlink) (fun x hx => by rw [← hC]; exact hx) hfin hty hn hfit hl hd (fun H1 locs1 hP1 hD1 hS1 => K p l e s m args below meth c H1 locs1 G A ls F hin hP1 hD1 hS1 E)
theorem jw_get {idx ci sl N q0 a : Nat} {C : String} {T : u_T} {fs : List Value} {v : Value} (he : ws[q0]? = some (a, .inr (ci, fs))) (hcl : vwCl[ci]? = some (C, T, N)) (hsl : sl < N) (hlink : (.fieldLink (cnm (mO M)) idx C (T sl).2.1 (T sl).2.2.1 : Cond) ∈ WT) (hC : (T sl).1 = C) (hv : fs[sl]? = some v) (hd : decode (mB M) pc = .ok (.getfield idx, 3))
    (K : JW cI cR M R Sh (pc + 3) lv (v :: st) ws cc ss) : JW cI cR M R Sh pc lv (.ref a :: st) ws cc ss := by
  intro p l e s m args below meth c H locs G A ls F hin hP hD hS E
  have hw := F.2.2.2.2.2.2.1
  obtain ⟨hu, _, _⟩ := clsF hcl
  exact va_get (Ts := WT) F.1 F.2.1 hw hu F.2.2.2.2.1 F.2.2.2.2.2.2.2.1 hP q0 he hcl sl hsl (hw _ hlink) (fun x hx => by rw [← hC]; exact hx) hv hd (K p l e s m args below meth c H locs G A ls F hin hP hD hS E)
theorem jw_iast {q0 a n : Nat} {f : Nat → Int32} {i x : Int32} (ha : ws[q0]? = some (a, .inl (cI, n, .inl f))) (hi : vp_in i n) (hd : decode (mB M) pc = .ok (.iastore, 1))
    (K : JW cI cR M R Sh (pc + 1) lv st (ws.set q0 (a, .inl (cI, n, .inl (upd f i.toNatClampNeg x)))) cc ss) : JW cI cR M R Sh pc lv (.int x :: .int i :: .ref a :: st) ws cc ss := by
  intro p l e s m args below meth c H locs G A ls F hin hP hD hS E
  exact va_iast F.1 F.2.1 F.2.2.2.2.2.2.2.1 hP hD hS q0 0 ha rfl hi hd (fun H1 locs1 hP1 hD1 hS1 => K p l e s m args below meth c H1 locs1 G A ls F hin hP1 hD1 hS1 E)
theorem jw_aast {q0 qk a n v : Nat} {f : Nat → Option Nat} {vs : List Value} {i : Int32} (ha : ws[q0]? = some (a, .inl (cR, n, .inr (.inr (.inr (.inr f)))))) (hv : ws[qk]? = some (v, .inr (4, vs))) (hi : vp_in i n) (hd : decode (mB M) pc = .ok (.aastore, 1))
    (K : JW cI cR M R Sh (pc + 1) lv st (ws.set q0 (a, .inl (cR, n, .inr (.inr (.inr (.inr (va_up f i.toNatClampNeg (some v)))))))) cc ss) : JW cI cR M R Sh pc lv (.ref v :: .int i :: .ref a :: st) ws cc ss := by
  intro p l e s m args below meth c H locs G A ls F hin hP hD hS E
  exact va_astq (r := (RX4, TX4, 10)) F.1 F.2.1 F.2.2.2.2.2.2.2.1 hP hD hS q0 1 qk 4 ha rfl hv rfl hi hd (fun H1 locs1 hP1 hD1 hS1 => K p l e s m args below meth c H1 locs1 G A ls F hin hP1 hD1 hS1 E)
theorem range_map {α : Type} (wr : List α) (x : α) : (List.range wr.length).map (fun i => (wr ++ [x])[i]?) = wr.map some := by
  apply List.ext_getElem?
  intro i
  by_cases h : i < wr.length
  · simp [h, List.getElem?_append_left h]
  · simp [Nat.not_lt.mp h]
theorem jw_ctor {Y : MD} {idx d c0 k0 o q : Nat} {fs : List Value} {Sh2 : SHP} {wr : va_W} (hY : Ctr Y d c0 k0 o fs Sh2) (hok : okM Y) (hname : (mY Y).name = "<init>") (hret : mR Y = none) (hpar : mN Y = 0) (hlink : (.methodLink (cnm (mO M)) idx (mY Y) : Cond) ∈ WT ∨ (.methodLinkNest (cnm (mO M)) idx (mY Y) (cnm 6) : Cond) ∈ NT) (hinst : (.instanceMethod (mY Y) : Cond) ∈ WT) (hfr : d + 1 ≤ R.frames) (hlo : 8 + (mL Y + 11) + 40 * d ≤ R.locals) (hcat : ((Value.ref q :: st).map fun v => v.category).sum ≤ 8) (hd : decode (mB M) pc = .ok (.invokespecial idx, 3)) (hc : cc + c0 ≤ R.cells) (hs : ss + k0 ≤ R.slots)
    (K : ∀ w1 : va_W, Sh2 q cI cR w1 → JW cI cR M R Sh (pc + 3) lv (.ref q :: st) (wr ++ w1) (cc + c0) (ss + k0)) : JW cI cR M R Sh pc lv (.ref q :: .ref q :: st) (wr ++ [(q, .inr (o, fs))]) cc ss := by
  intro p l e s m args below meth c H locs G A ls F hin hP hD hS E
  have hw := F.2.2.2.2.2.2.1
  obtain ⟨g1, g2, g3, g4, g5, g6, g7⟩ := okM_sp hok
  rw [hpar] at g6
  have hC : [wr.length].map (fun i => (wr ++ [(q, (.inr (o, fs) : va_E))])[i]?) = [(q, (.inr (o, fs) : va_E))].map some := by simp
  have hF := va_free hD hS F.2.2.2.2.2.2.2.2.1 [wr.length] hC
  have hPc : va_P G vwCl [(q, .inr (o, fs))] H := hP.sub [wr.length] (by simp)
  have hDc : va_D A [(q, (.inr (o, fs) : va_E))] := hD.sub [wr.length] (by simp [va_nd]) hC
  have hGI : GoodIn WT (wsM Y) := by
    intro w hw
    rcases List.mem_cons.mp hw with rfl | hw
    · exact WT_good _ g1
    · exact WT_good _ hw
  have hret' : wsM Y = .code (mY Y) (mB Y) (mL Y) none :: WT := by rw [← hret]; rfl
  have pre : PreS s H (va_Pc [.ref q] (preW G cI cR H.size [(q, .inr (o, fs))])) (.ref q :: []) := ⟨preW_blind, fun U hU hW => ⟨rfl, by rw [hU], by rw [hU]; exact hPc, va_K.moved hW.alike F.2.2.2.2.2.2.2.1, hDc.weaken (fun _ _ _ _ => trivial), F.2.2.2.2.2.2.2.2.2.warm hW, hin.2.moved hW.alike⟩⟩
  have run : va_Run p l e R s m args below meth c H locs cc ss c0 k0 (F0 m pc ls (.ref q :: .ref q :: st)) (.ref q :: st) (QW G cI cR (va_A [(q, .inr (o, fs))] H.size) (Sh2 q cI cR) (Value.ref q :: []).toArray) (va_A [(q, .inr (o, fs))] H.size) := by
    rcases hlink with hl | hl
    · exact va_runI (As := []) (rest := .ref q :: st) ⟨F.1, F.2.1, F.2.2.2.1, F.2.2.2.2.1, hw⟩ (hY l G cI cR H.size q) (cwI 0 hw hGI hret' rfl rfl (hw _ g2) (hw _ hl) (hw _ hinst) hname ⟨g5.1, g5.2, g6⟩ ⟨hfr, hlo⟩) pre rfl rfl E.1 rfl (lv_room hcat) hd ⟨hc, hs⟩
    · exact va_runIN (As := []) (rest := .ref q :: st) ⟨F.1, F.2.1, F.2.2.2.1, F.2.2.2.2.1, hw⟩ (hY l G cI cR H.size q) ⟨va_cnB 0 hw hGI hret' rfl rfl (F.2.2.2.2.2.2.2.2.2 _ hl) (hw _ g2) ⟨g5.1, g5.2, g6⟩ ⟨hfr, hlo⟩, hname, hw _ hinst⟩ pre rfl rfl E.1 rfl (lv_room hcat) hd ⟨hc, hs⟩
  refine va_callv run hS (fun x _ h => hF x h) hF (fun w1 t H1 locs1 ht hvm hsh hB hz1 hk1 hS1 => ?_)
  obtain ⟨hP1, hK1, hD1⟩ := hB
  rw [ht] at hP1
  obtain ⟨hP2, hD2⟩ := va_join (wr := wr) (w1 := w1) hP hD [wr.length] (List.range wr.length) hC (range_map wr _) (va_nd_of List.nodup_range) (fun i hi hj => by
    rw [List.mem_range] at hi
    rw [List.mem_singleton] at hj
    omega) hk1 hF hP1 hD1
  exact K w1 hsh p l e s m args below meth c H1 locs1 G A ls F hin hP2 hD2 hS1 E
theorem jw_ret (hret : mR M = none) (hsh : Sh ws) (hc : cc ≤ R.cells) (hs : ss ≤ R.slots) (hd : decode (mB M) pc = .ok (.return_, 1)) : JW cI cR M R Sh pc lv [] ws cc ss := by
  intro p l e s m args below meth c H locs G A ls F hin hP hD hS E
  refine W.widen hc hs ?_
  exact W.vret F.1 F.2.1 (F.2.2.1.trans hret) (fun t ht hW => ⟨⟨ws, rfl, hsh, by rw [ht]; exact hP, va_K.moved hW.alike F.2.2.2.2.2.2.2.1, hD⟩, hS.F ht⟩) hS.2.2 hd F.2.2.2.2.2.1
end JWS
